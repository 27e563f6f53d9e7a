set_option maxRecDepth 1000000 in
theorem bX12_skin_29 (a1 : Int32) (a2 : Int32) (a3 : Int32) {s : SM} {Q : Int32 → SM → Prop} (h : ((a2 ≤ a3 → Q (gI s 248 35) s) ∧ (¬ a2 ≤ a3 → rX12_markOf s a1 a3 ∧ rX12_put s (if ((vX12_markOf s a1 a3) - (vX12_markOf s a1 a3) / (2 : Int32) * (2 : Int32)) = 0 then (43 : Int32) else (45 : Int32)) ∧ (∀ s1, s1 = (mX12_put s (if ((vX12_markOf s a1 a3) - (vX12_markOf s a1 a3) / (2 : Int32) * (2 : Int32)) = 0 then (43 : Int32) else (45 : Int32))) → rX12_put s1 (32 : Int32) ∧ rX12_of (mX12_put s1 (32 : Int32)) ((vX12_markOf s a1 a3) / (2 : Int32)) ((1 : Int32) - ((vX12_markOf s a1 a3) - (vX12_markOf s a1 a3) / (2 : Int32) * (2 : Int32))) ∧ vp_in (vX12_of (mX12_put s1 (32 : Int32)) ((vX12_markOf s a1 a3) / (2 : Int32)) ((1 : Int32) - ((vX12_markOf s a1 a3) - (vX12_markOf s a1 a3) / (2 : Int32) * (2 : Int32)))) 30 ∧ rX12_putName (mX12_put s1 (32 : Int32)) (gL (mX12_put s1 (32 : Int32)) 253 ((vX12_of (mX12_put s1 (32 : Int32)) ((vX12_markOf s a1 a3) / (2 : Int32)) ((1 : Int32) - ((vX12_markOf s a1 a3) - (vX12_markOf s a1 a3) / (2 : Int32) * (2 : Int32))))).toNatClampNeg) ∧ (∀ s3, s3 = (mX12_putName (mX12_put s1 (32 : Int32)) (gL (mX12_put s1 (32 : Int32)) 253 ((vX12_of (mX12_put s1 (32 : Int32)) ((vX12_markOf s a1 a3) / (2 : Int32)) ((1 : Int32) - ((vX12_markOf s a1 a3) - (vX12_markOf s a1 a3) / (2 : Int32) * (2 : Int32))))).toNatClampNeg)) → rX12_put s3 (32 : Int32) ∧ rX12_of (mX12_put s3 (32 : Int32)) ((vX12_markOf s a1 a3) / (2 : Int32)) (8 : Int32) ∧ (((vX12_has (mX12_put s3 (32 : Int32)) (vX12_of (mX12_put s3 (32 : Int32)) ((vX12_markOf s a1 a3) / (2 : Int32)) (8 : Int32)) ((vX12_markOf s a1 a3) - (vX12_markOf s a1 a3) / (2 : Int32) * (2 : Int32))) = 0 → rX12_of (mX12_put s3 (32 : Int32)) ((vX12_markOf s a1 a3) / (2 : Int32)) (2 : Int32) ∧ rX12_putNumber (mX12_put s3 (32 : Int32)) (vX12_of (mX12_put s3 (32 : Int32)) ((vX12_markOf s a1 a3) / (2 : Int32)) (2 : Int32)) ∧ (∀ s4, s4 = (mX12_putNumber (mX12_put s3 (32 : Int32)) (vX12_of (mX12_put s3 (32 : Int32)) ((vX12_markOf s a1 a3) / (2 : Int32)) (2 : Int32))) → BI MX12_skin 2 137 [(0, .ref 248), (1, .int a1), (2, .int a2), (3, .int a3), (4, .int (vX12_markOf s a1 a3)), (5, .int ((vX12_markOf s a1 a3) / (2 : Int32)))] s4 Q)) ∧ (¬ (vX12_has (mX12_put s3 (32 : Int32)) (vX12_of (mX12_put s3 (32 : Int32)) ((vX12_markOf s a1 a3) / (2 : Int32)) (8 : Int32)) ((vX12_markOf s a1 a3) - (vX12_markOf s a1 a3) / (2 : Int32) * (2 : Int32))) = 0 → rX12_put (mX12_put s3 (32 : Int32)) (63 : Int32) ∧ BI MX12_skin 2 137 [(0, .ref 248), (1, .int a1), (2, .int a2), (3, .int a3), (4, .int (vX12_markOf s a1 a3)), (5, .int ((vX12_markOf s a1 a3) / (2 : Int32)))] (mX12_put (mX12_put s3 (32 : Int32)) (63 : Int32)) Q))))))) : BI MX12_skin 2 29 [(0, .ref 248), (1, .int a1), (2, .int a2), (3, .int a3)] s Q := by
  refine JT_iload_n (q := 3) dX12_skin_29 rfl rfl ?_
  refine JT_iload_n (q := 2) dX12_skin_30 rfl rfl ?_
  refine JT_icmp_ge (tgt := 206) dX12_skin_31 (by decide) (fun hc19 => ?_) (fun hc19 => ?_)
  · have h := h.1 hc19
    refine JT_aload_n (q := 0) dX12_skin_206 rfl rfl ?_
    refine JS_getI dX12_skin_207 flX12_386 BS_248 (Nat.le_of_ble_eq_true rfl) (Nat.le_of_ble_eq_true rfl) (Or.inl ct_12_35) ?_
    exact JS_iret dX12_skin_210 rfl rfl h
  · have h := h.2 hc19
    refine JT_aload_n (q := 0) dX12_skin_34 rfl rfl ?_
    refine JT_iload_n (q := 1) dX12_skin_35 rfl rfl ?_
    refine JT_iload_n (q := 3) dX12_skin_36 rfl rfl ?_
    obtain ⟨o18, h⟩ := h
    refine JS_callVI (M' := MX12_markOf) (d' := 1) (As := [.int a1, .int a3]) (rest := []) (P := (fun zv9 wm9 => (vX12_markOf s a1 a3) = zv9 ∧ s = wm9)) dX12_skin_37 cvX12_315 okX12_markOf rfl (Nat.le_of_ble_eq_true rfl) BS_248 (Nat.le_of_ble_eq_true rfl) (Nat.le_of_ble_eq_true rfl) hci_12 (Nat.le_of_ble_eq_true rfl) (Nat.le_of_ble_eq_true rfl) (pX12_markOf  (a1) (a3) o18 ⟨rfl, rfl⟩) (fun zv9 wm9 hq9 => ?_)
    obtain ⟨rfl, rfl⟩ := hq9
    refine JT_istore (lv' := [(4, .int (vX12_markOf s a1 a3)), (0, .ref 248), (1, .int a1), (2, .int a2), (3, .int a3)]) dX12_skin_40 (Nat.le_of_ble_eq_true rfl) rfl ?_
    refine JT_iload (q := 0) dX12_skin_42 rfl ?_
    refine JT_iconst (v := 2) dX12_skin_44 ic_2 ?_
    refine JT_idiv dX12_skin_45 (by decide) ?_
    refine JT_istore (lv' := [(5, .int ((vX12_markOf s a1 a3) / (2 : Int32))), (4, .int (vX12_markOf s a1 a3)), (0, .ref 248), (1, .int a1), (2, .int a2), (3, .int a3)]) dX12_skin_46 (Nat.le_of_ble_eq_true rfl) rfl ?_
    refine JT_aload_n (q := 2) dX12_skin_48 rfl rfl ?_
    refine JT_iload (q := 1) dX12_skin_49 rfl ?_
    refine JT_iconst (v := 2) dX12_skin_51 ic_2 ?_
    refine JT_irem dX12_skin_52 (by decide) ?_
    have hj16 : ∀ v : Int32, v = (if ((vX12_markOf s a1 a3) - (vX12_markOf s a1 a3) / (2 : Int32) * (2 : Int32)) = 0 then (43 : Int32) else (45 : Int32)) → JT MX12_skin 2 0 0 63 [(5, .int ((vX12_markOf s a1 a3) / (2 : Int32))), (4, .int (vX12_markOf s a1 a3)), (0, .ref 248), (1, .int a1), (2, .int a2), (3, .int a3)] [.int v, .ref 248] (std s) (KQ Q) := by
      intro v hv
      subst hv
      obtain ⟨o15, h⟩ := h
      refine JS_callVV (M' := MX12_put) (d' := 0) (As := [.int (if ((vX12_markOf s a1 a3) - (vX12_markOf s a1 a3) / (2 : Int32) * (2 : Int32)) = 0 then (43 : Int32) else (45 : Int32))]) (rest := []) (P := (fun wm9 => (mX12_put s (if ((vX12_markOf s a1 a3) - (vX12_markOf s a1 a3) / (2 : Int32) * (2 : Int32)) = 0 then (43 : Int32) else (45 : Int32))) = wm9)) dX12_skin_63 cvX12_391 okX12_put rfl (Nat.le_of_ble_eq_true rfl) BS_248 (Nat.le_of_ble_eq_true rfl) (Nat.le_of_ble_eq_true rfl) hci_12 (Nat.le_of_ble_eq_true rfl) (Nat.le_of_ble_eq_true rfl) (pX12_put  ((if ((vX12_markOf s a1 a3) - (vX12_markOf s a1 a3) / (2 : Int32) * (2 : Int32)) = 0 then (43 : Int32) else (45 : Int32))) o15 rfl) (fun wm9 hq9 => ?_)
      subst hq9
      obtain ⟨s1, hs1⟩ : ∃ z, z = (mX12_put s (if ((vX12_markOf s a1 a3) - (vX12_markOf s a1 a3) / (2 : Int32) * (2 : Int32)) = 0 then (43 : Int32) else (45 : Int32))) := ⟨_, rfl⟩
      replace h := h s1 hs1
      rw [← hs1]
      refine JT_aload_n (q := 2) dX12_skin_66 rfl rfl ?_
      refine JT_bipush (v := 32) dX12_skin_67 bp_32 ?_
      obtain ⟨o14, h⟩ := h
      refine JS_callVV (M' := MX12_put) (d' := 0) (As := [.int (32 : Int32)]) (rest := []) (P := (fun wm9 => (mX12_put s1 (32 : Int32)) = wm9)) dX12_skin_69 cvX12_391 okX12_put rfl (Nat.le_of_ble_eq_true rfl) BS_248 (Nat.le_of_ble_eq_true rfl) (Nat.le_of_ble_eq_true rfl) hci_12 (Nat.le_of_ble_eq_true rfl) (Nat.le_of_ble_eq_true rfl) (pX12_put  ((32 : Int32)) o14 rfl) (fun wm9 hq9 => ?_)
      subst hq9
      refine JT_aload_n (q := 2) dX12_skin_72 rfl rfl ?_
      refine JT_aload_n (q := 2) dX12_skin_73 rfl rfl ?_
      refine JS_getR (x := 253) dX12_skin_74 flX12_43 BS_248 (Nat.le_of_ble_eq_true rfl) (Nat.le_of_ble_eq_true rfl) (Or.inr ⟨_, ct_12_9⟩) RF_248_9 ?_
      refine JT_aload_n (q := 2) dX12_skin_77 rfl rfl ?_
      refine JT_iload (q := 0) dX12_skin_78 rfl ?_
      refine JT_iconst (v := 1) dX12_skin_80 ic_1 ?_
      refine JT_iload (q := 1) dX12_skin_81 rfl ?_
      refine JT_iconst (v := 2) dX12_skin_83 ic_2 ?_
      refine JT_irem dX12_skin_84 (by decide) ?_
      refine JT_isub dX12_skin_85 ?_
      obtain ⟨o13, h⟩ := h
      refine JS_callVI (M' := MX12_of) (d' := 0) (As := [.int ((vX12_markOf s a1 a3) / (2 : Int32)), .int ((1 : Int32) - ((vX12_markOf s a1 a3) - (vX12_markOf s a1 a3) / (2 : Int32) * (2 : Int32)))]) (rest := [.ref 253, .ref 248]) (P := (fun zv9 wm9 => (vX12_of (mX12_put s1 (32 : Int32)) ((vX12_markOf s a1 a3) / (2 : Int32)) ((1 : Int32) - ((vX12_markOf s a1 a3) - (vX12_markOf s a1 a3) / (2 : Int32) * (2 : Int32)))) = zv9 ∧ (mX12_put s1 (32 : Int32)) = wm9)) dX12_skin_86 cvX12_265 okX12_of rfl (Nat.le_of_ble_eq_true rfl) BS_248 (Nat.le_of_ble_eq_true rfl) (Nat.le_of_ble_eq_true rfl) hci_12 (Nat.le_of_ble_eq_true rfl) (Nat.le_of_ble_eq_true rfl) (pX12_of  (((vX12_markOf s a1 a3) / (2 : Int32))) (((1 : Int32) - ((vX12_markOf s a1 a3) - (vX12_markOf s a1 a3) / (2 : Int32) * (2 : Int32)))) o13 ⟨rfl, rfl⟩) (fun zv9 wm9 hq9 => ?_)
      obtain ⟨rfl, rfl⟩ := hq9
      obtain ⟨o2, h⟩ := h
      refine JS_lald dX12_skin_89 BS_253 (Nat.le_of_ble_eq_true rfl) (Nat.le_of_ble_eq_true rfl) o2 ?_
      obtain ⟨o12, h⟩ := h
      refine JS_callVV (M' := MX12_putName) (d' := 1) (As := [.long (gL (mX12_put s1 (32 : Int32)) 253 ((vX12_of (mX12_put s1 (32 : Int32)) ((vX12_markOf s a1 a3) / (2 : Int32)) ((1 : Int32) - ((vX12_markOf s a1 a3) - (vX12_markOf s a1 a3) / (2 : Int32) * (2 : Int32))))).toNatClampNeg)]) (rest := []) (P := (fun wm9 => (mX12_putName (mX12_put s1 (32 : Int32)) (gL (mX12_put s1 (32 : Int32)) 253 ((vX12_of (mX12_put s1 (32 : Int32)) ((vX12_markOf s a1 a3) / (2 : Int32)) ((1 : Int32) - ((vX12_markOf s a1 a3) - (vX12_markOf s a1 a3) / (2 : Int32) * (2 : Int32))))).toNatClampNeg)) = wm9)) dX12_skin_90 cvX12_394 okX12_putName rfl (Nat.le_of_ble_eq_true rfl) BS_248 (Nat.le_of_ble_eq_true rfl) (Nat.le_of_ble_eq_true rfl) hci_12 (Nat.le_of_ble_eq_true rfl) (Nat.le_of_ble_eq_true rfl) (pX12_putName  ((gL (mX12_put s1 (32 : Int32)) 253 ((vX12_of (mX12_put s1 (32 : Int32)) ((vX12_markOf s a1 a3) / (2 : Int32)) ((1 : Int32) - ((vX12_markOf s a1 a3) - (vX12_markOf s a1 a3) / (2 : Int32) * (2 : Int32))))).toNatClampNeg)) o12 rfl) (fun wm9 hq9 => ?_)
      subst hq9
      obtain ⟨s3, hs3⟩ : ∃ z, z = (mX12_putName (mX12_put s1 (32 : Int32)) (gL (mX12_put s1 (32 : Int32)) 253 ((vX12_of (mX12_put s1 (32 : Int32)) ((vX12_markOf s a1 a3) / (2 : Int32)) ((1 : Int32) - ((vX12_markOf s a1 a3) - (vX12_markOf s a1 a3) / (2 : Int32) * (2 : Int32))))).toNatClampNeg)) := ⟨_, rfl⟩
      replace h := h s3 hs3
      rw [← hs3]
      refine JT_aload_n (q := 2) dX12_skin_93 rfl rfl ?_
      refine JT_bipush (v := 32) dX12_skin_94 bp_32 ?_
      obtain ⟨o11, h⟩ := h
      refine JS_callVV (M' := MX12_put) (d' := 0) (As := [.int (32 : Int32)]) (rest := []) (P := (fun wm9 => (mX12_put s3 (32 : Int32)) = wm9)) dX12_skin_96 cvX12_391 okX12_put rfl (Nat.le_of_ble_eq_true rfl) BS_248 (Nat.le_of_ble_eq_true rfl) (Nat.le_of_ble_eq_true rfl) hci_12 (Nat.le_of_ble_eq_true rfl) (Nat.le_of_ble_eq_true rfl) (pX12_put  ((32 : Int32)) o11 rfl) (fun wm9 hq9 => ?_)
      subst hq9
      refine JT_aload_n (q := 2) dX12_skin_99 rfl rfl ?_
      refine JT_iload (q := 0) dX12_skin_100 rfl ?_
      refine JT_bipush (v := 8) dX12_skin_102 bp_8 ?_
      obtain ⟨o10, h⟩ := h
      refine JS_callVI (M' := MX12_of) (d' := 0) (As := [.int ((vX12_markOf s a1 a3) / (2 : Int32)), .int (8 : Int32)]) (rest := []) (P := (fun zv9 wm9 => (vX12_of (mX12_put s3 (32 : Int32)) ((vX12_markOf s a1 a3) / (2 : Int32)) (8 : Int32)) = zv9 ∧ (mX12_put s3 (32 : Int32)) = wm9)) dX12_skin_104 cvX12_265 okX12_of rfl (Nat.le_of_ble_eq_true rfl) BS_248 (Nat.le_of_ble_eq_true rfl) (Nat.le_of_ble_eq_true rfl) hci_12 (Nat.le_of_ble_eq_true rfl) (Nat.le_of_ble_eq_true rfl) (pX12_of  (((vX12_markOf s a1 a3) / (2 : Int32))) ((8 : Int32)) o10 ⟨rfl, rfl⟩) (fun zv9 wm9 hq9 => ?_)
      obtain ⟨rfl, rfl⟩ := hq9
      refine JT_iload (q := 1) dX12_skin_107 rfl ?_
      refine JT_iconst (v := 2) dX12_skin_109 ic_2 ?_
      refine JT_irem dX12_skin_110 (by decide) ?_
      refine JS_callSI (M' := MX12_has) (d' := 0) (As := [.int (vX12_of (mX12_put s3 (32 : Int32)) ((vX12_markOf s a1 a3) / (2 : Int32)) (8 : Int32)), .int ((vX12_markOf s a1 a3) - (vX12_markOf s a1 a3) / (2 : Int32) * (2 : Int32))]) (rest := []) (P := (fun zv9 wm9 => (vX12_has (mX12_put s3 (32 : Int32)) (vX12_of (mX12_put s3 (32 : Int32)) ((vX12_markOf s a1 a3) / (2 : Int32)) (8 : Int32)) ((vX12_markOf s a1 a3) - (vX12_markOf s a1 a3) / (2 : Int32) * (2 : Int32))) = zv9 ∧ (mX12_put s3 (32 : Int32)) = wm9)) dX12_skin_111 cvX12_259 okX12_has rfl (Nat.le_of_ble_eq_true rfl) (Nat.le_of_ble_eq_true rfl) (Nat.le_of_ble_eq_true rfl) (pX12_has  ((vX12_of (mX12_put s3 (32 : Int32)) ((vX12_markOf s a1 a3) / (2 : Int32)) (8 : Int32))) (((vX12_markOf s a1 a3) - (vX12_markOf s a1 a3) / (2 : Int32) * (2 : Int32)))  ⟨rfl, rfl⟩) (fun zv9 wm9 hq9 => ?_)
      obtain ⟨rfl, rfl⟩ := hq9
      refine JT_if_eq (tgt := 126) dX12_skin_114 (by decide) (fun hc8 => ?_) (fun hc8 => ?_)
      · have h := h.1 hc8
        refine JT_aload_n (q := 2) dX12_skin_126 rfl rfl ?_
        refine JT_aload_n (q := 2) dX12_skin_127 rfl rfl ?_
        refine JT_iload (q := 0) dX12_skin_128 rfl ?_
        refine JT_iconst (v := 2) dX12_skin_130 ic_2 ?_
        obtain ⟨o6, h⟩ := h
        refine JS_callVI (M' := MX12_of) (d' := 0) (As := [.int ((vX12_markOf s a1 a3) / (2 : Int32)), .int (2 : Int32)]) (rest := [.ref 248]) (P := (fun zv9 wm9 => (vX12_of (mX12_put s3 (32 : Int32)) ((vX12_markOf s a1 a3) / (2 : Int32)) (2 : Int32)) = zv9 ∧ (mX12_put s3 (32 : Int32)) = wm9)) dX12_skin_131 cvX12_265 okX12_of rfl (Nat.le_of_ble_eq_true rfl) BS_248 (Nat.le_of_ble_eq_true rfl) (Nat.le_of_ble_eq_true rfl) hci_12 (Nat.le_of_ble_eq_true rfl) (Nat.le_of_ble_eq_true rfl) (pX12_of  (((vX12_markOf s a1 a3) / (2 : Int32))) ((2 : Int32)) o6 ⟨rfl, rfl⟩) (fun zv9 wm9 hq9 => ?_)
        obtain ⟨rfl, rfl⟩ := hq9
        obtain ⟨o5, h⟩ := h
        refine JS_callVV (M' := MX12_putNumber) (d' := 1) (As := [.int (vX12_of (mX12_put s3 (32 : Int32)) ((vX12_markOf s a1 a3) / (2 : Int32)) (2 : Int32))]) (rest := []) (P := (fun wm9 => (mX12_putNumber (mX12_put s3 (32 : Int32)) (vX12_of (mX12_put s3 (32 : Int32)) ((vX12_markOf s a1 a3) / (2 : Int32)) (2 : Int32))) = wm9)) dX12_skin_134 cvX12_398 okX12_putNumber rfl (Nat.le_of_ble_eq_true rfl) BS_248 (Nat.le_of_ble_eq_true rfl) (Nat.le_of_ble_eq_true rfl) hci_12 (Nat.le_of_ble_eq_true rfl) (Nat.le_of_ble_eq_true rfl) (pX12_putNumber  ((vX12_of (mX12_put s3 (32 : Int32)) ((vX12_markOf s a1 a3) / (2 : Int32)) (2 : Int32))) o5 rfl) (fun wm9 hq9 => ?_)
        subst hq9
        obtain ⟨s4, hs4⟩ : ∃ z, z = (mX12_putNumber (mX12_put s3 (32 : Int32)) (vX12_of (mX12_put s3 (32 : Int32)) ((vX12_markOf s a1 a3) / (2 : Int32)) (2 : Int32))) := ⟨_, rfl⟩
        replace h := h s4 hs4
        rw [← hs4]
        exact JT_sub [2, 3, 4, 5, 1, 0] rfl h
      · have h := h.2 hc8
        refine JT_aload_n (q := 2) dX12_skin_117 rfl rfl ?_
        refine JT_bipush (v := 63) dX12_skin_118 bp_63 ?_
        obtain ⟨o7, h⟩ := h
        refine JS_callVV (M' := MX12_put) (d' := 0) (As := [.int (63 : Int32)]) (rest := []) (P := (fun wm9 => (mX12_put (mX12_put s3 (32 : Int32)) (63 : Int32)) = wm9)) dX12_skin_120 cvX12_391 okX12_put rfl (Nat.le_of_ble_eq_true rfl) BS_248 (Nat.le_of_ble_eq_true rfl) (Nat.le_of_ble_eq_true rfl) hci_12 (Nat.le_of_ble_eq_true rfl) (Nat.le_of_ble_eq_true rfl) (pX12_put  ((63 : Int32)) o7 rfl) (fun wm9 hq9 => ?_)
        subst hq9
        refine JT_goto (tgt := 137) dX12_skin_123 (by decide) ?_
        exact JT_sub [2, 3, 4, 5, 1, 0] rfl h
    refine JT_if_ne (tgt := 61) dX12_skin_53 (by decide) (fun hc17 => ?_) (fun hc17 => ?_)
    · refine JT_bipush (v := 45) dX12_skin_61 bp_45 ?_
      exact hj16 _ (by rw [if_neg hc17])
    · refine JT_bipush (v := 43) dX12_skin_56 bp_43 ?_
      refine JT_goto (tgt := 63) dX12_skin_58 (by decide) ?_
      exact hj16 _ (by rw [if_pos hc17])
set_option maxRecDepth 1000000 in
theorem bX12_skin_137 (a1 : Int32) (a2 : Int32) (a3 : Int32) (a4 : Int32) (a5 : Int32) {s : SM} {Q : Int32 → SM → Prop} (h : rX12_put s (32 : Int32) ∧ rX12_of (mX12_put s (32 : Int32)) a5 (3 : Int32) ∧ vp_in ((9 : Int32) + (vX12_of (mX12_put s (32 : Int32)) a5 (3 : Int32))) 30 ∧ rX12_putName (mX12_put s (32 : Int32)) (gL (mX12_put s (32 : Int32)) 253 (((9 : Int32) + (vX12_of (mX12_put s (32 : Int32)) a5 (3 : Int32)))).toNatClampNeg) ∧ (∀ s2, s2 = (mX12_putName (mX12_put s (32 : Int32)) (gL (mX12_put s (32 : Int32)) 253 (((9 : Int32) + (vX12_of (mX12_put s (32 : Int32)) a5 (3 : Int32)))).toNatClampNeg)) → rX12_of s2 a5 (5 : Int32) ∧ (((vX12_of s2 a5 (5 : Int32)) ≤ 0 → rX12_put s2 (59 : Int32) ∧ BI MX12_skin 2 29 [(0, .ref 248), (1, .int a1), (2, .int a2), (3, .int (a3 + 1))] (mX12_put s2 (59 : Int32)) Q) ∧ (¬ (vX12_of s2 a5 (5 : Int32)) ≤ 0 → rX12_of s2 a5 (5 : Int32) ∧ rX12_put s2 (if (vX12_of s2 a5 (5 : Int32)) = (1 : Int32) then (120 : Int32) else (111 : Int32)) ∧ rX12_put (mX12_put s2 (if (vX12_of s2 a5 (5 : Int32)) = (1 : Int32) then (120 : Int32) else (111 : Int32))) (59 : Int32) ∧ (∀ s4, s4 = (mX12_put (mX12_put s2 (if (vX12_of s2 a5 (5 : Int32)) = (1 : Int32) then (120 : Int32) else (111 : Int32))) (59 : Int32)) → BI MX12_skin 2 29 [(0, .ref 248), (1, .int a1), (2, .int a2), (3, .int (a3 + 1))] s4 Q))))) : BI MX12_skin 2 137 [(0, .ref 248), (1, .int a1), (2, .int a2), (3, .int a3), (4, .int a4), (5, .int a5)] s Q := by
  refine JT_aload_n (q := 0) dX12_skin_137 rfl rfl ?_
  refine JT_bipush (v := 32) dX12_skin_138 bp_32 ?_
  obtain ⟨o14, h⟩ := h
  refine JS_callVV (M' := MX12_put) (d' := 0) (As := [.int (32 : Int32)]) (rest := []) (P := (fun wm9 => (mX12_put s (32 : Int32)) = wm9)) dX12_skin_140 cvX12_391 okX12_put rfl (Nat.le_of_ble_eq_true rfl) BS_248 (Nat.le_of_ble_eq_true rfl) (Nat.le_of_ble_eq_true rfl) hci_12 (Nat.le_of_ble_eq_true rfl) (Nat.le_of_ble_eq_true rfl) (pX12_put  ((32 : Int32)) o14 rfl) (fun wm9 hq9 => ?_)
  subst hq9
  refine JT_aload_n (q := 0) dX12_skin_143 rfl rfl ?_
  refine JT_aload_n (q := 0) dX12_skin_144 rfl rfl ?_
  refine JS_getR (x := 253) dX12_skin_145 flX12_43 BS_248 (Nat.le_of_ble_eq_true rfl) (Nat.le_of_ble_eq_true rfl) (Or.inr ⟨_, ct_12_9⟩) RF_248_9 ?_
  refine JT_bipush (v := 9) dX12_skin_148 bp_9 ?_
  refine JT_aload_n (q := 0) dX12_skin_150 rfl rfl ?_
  refine JT_iload (q := 5) dX12_skin_151 rfl ?_
  refine JT_iconst (v := 3) dX12_skin_153 ic_3 ?_
  obtain ⟨o13, h⟩ := h
  refine JS_callVI (M' := MX12_of) (d' := 0) (As := [.int a5, .int (3 : Int32)]) (rest := [.int (9 : Int32), .ref 253, .ref 248]) (P := (fun zv9 wm9 => (vX12_of (mX12_put s (32 : Int32)) a5 (3 : Int32)) = zv9 ∧ (mX12_put s (32 : Int32)) = wm9)) dX12_skin_154 cvX12_265 okX12_of rfl (Nat.le_of_ble_eq_true rfl) BS_248 (Nat.le_of_ble_eq_true rfl) (Nat.le_of_ble_eq_true rfl) hci_12 (Nat.le_of_ble_eq_true rfl) (Nat.le_of_ble_eq_true rfl) (pX12_of  (a5) ((3 : Int32)) o13 ⟨rfl, rfl⟩) (fun zv9 wm9 hq9 => ?_)
  obtain ⟨rfl, rfl⟩ := hq9
  refine JT_iadd dX12_skin_157 ?_
  obtain ⟨o1, h⟩ := h
  refine JS_lald dX12_skin_158 BS_253 (Nat.le_of_ble_eq_true rfl) (Nat.le_of_ble_eq_true rfl) o1 ?_
  obtain ⟨o12, h⟩ := h
  refine JS_callVV (M' := MX12_putName) (d' := 1) (As := [.long (gL (mX12_put s (32 : Int32)) 253 (((9 : Int32) + (vX12_of (mX12_put s (32 : Int32)) a5 (3 : Int32)))).toNatClampNeg)]) (rest := []) (P := (fun wm9 => (mX12_putName (mX12_put s (32 : Int32)) (gL (mX12_put s (32 : Int32)) 253 (((9 : Int32) + (vX12_of (mX12_put s (32 : Int32)) a5 (3 : Int32)))).toNatClampNeg)) = wm9)) dX12_skin_159 cvX12_394 okX12_putName rfl (Nat.le_of_ble_eq_true rfl) BS_248 (Nat.le_of_ble_eq_true rfl) (Nat.le_of_ble_eq_true rfl) hci_12 (Nat.le_of_ble_eq_true rfl) (Nat.le_of_ble_eq_true rfl) (pX12_putName  ((gL (mX12_put s (32 : Int32)) 253 (((9 : Int32) + (vX12_of (mX12_put s (32 : Int32)) a5 (3 : Int32)))).toNatClampNeg)) o12 rfl) (fun wm9 hq9 => ?_)
  subst hq9
  obtain ⟨s2, hs2⟩ : ∃ z, z = (mX12_putName (mX12_put s (32 : Int32)) (gL (mX12_put s (32 : Int32)) 253 (((9 : Int32) + (vX12_of (mX12_put s (32 : Int32)) a5 (3 : Int32)))).toNatClampNeg)) := ⟨_, rfl⟩
  replace h := h s2 hs2
  rw [← hs2]
  refine JT_aload_n (q := 0) dX12_skin_162 rfl rfl ?_
  refine JT_iload (q := 5) dX12_skin_163 rfl ?_
  refine JT_iconst (v := 5) dX12_skin_165 ic_5 ?_
  obtain ⟨o11, h⟩ := h
  refine JS_callVI (M' := MX12_of) (d' := 0) (As := [.int a5, .int (5 : Int32)]) (rest := []) (P := (fun zv9 wm9 => (vX12_of s2 a5 (5 : Int32)) = zv9 ∧ s2 = wm9)) dX12_skin_166 cvX12_265 okX12_of rfl (Nat.le_of_ble_eq_true rfl) BS_248 (Nat.le_of_ble_eq_true rfl) (Nat.le_of_ble_eq_true rfl) hci_12 (Nat.le_of_ble_eq_true rfl) (Nat.le_of_ble_eq_true rfl) (pX12_of  (a5) ((5 : Int32)) o11 ⟨rfl, rfl⟩) (fun zv9 wm9 hq9 => ?_)
  obtain ⟨rfl, rfl⟩ := hq9
  refine JT_if_le (tgt := 194) dX12_skin_169 (by decide) (fun hc10 => ?_) (fun hc10 => ?_)
  · have h := h.1 hc10
    refine JT_aload_n (q := 0) dX12_skin_194 rfl rfl ?_
    refine JT_bipush (v := 59) dX12_skin_195 bp_59 ?_
    obtain ⟨o3, h⟩ := h
    refine JS_callVV (M' := MX12_put) (d' := 0) (As := [.int (59 : Int32)]) (rest := []) (P := (fun wm9 => (mX12_put s2 (59 : Int32)) = wm9)) dX12_skin_197 cvX12_391 okX12_put rfl (Nat.le_of_ble_eq_true rfl) BS_248 (Nat.le_of_ble_eq_true rfl) (Nat.le_of_ble_eq_true rfl) hci_12 (Nat.le_of_ble_eq_true rfl) (Nat.le_of_ble_eq_true rfl) (pX12_put  ((59 : Int32)) o3 rfl) (fun wm9 hq9 => ?_)
    subst hq9
    refine JT_iinc (q := 3) (v := (a3 + 1)) (lv' := [(3, .int (a3 + 1)), (0, .ref 248), (1, .int a1), (2, .int a2), (4, .int a4), (5, .int a5)]) dX12_skin_200 rfl (by rfl) (Nat.le_of_ble_eq_true rfl) rfl ?_
    refine JT_goto (tgt := 29) dX12_skin_203 (by decide) ?_
    exact JT_sub [1, 2, 3, 0] rfl h
  · have h := h.2 hc10
    refine JT_aload_n (q := 0) dX12_skin_172 rfl rfl ?_
    refine JT_aload_n (q := 0) dX12_skin_173 rfl rfl ?_
    refine JT_iload (q := 5) dX12_skin_174 rfl ?_
    refine JT_iconst (v := 5) dX12_skin_176 ic_5 ?_
    obtain ⟨o9, h⟩ := h
    refine JS_callVI (M' := MX12_of) (d' := 0) (As := [.int a5, .int (5 : Int32)]) (rest := [.ref 248]) (P := (fun zv9 wm9 => (vX12_of s2 a5 (5 : Int32)) = zv9 ∧ s2 = wm9)) dX12_skin_177 cvX12_265 okX12_of rfl (Nat.le_of_ble_eq_true rfl) BS_248 (Nat.le_of_ble_eq_true rfl) (Nat.le_of_ble_eq_true rfl) hci_12 (Nat.le_of_ble_eq_true rfl) (Nat.le_of_ble_eq_true rfl) (pX12_of  (a5) ((5 : Int32)) o9 ⟨rfl, rfl⟩) (fun zv9 wm9 hq9 => ?_)
    obtain ⟨rfl, rfl⟩ := hq9
    refine JT_iconst (v := 1) dX12_skin_180 ic_1 ?_
    have hj7 : ∀ v : Int32, v = (if (vX12_of s2 a5 (5 : Int32)) = (1 : Int32) then (120 : Int32) else (111 : Int32)) → JT MX12_skin 2 0 0 191 [(0, .ref 248), (1, .int a1), (2, .int a2), (3, .int a3), (4, .int a4), (5, .int a5)] [.int v, .ref 248] (std s2) (KQ Q) := by
      intro v hv
      subst hv
      obtain ⟨o6, h⟩ := h
      refine JS_callVV (M' := MX12_put) (d' := 0) (As := [.int (if (vX12_of s2 a5 (5 : Int32)) = (1 : Int32) then (120 : Int32) else (111 : Int32))]) (rest := []) (P := (fun wm9 => (mX12_put s2 (if (vX12_of s2 a5 (5 : Int32)) = (1 : Int32) then (120 : Int32) else (111 : Int32))) = wm9)) dX12_skin_191 cvX12_391 okX12_put rfl (Nat.le_of_ble_eq_true rfl) BS_248 (Nat.le_of_ble_eq_true rfl) (Nat.le_of_ble_eq_true rfl) hci_12 (Nat.le_of_ble_eq_true rfl) (Nat.le_of_ble_eq_true rfl) (pX12_put  ((if (vX12_of s2 a5 (5 : Int32)) = (1 : Int32) then (120 : Int32) else (111 : Int32))) o6 rfl) (fun wm9 hq9 => ?_)
      subst hq9
      refine JT_aload_n (q := 0) dX12_skin_194 rfl rfl ?_
      refine JT_bipush (v := 59) dX12_skin_195 bp_59 ?_
      obtain ⟨o5, h⟩ := h
      refine JS_callVV (M' := MX12_put) (d' := 0) (As := [.int (59 : Int32)]) (rest := []) (P := (fun wm9 => (mX12_put (mX12_put s2 (if (vX12_of s2 a5 (5 : Int32)) = (1 : Int32) then (120 : Int32) else (111 : Int32))) (59 : Int32)) = wm9)) dX12_skin_197 cvX12_391 okX12_put rfl (Nat.le_of_ble_eq_true rfl) BS_248 (Nat.le_of_ble_eq_true rfl) (Nat.le_of_ble_eq_true rfl) hci_12 (Nat.le_of_ble_eq_true rfl) (Nat.le_of_ble_eq_true rfl) (pX12_put  ((59 : Int32)) o5 rfl) (fun wm9 hq9 => ?_)
      subst hq9
      obtain ⟨s4, hs4⟩ : ∃ z, z = (mX12_put (mX12_put s2 (if (vX12_of s2 a5 (5 : Int32)) = (1 : Int32) then (120 : Int32) else (111 : Int32))) (59 : Int32)) := ⟨_, rfl⟩
      replace h := h s4 hs4
      rw [← hs4]
      refine JT_iinc (q := 3) (v := (a3 + 1)) (lv' := [(3, .int (a3 + 1)), (0, .ref 248), (1, .int a1), (2, .int a2), (4, .int a4), (5, .int a5)]) dX12_skin_200 rfl (by rfl) (Nat.le_of_ble_eq_true rfl) rfl ?_
      refine JT_goto (tgt := 29) dX12_skin_203 (by decide) ?_
      exact JT_sub [1, 2, 3, 0] rfl h
    refine JT_icmp_ne (tgt := 189) dX12_skin_181 (by decide) (fun hc8 => ?_) (fun hc8 => ?_)
    · refine JT_bipush (v := 111) dX12_skin_189 bp_111 ?_
      exact hj7 _ (by rw [if_neg hc8])
    · refine JT_bipush (v := 120) dX12_skin_184 bp_120 ?_
      refine JT_goto (tgt := 191) dX12_skin_186 (by decide) ?_
      exact hj7 _ (by rw [if_pos hc8])
set_option maxRecDepth 1000000 in
theorem bX12_skin (a1 : Int32) {s : SM} {Q : Int32 → SM → Prop} (h : ((¬ (vX12_isBody (pI s 248 0 (0 : Int32)) a1) = 0 → rX12_markOf (pI (pI s 248 0 (0 : Int32)) 248 35 (0 : Int32)) a1 (-1 : Int32) ∧ BI MX12_skin 2 29 [(0, .ref 248), (1, .int a1), (2, .int (vX12_markOf (pI (pI s 248 0 (0 : Int32)) 248 35 (0 : Int32)) a1 (-1 : Int32))), (3, .int (0 : Int32))] (pI (pI s 248 0 (0 : Int32)) 248 35 (0 : Int32)) Q) ∧ ((vX12_isBody (pI s 248 0 (0 : Int32)) a1) = 0 → Q (-1 : Int32) (pI s 248 0 (0 : Int32))))) : KI MX12_skin 2 [.ref 248, .int a1] s Q := by
  show BI MX12_skin 2 0 [(0, .ref 248), (1, .int a1)] s Q
  refine JT_aload_n (q := 0) dX12_skin_0 rfl rfl ?_
  refine JT_iconst (v := 0) dX12_skin_1 ic_0 ?_
  refine JS_putI dX12_skin_2 flX12_1 BS_248 (Nat.le_of_ble_eq_true rfl) (Nat.le_of_ble_eq_true rfl) ct_12_0 ?_
  refine JT_aload_n (q := 0) dX12_skin_5 rfl rfl ?_
  refine JT_iload_n (q := 1) dX12_skin_6 rfl rfl ?_
  refine JS_callVI (M' := MX12_isBody) (d' := 1) (As := [.int a1]) (rest := []) (P := (fun zv9 wm9 => (vX12_isBody (pI s 248 0 (0 : Int32)) a1) = zv9 ∧ (pI s 248 0 (0 : Int32)) = wm9)) dX12_skin_7 cvX12_287 okX12_isBody rfl (Nat.le_of_ble_eq_true rfl) BS_248 (Nat.le_of_ble_eq_true rfl) (Nat.le_of_ble_eq_true rfl) hci_12 (Nat.le_of_ble_eq_true rfl) (Nat.le_of_ble_eq_true rfl) (pX12_isBody  (a1)  ⟨rfl, rfl⟩) (fun zv9 wm9 hq9 => ?_)
  obtain ⟨rfl, rfl⟩ := hq9
  refine JT_if_ne (tgt := 15) dX12_skin_10 (by decide) (fun hc2 => ?_) (fun hc2 => ?_)
  · have h := h.1 hc2
    refine JT_aload_n (q := 0) dX12_skin_15 rfl rfl ?_
    refine JT_iconst (v := 0) dX12_skin_16 ic_0 ?_
    refine JS_putI dX12_skin_17 flX12_386 BS_248 (Nat.le_of_ble_eq_true rfl) (Nat.le_of_ble_eq_true rfl) ct_12_35 ?_
    refine JT_aload_n (q := 0) dX12_skin_20 rfl rfl ?_
    refine JT_iload_n (q := 1) dX12_skin_21 rfl rfl ?_
    refine JT_iconst (v := -1) dX12_skin_22 ic_m1 ?_
    obtain ⟨o1, h⟩ := h
    refine JS_callVI (M' := MX12_markOf) (d' := 1) (As := [.int a1, .int (-1 : Int32)]) (rest := []) (P := (fun zv9 wm9 => (vX12_markOf (pI (pI s 248 0 (0 : Int32)) 248 35 (0 : Int32)) a1 (-1 : Int32)) = zv9 ∧ (pI (pI s 248 0 (0 : Int32)) 248 35 (0 : Int32)) = wm9)) dX12_skin_23 cvX12_315 okX12_markOf rfl (Nat.le_of_ble_eq_true rfl) BS_248 (Nat.le_of_ble_eq_true rfl) (Nat.le_of_ble_eq_true rfl) hci_12 (Nat.le_of_ble_eq_true rfl) (Nat.le_of_ble_eq_true rfl) (pX12_markOf  (a1) ((-1 : Int32)) o1 ⟨rfl, rfl⟩) (fun zv9 wm9 hq9 => ?_)
    obtain ⟨rfl, rfl⟩ := hq9
    refine JT_istore_n (lv' := [(2, .int (vX12_markOf (pI (pI s 248 0 (0 : Int32)) 248 35 (0 : Int32)) a1 (-1 : Int32))), (0, .ref 248), (1, .int a1)]) dX12_skin_26 rfl (Nat.le_of_ble_eq_true rfl) rfl ?_
    refine JT_iconst (v := 0) dX12_skin_27 ic_0 ?_
    refine JT_istore_n (lv' := [(3, .int (0 : Int32)), (2, .int (vX12_markOf (pI (pI s 248 0 (0 : Int32)) 248 35 (0 : Int32)) a1 (-1 : Int32))), (0, .ref 248), (1, .int a1)]) dX12_skin_28 rfl (Nat.le_of_ble_eq_true rfl) rfl ?_
    exact JT_sub [2, 3, 1, 0] rfl h
  · have h := h.2 hc2
    refine JT_iconst (v := -1) dX12_skin_13 ic_m1 ?_
    exact JS_iret dX12_skin_14 rfl rfl h
set_option maxRecDepth 1000000 in
theorem gX12_skin  : ∀ n : Nat, (∀ (a1 : Int32) (a2 : Int32) (a3 : Int32) (s : SM) (Q : Int32 → SM → Prop), ((qX12_skin n).1 s a1 a2 a3) → Q ((lX12_skin n).1 s a1 a2 a3).1 ((lX12_skin n).1 s a1 a2 a3).2 → BI MX12_skin 2 29 [(0, .ref 248), (1, .int a1), (2, .int a2), (3, .int a3)] s Q) ∧ (∀ (a1 : Int32) (a2 : Int32) (a3 : Int32) (a4 : Int32) (a5 : Int32) (s : SM) (Q : Int32 → SM → Prop), ((qX12_skin n).2 s a1 a2 a3 a4 a5) → Q ((lX12_skin n).2 s a1 a2 a3 a4 a5).1 ((lX12_skin n).2 s a1 a2 a3 a4 a5).2 → BI MX12_skin 2 137 [(0, .ref 248), (1, .int a1), (2, .int a2), (3, .int a3), (4, .int a4), (5, .int a5)] s Q) := by
  intro n
  induction n with
  | zero => exact ⟨fun _ _ _ _ _ hq _ => absurd hq id, fun _ _ _ _ _ _ _ hq _ => absurd hq id⟩
  | succ n ih =>
    refine ⟨?_, ?_⟩
    · intro a1 a2 a3 s Q hr h
      replace hr : uX12_skin_29 (qX12_skin n) s a1 a2 a3 := hr
      replace h : Q (tX12_skin_29 (lX12_skin n) s a1 a2 a3).1 (tX12_skin_29 (lX12_skin n) s a1 a2 a3).2 := h
      unfold uX12_skin_29 at hr
      unfold tX12_skin_29 at h
      refine bX12_skin_29 a1 a2 a3 ?_
      refine ⟨fun c => ?_, fun c => ?_⟩
      · replace h := q3p c h
        first | exact h | contradiction
      · replace hr := hr c
        replace h := q3n c h
        refine ⟨hr.1, ?_⟩
        replace hr := hr.2
        refine ⟨hr.1, ?_⟩
        replace hr := hr.2
        intro s1 e9
        replace hr := hr s1 e9
        try rw [← e9] at h
        try dsimp only at h
        refine ⟨hr.1, ?_⟩
        replace hr := hr.2
        refine ⟨hr.1, ?_⟩
        replace hr := hr.2
        refine ⟨hr.1, ?_⟩
        replace hr := hr.2
        refine ⟨hr.1, ?_⟩
        replace hr := hr.2
        intro s3 e9
        replace hr := hr s3 e9
        try rw [← e9] at h
        try dsimp only at h
        refine ⟨hr.1, ?_⟩
        replace hr := hr.2
        refine ⟨hr.1, ?_⟩
        replace hr := hr.2
        refine ⟨fun c => ?_, fun c => ?_⟩
        · replace hr := hr.1 c
          replace h := q3p c h
          refine ⟨hr.1, ?_⟩
          replace hr := hr.2
          refine ⟨hr.1, ?_⟩
          replace hr := hr.2
          intro s4 e9
          replace hr := hr s4 e9
          try rw [← e9] at h
          try dsimp only at h
          first | exact ih.2 a1 a2 a3 (vX12_markOf s a1 a3) ((vX12_markOf s a1 a3) / (2 : Int32)) _ Q hr h | contradiction
        · replace hr := hr.2 c
          replace h := q3n c h
          refine ⟨hr.1, ?_⟩
          replace hr := hr.2
          first | exact ih.2 a1 a2 a3 (vX12_markOf s a1 a3) ((vX12_markOf s a1 a3) / (2 : Int32)) _ Q hr h | contradiction
    · intro a1 a2 a3 a4 a5 s Q hr h
      replace hr : uX12_skin_137 (qX12_skin n) s a1 a2 a3 a4 a5 := hr
      replace h : Q (tX12_skin_137 (lX12_skin n) s a1 a2 a3 a4 a5).1 (tX12_skin_137 (lX12_skin n) s a1 a2 a3 a4 a5).2 := h
      unfold uX12_skin_137 at hr
      unfold tX12_skin_137 at h
      refine bX12_skin_137 a1 a2 a3 a4 a5 ?_
      refine ⟨hr.1, ?_⟩
      replace hr := hr.2
      refine ⟨hr.1, ?_⟩
      replace hr := hr.2
      refine ⟨hr.1, ?_⟩
      replace hr := hr.2
      refine ⟨hr.1, ?_⟩
      replace hr := hr.2
      intro s2 e9
      replace hr := hr s2 e9
      try rw [← e9] at h
      try dsimp only at h
      refine ⟨hr.1, ?_⟩
      replace hr := hr.2
      refine ⟨fun c => ?_, fun c => ?_⟩
      · replace hr := hr.1 c
        replace h := q3p c h
        refine ⟨hr.1, ?_⟩
        replace hr := hr.2
        first | exact ih.1 a1 a2 (a3 + 1) _ Q hr h | contradiction
      · replace hr := hr.2 c
        replace h := q3n c h
        refine ⟨hr.1, ?_⟩
        replace hr := hr.2
        refine ⟨hr.1, ?_⟩
        replace hr := hr.2
        refine ⟨hr.1, ?_⟩
        replace hr := hr.2
        intro s4 e9
        replace hr := hr s4 e9
        try rw [← e9] at h
        try dsimp only at h
        first | exact ih.1 a1 a2 (a3 + 1) _ Q hr h | contradiction
set_option maxRecDepth 1000000 in
theorem pX12_skin (a1 : Int32) {s : SM} {Q : Int32 → SM → Prop} (hr : rX12_skin s a1) (h : Q (vX12_skin s a1) (mX12_skin s a1)) : KI MX12_skin 2 [.ref 248, .int a1] s Q := by
  replace h : Q (fX12_skin s a1).1 (fX12_skin s a1).2 := h
  unfold rX12_skin at hr
  unfold fX12_skin at h
  refine bX12_skin a1 ?_
  refine ⟨fun c => ?_, fun c => ?_⟩
  · replace hr := hr c
    replace h := q3n c h
    refine ⟨hr.1, ?_⟩
    replace hr := hr.2
    first | exact (gX12_skin  FU).1 a1 (vX12_markOf (pI (pI s 248 0 (0 : Int32)) 248 35 (0 : Int32)) a1 (-1 : Int32)) (0 : Int32) _ Q hr h | contradiction
  · replace h := q3p c h
    first | exact h | contradiction
set_option maxRecDepth 1000000 in
theorem bX12_strikes_2 (a1 : Int32) (a2 : Int32) {s : SM} {Q : SM → Prop} (h : (((2 : Int32) ≤ a2 → rX12_set s a1 (5 : Int32) (1 : Int32) ∧ Q (mX12_set s a1 (5 : Int32) (1 : Int32))) ∧ (¬ (2 : Int32) ≤ a2 → rX12_of s a1 ((6 : Int32) + a2) ∧ (((vX12_isLiving s (vX12_of s a1 ((6 : Int32) + a2))) = 0 → BV MX12_strikes 2 2 [(0, .ref 248), (1, .int a1), (2, .int (a2 + 1))] s Q) ∧ (¬ (vX12_isLiving s (vX12_of s a1 ((6 : Int32) + a2))) = 0 → rX12_of s a1 ((6 : Int32) + a2) ∧ vp_in ((37 : Int32) + (vX12_of s a1 ((6 : Int32) + a2))) 787 ∧ vp_in ((37 : Int32) + (vX12_of s a1 ((6 : Int32) + a2))) 787 ∧ (∀ s4, s4 = (pI s 250 (((37 : Int32) + (vX12_of s a1 ((6 : Int32) + a2)))).toNatClampNeg ((gI s 250 (((37 : Int32) + (vX12_of s a1 ((6 : Int32) + a2)))).toNatClampNeg) + (gI s 250 ((2 : Int32)).toNatClampNeg))) → BV MX12_strikes 2 2 [(0, .ref 248), (1, .int a1), (2, .int (a2 + 1))] s4 Q)))))) : BV MX12_strikes 2 2 [(0, .ref 248), (1, .int a1), (2, .int a2)] s Q := by
  refine JT_iload_n (q := 2) dX12_strikes_2 rfl rfl ?_
  refine JT_iconst (v := 2) dX12_strikes_3 ic_2 ?_
  refine JT_icmp_ge (tgt := 55) dX12_strikes_4 (by decide) (fun hc9 => ?_) (fun hc9 => ?_)
  · have h := h.1 hc9
    refine JT_aload_n (q := 0) dX12_strikes_55 rfl rfl ?_
    refine JT_iload_n (q := 1) dX12_strikes_56 rfl rfl ?_
    refine JT_iconst (v := 5) dX12_strikes_57 ic_5 ?_
    refine JT_iconst (v := 1) dX12_strikes_58 ic_1 ?_
    obtain ⟨o1, h⟩ := h
    refine JS_callVV (M' := MX12_set) (d' := 0) (As := [.int a1, .int (5 : Int32), .int (1 : Int32)]) (rest := []) (P := (fun wm9 => (mX12_set s a1 (5 : Int32) (1 : Int32)) = wm9)) dX12_strikes_59 cvX12_322 okX12_set rfl (Nat.le_of_ble_eq_true rfl) BS_248 (Nat.le_of_ble_eq_true rfl) (Nat.le_of_ble_eq_true rfl) hci_12 (Nat.le_of_ble_eq_true rfl) (Nat.le_of_ble_eq_true rfl) (pX12_set  (a1) ((5 : Int32)) ((1 : Int32)) o1 rfl) (fun wm9 hq9 => ?_)
    subst hq9
    exact JS_vret dX12_strikes_62 rfl h
  · have h := h.2 hc9
    refine JT_aload_n (q := 0) dX12_strikes_7 rfl rfl ?_
    refine JT_aload_n (q := 0) dX12_strikes_8 rfl rfl ?_
    refine JT_iload_n (q := 1) dX12_strikes_9 rfl rfl ?_
    refine JT_bipush (v := 6) dX12_strikes_10 bp_6 ?_
    refine JT_iload_n (q := 2) dX12_strikes_12 rfl rfl ?_
    refine JT_iadd dX12_strikes_13 ?_
    obtain ⟨o8, h⟩ := h
    refine JS_callVI (M' := MX12_of) (d' := 0) (As := [.int a1, .int ((6 : Int32) + a2)]) (rest := [.ref 248]) (P := (fun zv9 wm9 => (vX12_of s a1 ((6 : Int32) + a2)) = zv9 ∧ s = wm9)) dX12_strikes_14 cvX12_265 okX12_of rfl (Nat.le_of_ble_eq_true rfl) BS_248 (Nat.le_of_ble_eq_true rfl) (Nat.le_of_ble_eq_true rfl) hci_12 (Nat.le_of_ble_eq_true rfl) (Nat.le_of_ble_eq_true rfl) (pX12_of  (a1) (((6 : Int32) + a2)) o8 ⟨rfl, rfl⟩) (fun zv9 wm9 hq9 => ?_)
    obtain ⟨rfl, rfl⟩ := hq9
    refine JS_callVI (M' := MX12_isLiving) (d' := 1) (As := [.int (vX12_of s a1 ((6 : Int32) + a2))]) (rest := []) (P := (fun zv9 wm9 => (vX12_isLiving s (vX12_of s a1 ((6 : Int32) + a2))) = zv9 ∧ s = wm9)) dX12_strikes_17 cvX12_294 okX12_isLiving rfl (Nat.le_of_ble_eq_true rfl) BS_248 (Nat.le_of_ble_eq_true rfl) (Nat.le_of_ble_eq_true rfl) hci_12 (Nat.le_of_ble_eq_true rfl) (Nat.le_of_ble_eq_true rfl) (pX12_isLiving  ((vX12_of s a1 ((6 : Int32) + a2)))  ⟨rfl, rfl⟩) (fun zv9 wm9 hq9 => ?_)
    obtain ⟨rfl, rfl⟩ := hq9
    refine JT_if_eq (tgt := 49) dX12_strikes_20 (by decide) (fun hc6 => ?_) (fun hc6 => ?_)
    · have h := h.1 hc6
      refine JT_iinc (q := 2) (v := (a2 + 1)) (lv' := [(2, .int (a2 + 1)), (0, .ref 248), (1, .int a1)]) dX12_strikes_49 rfl (by rfl) (Nat.le_of_ble_eq_true rfl) rfl ?_
      refine JT_goto (tgt := 2) dX12_strikes_52 (by decide) ?_
      exact JT_sub [1, 2, 0] rfl h
    · have h := h.2 hc6
      refine JT_aload_n (q := 0) dX12_strikes_23 rfl rfl ?_
      refine JS_getR (x := 250) dX12_strikes_24 flX12_33 BS_248 (Nat.le_of_ble_eq_true rfl) (Nat.le_of_ble_eq_true rfl) (Or.inr ⟨_, ct_12_6⟩) RF_248_6 ?_
      refine JT_bipush (v := 37) dX12_strikes_27 bp_37 ?_
      refine JT_aload_n (q := 0) dX12_strikes_29 rfl rfl ?_
      refine JT_iload_n (q := 1) dX12_strikes_30 rfl rfl ?_
      refine JT_bipush (v := 6) dX12_strikes_31 bp_6 ?_
      refine JT_iload_n (q := 2) dX12_strikes_33 rfl rfl ?_
      refine JT_iadd dX12_strikes_34 ?_
      obtain ⟨o5, h⟩ := h
      refine JS_callVI (M' := MX12_of) (d' := 0) (As := [.int a1, .int ((6 : Int32) + a2)]) (rest := [.int (37 : Int32), .ref 250]) (P := (fun zv9 wm9 => (vX12_of s a1 ((6 : Int32) + a2)) = zv9 ∧ s = wm9)) dX12_strikes_35 cvX12_265 okX12_of rfl (Nat.le_of_ble_eq_true rfl) BS_248 (Nat.le_of_ble_eq_true rfl) (Nat.le_of_ble_eq_true rfl) hci_12 (Nat.le_of_ble_eq_true rfl) (Nat.le_of_ble_eq_true rfl) (pX12_of  (a1) (((6 : Int32) + a2)) o5 ⟨rfl, rfl⟩) (fun zv9 wm9 hq9 => ?_)
      obtain ⟨rfl, rfl⟩ := hq9
      refine JT_iadd dX12_strikes_38 ?_
      refine JT_dup2 dX12_strikes_39 rfl rfl ?_
      obtain ⟨o2, h⟩ := h
      refine JS_iald dX12_strikes_40 BS_250 (Nat.le_of_ble_eq_true rfl) (Nat.le_of_ble_eq_true rfl) o2 ?_
      refine JT_aload_n (q := 0) dX12_strikes_41 rfl rfl ?_
      refine JS_getR (x := 250) dX12_strikes_42 flX12_33 BS_248 (Nat.le_of_ble_eq_true rfl) (Nat.le_of_ble_eq_true rfl) (Or.inr ⟨_, ct_12_6⟩) RF_248_6 ?_
      refine JT_iconst (v := 2) dX12_strikes_45 ic_2 ?_
      refine JS_iald dX12_strikes_46 BS_250 (Nat.le_of_ble_eq_true rfl) (Nat.le_of_ble_eq_true rfl) (by unfold vp_in; decide) ?_
      refine JT_iadd dX12_strikes_47 ?_
      obtain ⟨o3, h⟩ := h
      refine JS_iast dX12_strikes_48 BS_250 (Nat.le_of_ble_eq_true rfl) (Nat.le_of_ble_eq_true rfl) o3 ?_
      obtain ⟨s4, hs4⟩ : ∃ z, z = (pI s 250 (((37 : Int32) + (vX12_of s a1 ((6 : Int32) + a2)))).toNatClampNeg ((gI s 250 (((37 : Int32) + (vX12_of s a1 ((6 : Int32) + a2)))).toNatClampNeg) + (gI s 250 ((2 : Int32)).toNatClampNeg))) := ⟨_, rfl⟩
      replace h := h s4 hs4
      rw [← hs4]
      refine JT_iinc (q := 2) (v := (a2 + 1)) (lv' := [(2, .int (a2 + 1)), (0, .ref 248), (1, .int a1)]) dX12_strikes_49 rfl (by rfl) (Nat.le_of_ble_eq_true rfl) rfl ?_
      refine JT_goto (tgt := 2) dX12_strikes_52 (by decide) ?_
      exact JT_sub [1, 2, 0] rfl h
set_option maxRecDepth 1000000 in
theorem bX12_strikes (a1 : Int32) {s : SM} {Q : SM → Prop} (h : BV MX12_strikes 2 2 [(0, .ref 248), (1, .int a1), (2, .int (0 : Int32))] s Q) : KV MX12_strikes 2 [.ref 248, .int a1] s Q := by
  show BV MX12_strikes 2 0 [(0, .ref 248), (1, .int a1)] s Q
  refine JT_iconst (v := 0) dX12_strikes_0 ic_0 ?_
  refine JT_istore_n (lv' := [(2, .int (0 : Int32)), (0, .ref 248), (1, .int a1)]) dX12_strikes_1 rfl (Nat.le_of_ble_eq_true rfl) rfl ?_
  exact JT_sub [1, 2, 0] rfl h
set_option maxRecDepth 1000000 in
theorem gX12_strikes  : ∀ n : Nat, (∀ (a1 : Int32) (a2 : Int32) (s : SM) (Q : SM → Prop), ((qX12_strikes n) s a1 a2) → Q ((lX12_strikes n) s a1 a2) → BV MX12_strikes 2 2 [(0, .ref 248), (1, .int a1), (2, .int a2)] s Q) := by
  intro n
  induction n with
  | zero => exact fun _ _ _ _ hq _ => absurd hq id
  | succ n ih =>
    intro a1 a2 s Q hr h
    replace hr : uX12_strikes_2 (qX12_strikes n) s a1 a2 := hr
    replace h : Q (tX12_strikes_2 (lX12_strikes n) s a1 a2) := h
    unfold uX12_strikes_2 at hr
    unfold tX12_strikes_2 at h
    refine bX12_strikes_2 a1 a2 ?_
    refine ⟨fun c => ?_, fun c => ?_⟩
    · replace hr := hr.1 c
      replace h := q1p c h
      refine ⟨hr, ?_⟩
      first | exact h | contradiction
    · replace hr := hr.2 c
      replace h := q1n c h
      refine ⟨hr.1, ?_⟩
      replace hr := hr.2
      refine ⟨fun c => ?_, fun c => ?_⟩
      · replace hr := hr.1 c
        replace h := q1p c h
        first | exact ih a1 (a2 + 1) _ Q hr h | contradiction
      · replace hr := hr.2 c
        replace h := q1n c h
        refine ⟨hr.1, ?_⟩
        replace hr := hr.2
        refine ⟨hr.1, ?_⟩
        replace hr := hr.2
        refine ⟨hr.1, ?_⟩
        replace hr := hr.2
        intro s4 e9
        replace hr := hr s4 e9
        try rw [← e9] at h
        try dsimp only at h
        first | exact ih a1 (a2 + 1) _ Q hr h | contradiction
set_option maxRecDepth 1000000 in
theorem pX12_strikes (a1 : Int32) {s : SM} {Q : SM → Prop} (hr : rX12_strikes s a1) (h : Q (mX12_strikes s a1)) : KV MX12_strikes 2 [.ref 248, .int a1] s Q := by
  replace h : Q (fX12_strikes s a1) := h
  unfold rX12_strikes at hr
  unfold fX12_strikes at h
  refine bX12_strikes a1 ?_
  first | exact (gX12_strikes  FU) a1 (0 : Int32) _ Q hr h | contradiction
set_option maxRecDepth 1000000 in
theorem bX12_takes (a1 : Int32) (a2 : Int32) {s : SM} {Q : Int32 → SM → Prop} (h : (((gI s 248 11) = (2 : Int32) → ((¬ (vX12_isIn s (gI s 248 14) a1 a2) = 0 → rX12_next (pI s 248 18 (gI s 248 14))  ∧ Q (1 : Int32) (mX12_next (pI s 248 18 (gI s 248 14)) )) ∧ ((vX12_isIn s (gI s 248 14) a1 a2) = 0 → Q (vX12_bad s (2 : Int32)) (mX12_bad s (2 : Int32))))) ∧ (¬ (gI s 248 11) = (2 : Int32) → Q (vX12_bad s (1 : Int32)) (mX12_bad s (1 : Int32))))) : KI MX12_takes 2 [.ref 248, .int a1, .int a2] s Q := by
  show BI MX12_takes 2 0 [(0, .ref 248), (1, .int a1), (2, .int a2)] s Q
  refine JT_aload_n (q := 0) dX12_takes_0 rfl rfl ?_
  refine JS_getI dX12_takes_1 flX12_170 BS_248 (Nat.le_of_ble_eq_true rfl) (Nat.le_of_ble_eq_true rfl) (Or.inl ct_12_11) ?_
  refine JT_iconst (v := 2) dX12_takes_4 ic_2 ?_
  refine JT_icmp_eq (tgt := 14) dX12_takes_5 (by decide) (fun hc6 => ?_) (fun hc6 => ?_)
  · have h := h.1 hc6
    refine JT_aload_n (q := 0) dX12_takes_14 rfl rfl ?_
    refine JS_getI dX12_takes_15 flX12_180 BS_248 (Nat.le_of_ble_eq_true rfl) (Nat.le_of_ble_eq_true rfl) (Or.inl ct_12_14) ?_
    refine JT_iload_n (q := 1) dX12_takes_18 rfl rfl ?_
    refine JT_iload_n (q := 2) dX12_takes_19 rfl rfl ?_
    refine JS_callSI (M' := MX12_isIn) (d' := 0) (As := [.int (gI s 248 14), .int a1, .int a2]) (rest := []) (P := (fun zv9 wm9 => (vX12_isIn s (gI s 248 14) a1 a2) = zv9 ∧ s = wm9)) dX12_takes_20 cvX12_202 okX12_isIn rfl (Nat.le_of_ble_eq_true rfl) (Nat.le_of_ble_eq_true rfl) (Nat.le_of_ble_eq_true rfl) (pX12_isIn  ((gI s 248 14)) (a1) (a2)  ⟨rfl, rfl⟩) (fun zv9 wm9 hq9 => ?_)
    obtain ⟨rfl, rfl⟩ := hq9
    refine JT_if_ne (tgt := 32) dX12_takes_23 (by decide) (fun hc3 => ?_) (fun hc3 => ?_)
    · have h := h.1 hc3
      refine JT_aload_n (q := 0) dX12_takes_32 rfl rfl ?_
      refine JT_aload_n (q := 0) dX12_takes_33 rfl rfl ?_
      refine JS_getI dX12_takes_34 flX12_180 BS_248 (Nat.le_of_ble_eq_true rfl) (Nat.le_of_ble_eq_true rfl) (Or.inl ct_12_14) ?_
      refine JS_putI dX12_takes_37 flX12_206 BS_248 (Nat.le_of_ble_eq_true rfl) (Nat.le_of_ble_eq_true rfl) ct_12_18 ?_
      refine JT_aload_n (q := 0) dX12_takes_40 rfl rfl ?_
      obtain ⟨o1, h⟩ := h
      refine JS_callVV (M' := MX12_next) (d' := 1) (As := []) (rest := []) (P := (fun wm9 => (mX12_next (pI s 248 18 (gI s 248 14)) ) = wm9)) dX12_takes_41 cvX12_199 okX12_next rfl (Nat.le_of_ble_eq_true rfl) BS_248 (Nat.le_of_ble_eq_true rfl) (Nat.le_of_ble_eq_true rfl) hci_12 (Nat.le_of_ble_eq_true rfl) (Nat.le_of_ble_eq_true rfl) (pX12_next   o1 rfl) (fun wm9 hq9 => ?_)
      subst hq9
      refine JT_iconst (v := 1) dX12_takes_44 ic_1 ?_
      exact JS_iret dX12_takes_45 rfl (n01 (Or.inr rfl)) h
    · have h := h.2 hc3
      refine JT_aload_n (q := 0) dX12_takes_26 rfl rfl ?_
      refine JT_iconst (v := 2) dX12_takes_27 ic_2 ?_
      refine JS_callVI (M' := MX12_bad) (d' := 0) (As := [.int (2 : Int32)]) (rest := []) (P := (fun zv9 wm9 => (vX12_bad s (2 : Int32)) = zv9 ∧ (mX12_bad s (2 : Int32)) = wm9)) dX12_takes_28 cvX12_196 okX12_bad rfl (Nat.le_of_ble_eq_true rfl) BS_248 (Nat.le_of_ble_eq_true rfl) (Nat.le_of_ble_eq_true rfl) hci_12 (Nat.le_of_ble_eq_true rfl) (Nat.le_of_ble_eq_true rfl) (pX12_bad  ((2 : Int32))  ⟨rfl, rfl⟩) (fun zv9 wm9 hq9 => ?_)
      obtain ⟨rfl, rfl⟩ := hq9
      exact JS_iret dX12_takes_31 rfl (n01 (zX12_bad s (2 : Int32))) h
  · have h := h.2 hc6
    refine JT_aload_n (q := 0) dX12_takes_8 rfl rfl ?_
    refine JT_iconst (v := 1) dX12_takes_9 ic_1 ?_
    refine JS_callVI (M' := MX12_bad) (d' := 0) (As := [.int (1 : Int32)]) (rest := []) (P := (fun zv9 wm9 => (vX12_bad s (1 : Int32)) = zv9 ∧ (mX12_bad s (1 : Int32)) = wm9)) dX12_takes_10 cvX12_196 okX12_bad rfl (Nat.le_of_ble_eq_true rfl) BS_248 (Nat.le_of_ble_eq_true rfl) (Nat.le_of_ble_eq_true rfl) hci_12 (Nat.le_of_ble_eq_true rfl) (Nat.le_of_ble_eq_true rfl) (pX12_bad  ((1 : Int32))  ⟨rfl, rfl⟩) (fun zv9 wm9 hq9 => ?_)
    obtain ⟨rfl, rfl⟩ := hq9
    exact JS_iret dX12_takes_13 rfl (n01 (zX12_bad s (1 : Int32))) h
set_option maxRecDepth 1000000 in
theorem zX12_takes (s : SM) (a1 : Int32) (a2 : Int32) : vX12_takes s a1 a2 = 0 ∨ vX12_takes s a1 a2 = 1 := (i01 (i01 (zX12_bad s (2 : Int32)) (Or.inr rfl)) (zX12_bad s (1 : Int32)))
set_option maxRecDepth 1000000 in
theorem pX12_takes (a1 : Int32) (a2 : Int32) {s : SM} {Q : Int32 → SM → Prop} (hr : rX12_takes s a1 a2) (h : Q (vX12_takes s a1 a2) (mX12_takes s a1 a2)) : KI MX12_takes 2 [.ref 248, .int a1, .int a2] s Q := by
  refine bX12_takes a1 a2 ?_
  unfold rX12_takes at hr
  unfold vX12_takes mX12_takes at h
  refine ⟨fun c => ?_, fun c => ?_⟩
  · replace hr := hr c
    replace h := q2p c h
    refine ⟨fun c => ?_, fun c => ?_⟩
    · replace hr := hr c
      replace h := q2n c h
      refine ⟨hr, ?_⟩
      first | exact h | contradiction
    · replace h := q2p c h
      first | exact h | contradiction
  · replace h := q2n c h
    first | exact h | contradiction
set_option maxRecDepth 1000000 in
theorem bX12_takesName (a1 : Int32) (a2 : Int32) {s : SM} {Q : Int32 → SM → Prop} (h : rX12_isName s  ∧ ((¬ (vX12_isName s ) = 0 → rX12_find s a1 a2 ∧ ((0 ≤ (gI (pI s 248 18 (vX12_find s a1 a2)) 248 18) → rX12_next (pI s 248 18 (vX12_find s a1 a2))  ∧ Q (1 : Int32) (mX12_next (pI s 248 18 (vX12_find s a1 a2)) )) ∧ (¬ 0 ≤ (gI (pI s 248 18 (vX12_find s a1 a2)) 248 18) → Q (vX12_bad (pI s 248 18 (vX12_find s a1 a2)) (3 : Int32)) (mX12_bad (pI s 248 18 (vX12_find s a1 a2)) (3 : Int32))))) ∧ ((vX12_isName s ) = 0 → Q (vX12_bad s (1 : Int32)) (mX12_bad s (1 : Int32))))) : KI MX12_takesName 2 [.ref 248, .int a1, .int a2] s Q := by
  show BI MX12_takesName 2 0 [(0, .ref 248), (1, .int a1), (2, .int a2)] s Q
  refine JT_aload_n (q := 0) dX12_takesName_0 rfl rfl ?_
  obtain ⟨o7, h⟩ := h
  refine JS_callVI (M' := MX12_isName) (d' := 0) (As := []) (rest := []) (P := (fun zv9 wm9 => (vX12_isName s ) = zv9 ∧ s = wm9)) dX12_takesName_1 cvX12_209 okX12_isName rfl (Nat.le_of_ble_eq_true rfl) BS_248 (Nat.le_of_ble_eq_true rfl) (Nat.le_of_ble_eq_true rfl) hci_12 (Nat.le_of_ble_eq_true rfl) (Nat.le_of_ble_eq_true rfl) (pX12_isName   o7 ⟨rfl, rfl⟩) (fun zv9 wm9 hq9 => ?_)
  obtain ⟨rfl, rfl⟩ := hq9
  refine JT_if_ne (tgt := 13) dX12_takesName_4 (by decide) (fun hc6 => ?_) (fun hc6 => ?_)
  · have h := h.1 hc6
    refine JT_aload_n (q := 0) dX12_takesName_13 rfl rfl ?_
    refine JT_aload_n (q := 0) dX12_takesName_14 rfl rfl ?_
    refine JT_iload_n (q := 1) dX12_takesName_15 rfl rfl ?_
    refine JT_iload_n (q := 2) dX12_takesName_16 rfl rfl ?_
    obtain ⟨o4, h⟩ := h
    refine JS_callVI (M' := MX12_find) (d' := 0) (As := [.int a1, .int a2]) (rest := [.ref 248]) (P := (fun zv9 wm9 => (vX12_find s a1 a2) = zv9 ∧ s = wm9)) dX12_takesName_17 cvX12_213 okX12_find rfl (Nat.le_of_ble_eq_true rfl) BS_248 (Nat.le_of_ble_eq_true rfl) (Nat.le_of_ble_eq_true rfl) hci_12 (Nat.le_of_ble_eq_true rfl) (Nat.le_of_ble_eq_true rfl) (pX12_find  (a1) (a2) o4 ⟨rfl, rfl⟩) (fun zv9 wm9 hq9 => ?_)
    obtain ⟨rfl, rfl⟩ := hq9
    refine JS_putI dX12_takesName_20 flX12_206 BS_248 (Nat.le_of_ble_eq_true rfl) (Nat.le_of_ble_eq_true rfl) ct_12_18 ?_
    refine JT_aload_n (q := 0) dX12_takesName_23 rfl rfl ?_
    refine JS_getI dX12_takesName_24 flX12_206 BS_248 (Nat.le_of_ble_eq_true rfl) (Nat.le_of_ble_eq_true rfl) (Or.inl ct_12_18) ?_
    refine JT_if_ge (tgt := 36) dX12_takesName_27 (by decide) (fun hc3 => ?_) (fun hc3 => ?_)
    · have h := h.1 hc3
      refine JT_aload_n (q := 0) dX12_takesName_36 rfl rfl ?_
      obtain ⟨o1, h⟩ := h
      refine JS_callVV (M' := MX12_next) (d' := 1) (As := []) (rest := []) (P := (fun wm9 => (mX12_next (pI s 248 18 (vX12_find s a1 a2)) ) = wm9)) dX12_takesName_37 cvX12_199 okX12_next rfl (Nat.le_of_ble_eq_true rfl) BS_248 (Nat.le_of_ble_eq_true rfl) (Nat.le_of_ble_eq_true rfl) hci_12 (Nat.le_of_ble_eq_true rfl) (Nat.le_of_ble_eq_true rfl) (pX12_next   o1 rfl) (fun wm9 hq9 => ?_)
      subst hq9
      refine JT_iconst (v := 1) dX12_takesName_40 ic_1 ?_
      exact JS_iret dX12_takesName_41 rfl (n01 (Or.inr rfl)) h
    · have h := h.2 hc3
      refine JT_aload_n (q := 0) dX12_takesName_30 rfl rfl ?_
      refine JT_iconst (v := 3) dX12_takesName_31 ic_3 ?_
      refine JS_callVI (M' := MX12_bad) (d' := 0) (As := [.int (3 : Int32)]) (rest := []) (P := (fun zv9 wm9 => (vX12_bad (pI s 248 18 (vX12_find s a1 a2)) (3 : Int32)) = zv9 ∧ (mX12_bad (pI s 248 18 (vX12_find s a1 a2)) (3 : Int32)) = wm9)) dX12_takesName_32 cvX12_196 okX12_bad rfl (Nat.le_of_ble_eq_true rfl) BS_248 (Nat.le_of_ble_eq_true rfl) (Nat.le_of_ble_eq_true rfl) hci_12 (Nat.le_of_ble_eq_true rfl) (Nat.le_of_ble_eq_true rfl) (pX12_bad  ((3 : Int32))  ⟨rfl, rfl⟩) (fun zv9 wm9 hq9 => ?_)
      obtain ⟨rfl, rfl⟩ := hq9
      exact JS_iret dX12_takesName_35 rfl (n01 (zX12_bad (pI s 248 18 (vX12_find s a1 a2)) (3 : Int32))) h
  · have h := h.2 hc6
    refine JT_aload_n (q := 0) dX12_takesName_7 rfl rfl ?_
    refine JT_iconst (v := 1) dX12_takesName_8 ic_1 ?_
    refine JS_callVI (M' := MX12_bad) (d' := 0) (As := [.int (1 : Int32)]) (rest := []) (P := (fun zv9 wm9 => (vX12_bad s (1 : Int32)) = zv9 ∧ (mX12_bad s (1 : Int32)) = wm9)) dX12_takesName_9 cvX12_196 okX12_bad rfl (Nat.le_of_ble_eq_true rfl) BS_248 (Nat.le_of_ble_eq_true rfl) (Nat.le_of_ble_eq_true rfl) hci_12 (Nat.le_of_ble_eq_true rfl) (Nat.le_of_ble_eq_true rfl) (pX12_bad  ((1 : Int32))  ⟨rfl, rfl⟩) (fun zv9 wm9 hq9 => ?_)
    obtain ⟨rfl, rfl⟩ := hq9
    exact JS_iret dX12_takesName_12 rfl (n01 (zX12_bad s (1 : Int32))) h
set_option maxRecDepth 1000000 in
theorem zX12_takesName (s : SM) (a1 : Int32) (a2 : Int32) : vX12_takesName s a1 a2 = 0 ∨ vX12_takesName s a1 a2 = 1 := (i01 (zX12_bad s (1 : Int32)) (i01 (Or.inr rfl) (zX12_bad (pI s 248 18 (vX12_find s a1 a2)) (3 : Int32))))
set_option maxRecDepth 1000000 in
theorem pX12_takesName (a1 : Int32) (a2 : Int32) {s : SM} {Q : Int32 → SM → Prop} (hr : rX12_takesName s a1 a2) (h : Q (vX12_takesName s a1 a2) (mX12_takesName s a1 a2)) : KI MX12_takesName 2 [.ref 248, .int a1, .int a2] s Q := by
  refine bX12_takesName a1 a2 ?_
  unfold rX12_takesName at hr
  unfold vX12_takesName mX12_takesName at h
  refine ⟨hr.1, ?_⟩
  replace hr := hr.2
  refine ⟨fun c => ?_, fun c => ?_⟩
  · replace hr := hr c
    replace h := q2n c h
    refine ⟨hr.1, ?_⟩
    replace hr := hr.2
    refine ⟨fun c => ?_, fun c => ?_⟩
    · replace hr := hr c
      replace h := q2p c h
      refine ⟨hr, ?_⟩
      first | exact h | contradiction
    · replace h := q2n c h
      first | exact h | contradiction
  · replace h := q2p c h
    first | exact h | contradiction
set_option maxRecDepth 1000000 in
theorem bX12_valueOf (a1 : Int32) {s : SM} {Q : Int32 → SM → Prop} (h : rX12_of s a1 (2 : Int32) ∧ rX12_sortOf s a1 ∧ Q (vX12_valueBy s (vX12_of s a1 (2 : Int32)) (vX12_sortOf s a1)) s) : KI MX12_valueOf 2 [.ref 248, .int a1] s Q := by
  show BI MX12_valueOf 2 0 [(0, .ref 248), (1, .int a1)] s Q
  refine JT_aload_n (q := 0) dX12_valueOf_0 rfl rfl ?_
  refine JT_aload_n (q := 0) dX12_valueOf_1 rfl rfl ?_
  refine JT_iload_n (q := 1) dX12_valueOf_2 rfl rfl ?_
  refine JT_iconst (v := 2) dX12_valueOf_3 ic_2 ?_
  obtain ⟨o3, h⟩ := h
  refine JS_callVI (M' := MX12_of) (d' := 0) (As := [.int a1, .int (2 : Int32)]) (rest := [.ref 248]) (P := (fun zv9 wm9 => (vX12_of s a1 (2 : Int32)) = zv9 ∧ s = wm9)) dX12_valueOf_4 cvX12_265 okX12_of rfl (Nat.le_of_ble_eq_true rfl) BS_248 (Nat.le_of_ble_eq_true rfl) (Nat.le_of_ble_eq_true rfl) hci_12 (Nat.le_of_ble_eq_true rfl) (Nat.le_of_ble_eq_true rfl) (pX12_of  (a1) ((2 : Int32)) o3 ⟨rfl, rfl⟩) (fun zv9 wm9 hq9 => ?_)
  obtain ⟨rfl, rfl⟩ := hq9
  refine JT_aload_n (q := 0) dX12_valueOf_7 rfl rfl ?_
  refine JT_iload_n (q := 1) dX12_valueOf_8 rfl rfl ?_
  obtain ⟨o2, h⟩ := h
  refine JS_callVI (M' := MX12_sortOf) (d' := 1) (As := [.int a1]) (rest := [.int (vX12_of s a1 (2 : Int32)), .ref 248]) (P := (fun zv9 wm9 => (vX12_sortOf s a1) = zv9 ∧ s = wm9)) dX12_valueOf_9 cvX12_272 okX12_sortOf rfl (Nat.le_of_ble_eq_true rfl) BS_248 (Nat.le_of_ble_eq_true rfl) (Nat.le_of_ble_eq_true rfl) hci_12 (Nat.le_of_ble_eq_true rfl) (Nat.le_of_ble_eq_true rfl) (pX12_sortOf  (a1) o2 ⟨rfl, rfl⟩) (fun zv9 wm9 hq9 => ?_)
  obtain ⟨rfl, rfl⟩ := hq9
  refine JS_callVI (M' := MX12_valueBy) (d' := 0) (As := [.int (vX12_of s a1 (2 : Int32)), .int (vX12_sortOf s a1)]) (rest := []) (P := (fun zv9 wm9 => (vX12_valueBy s (vX12_of s a1 (2 : Int32)) (vX12_sortOf s a1)) = zv9 ∧ s = wm9)) dX12_valueOf_12 cvX12_275 okX12_valueBy rfl (Nat.le_of_ble_eq_true rfl) BS_248 (Nat.le_of_ble_eq_true rfl) (Nat.le_of_ble_eq_true rfl) hci_12 (Nat.le_of_ble_eq_true rfl) (Nat.le_of_ble_eq_true rfl) (pX12_valueBy  ((vX12_of s a1 (2 : Int32))) ((vX12_sortOf s a1))  ⟨rfl, rfl⟩) (fun zv9 wm9 hq9 => ?_)
  obtain ⟨rfl, rfl⟩ := hq9
  exact JS_iret dX12_valueOf_15 rfl rfl h
set_option maxRecDepth 1000000 in
theorem pX12_valueOf (a1 : Int32) {s : SM} {Q : Int32 → SM → Prop} (hr : rX12_valueOf s a1) (h : Q (vX12_valueOf s a1) s) : KI MX12_valueOf 2 [.ref 248, .int a1] s Q := by
  refine bX12_valueOf a1 ?_
  unfold rX12_valueOf at hr
  unfold vX12_valueOf at h
  refine ⟨hr.1, ?_⟩
  replace hr := hr.2
  refine ⟨hr, ?_⟩
  first | exact h | contradiction
set_option maxRecDepth 1000000 in
theorem bX12_whyDies (a1 : Int32) (a2 : Int32) {s : SM} {Q : Int32 → SM → Prop} (h : ((a1 = a2 → Q (1 : Int32) s) ∧ (¬ a1 = a2 → (((vX12_isLiving s a1) = 0 → Q (1 : Int32) s) ∧ (¬ (vX12_isLiving s a1) = 0 → Q (if (vX12_isLiving s a2) = 0 then (1 : Int32) else (0 : Int32)) s))))) : KI MX12_whyDies 2 [.ref 248, .int a1, .int a2] s Q := by
  show BI MX12_whyDies 2 0 [(0, .ref 248), (1, .int a1), (2, .int a2)] s Q
  refine JT_iload_n (q := 1) dX12_whyDies_0 rfl rfl ?_
  refine JT_iload_n (q := 2) dX12_whyDies_1 rfl rfl ?_
  refine JT_icmp_eq (tgt := 21) dX12_whyDies_2 (by decide) (fun hc6 => ?_) (fun hc6 => ?_)
  · have h := h.1 hc6
    refine JT_iconst (v := 1) dX12_whyDies_21 ic_1 ?_
    refine JT_goto (tgt := 26) dX12_whyDies_22 (by decide) ?_
    exact JS_iret dX12_whyDies_26 rfl rfl h
  · have h := h.2 hc6
    refine JT_aload_n (q := 0) dX12_whyDies_5 rfl rfl ?_
    refine JT_iload_n (q := 1) dX12_whyDies_6 rfl rfl ?_
    refine JS_callVI (M' := MX12_isLiving) (d' := 1) (As := [.int a1]) (rest := []) (P := (fun zv9 wm9 => (vX12_isLiving s a1) = zv9 ∧ s = wm9)) dX12_whyDies_7 cvX12_294 okX12_isLiving rfl (Nat.le_of_ble_eq_true rfl) BS_248 (Nat.le_of_ble_eq_true rfl) (Nat.le_of_ble_eq_true rfl) hci_12 (Nat.le_of_ble_eq_true rfl) (Nat.le_of_ble_eq_true rfl) (pX12_isLiving  (a1)  ⟨rfl, rfl⟩) (fun zv9 wm9 hq9 => ?_)
    obtain ⟨rfl, rfl⟩ := hq9
    refine JT_if_eq (tgt := 21) dX12_whyDies_10 (by decide) (fun hc4 => ?_) (fun hc4 => ?_)
    · have h := h.1 hc4
      refine JT_iconst (v := 1) dX12_whyDies_21 ic_1 ?_
      refine JT_goto (tgt := 26) dX12_whyDies_22 (by decide) ?_
      exact JS_iret dX12_whyDies_26 rfl rfl h
    · have h := h.2 hc4
      refine JT_aload_n (q := 0) dX12_whyDies_13 rfl rfl ?_
      refine JT_iload_n (q := 2) dX12_whyDies_14 rfl rfl ?_
      refine JS_callVI (M' := MX12_isLiving) (d' := 1) (As := [.int a2]) (rest := []) (P := (fun zv9 wm9 => (vX12_isLiving s a2) = zv9 ∧ s = wm9)) dX12_whyDies_15 cvX12_294 okX12_isLiving rfl (Nat.le_of_ble_eq_true rfl) BS_248 (Nat.le_of_ble_eq_true rfl) (Nat.le_of_ble_eq_true rfl) hci_12 (Nat.le_of_ble_eq_true rfl) (Nat.le_of_ble_eq_true rfl) (pX12_isLiving  (a2)  ⟨rfl, rfl⟩) (fun zv9 wm9 hq9 => ?_)
      obtain ⟨rfl, rfl⟩ := hq9
      have hj1 : ∀ v : Int32, v = (if (vX12_isLiving s a2) = 0 then (1 : Int32) else (0 : Int32)) → JT MX12_whyDies 2 0 0 26 [(0, .ref 248), (1, .int a1), (2, .int a2)] [.int v] (std s) (KQ Q) := by
        intro v hv
        subst hv
        exact JS_iret dX12_whyDies_26 rfl rfl h
      refine JT_if_ne (tgt := 25) dX12_whyDies_18 (by decide) (fun hc2 => ?_) (fun hc2 => ?_)
      · refine JT_iconst (v := 0) dX12_whyDies_25 ic_0 ?_
        exact hj1 _ (by rw [if_neg hc2])
      · refine JT_iconst (v := 1) dX12_whyDies_21 ic_1 ?_
        refine JT_goto (tgt := 26) dX12_whyDies_22 (by decide) ?_
        exact hj1 _ (by rw [if_pos hc2])
set_option maxRecDepth 1000000 in
theorem pX12_whyDies (a1 : Int32) (a2 : Int32) {s : SM} {Q : Int32 → SM → Prop} (h : Q (vX12_whyDies s a1 a2) s) : KI MX12_whyDies 2 [.ref 248, .int a1, .int a2] s Q := by
  refine bX12_whyDies a1 a2 ?_
  unfold vX12_whyDies at h
  refine ⟨fun c => ?_, fun c => ?_⟩
  · replace h := qlp c h
    first | exact h | contradiction
  · replace h := qln c h
    refine ⟨fun c => ?_, fun c => ?_⟩
    · replace h := qlp c h
      first | exact h | contradiction
    · replace h := qln c h
      first | exact h | contradiction
set_option maxRecDepth 1000000 in
theorem bX2_note {L1 P1 : Nat} (hL1 : (L1, P1) ∈ LX) {s : SM} {Q : SM → Prop} (h : vp_in (gI s 55 1) 9 ∧ RF 56 ((gI s 55 1)).toNatClampNeg = some (rfx 56 ((gI s 55 1)).toNatClampNeg) ∧ ((rfx 56 ((gI s 55 1)).toNatClampNeg), rfx (rfx 56 ((gI s 55 1)).toNatClampNeg) 8) ∈ LX ∧ rX4_copyFrom s (rfx 56 ((gI s 55 1)).toNatClampNeg) (rfx (rfx 56 ((gI s 55 1)).toNatClampNeg) 8) L1 P1 ∧ Q (mX4_copyFrom s (rfx 56 ((gI s 55 1)).toNatClampNeg) (rfx (rfx 56 ((gI s 55 1)).toNatClampNeg) 8) L1 P1)) : KV MX2_note 2 [.ref 55, .ref L1] s Q := by
  show BV MX2_note 2 0 [(0, .ref 55), (1, .ref L1)] s Q
  refine JT_aload_n (q := 0) dX2_note_0 rfl rfl ?_
  refine JS_getR (x := 56) dX2_note_1 flX2_13 BS_55 (Nat.le_of_ble_eq_true rfl) (Nat.le_of_ble_eq_true rfl) (Or.inr ⟨_, ct_2_0⟩) RF_55_0 ?_
  refine JT_aload_n (q := 0) dX2_note_4 rfl rfl ?_
  refine JS_getI dX2_note_5 flX2_24 BS_55 (Nat.le_of_ble_eq_true rfl) (Nat.le_of_ble_eq_true rfl) (Or.inl ct_2_1) ?_
  obtain ⟨o1, hr2, hn3, h⟩ := h
  refine JS_aald dX2_note_8 BS_56 (Nat.le_of_ble_eq_true rfl) (Nat.le_of_ble_eq_true rfl) o1 (by rw [RFd_arr (Or.inr rfl)]; exact hr2) ?_
  refine JT_aload_n (q := 1) dX2_note_9 rfl rfl ?_
  obtain ⟨o4, h⟩ := h
  refine JS_callVV (M' := MX4_copyFrom) (d' := 1) (As := [.ref L1]) (rest := []) (P := (fun wm9 => (mX4_copyFrom s (rfx 56 ((gI s 55 1)).toNatClampNeg) (rfx (rfx 56 ((gI s 55 1)).toNatClampNeg) 8) L1 P1) = wm9)) dX2_note_10 cvX2_27 okX4_copyFrom rfl (Nat.le_of_ble_eq_true rfl) (lxB hn3) (lx2 hn3) (lxN hn3) hci_4 (Nat.le_of_ble_eq_true rfl) (Nat.le_of_ble_eq_true rfl) (pX4_copyFrom hn3 hL1  o4 rfl) (fun wm9 hq9 => ?_)
  subst hq9
  exact JS_vret dX2_note_13 rfl h
set_option maxRecDepth 1000000 in
theorem pX2_note {L1 P1 : Nat} (hL1 : (L1, P1) ∈ LX) {s : SM} {Q : SM → Prop} (hr : rX2_note s L1 P1) (h : Q (mX2_note s L1 P1)) : KV MX2_note 2 [.ref 55, .ref L1] s Q := by
  refine bX2_note hL1 ?_
  unfold rX2_note at hr
  unfold mX2_note at h
  refine ⟨hr.1, ?_⟩
  replace hr := hr.2
  refine ⟨hr.1, ?_⟩
  replace hr := hr.2
  refine ⟨hr.1, ?_⟩
  replace hr := hr.2
  refine ⟨hr, ?_⟩
  first | exact h | contradiction
set_option maxRecDepth 1000000 in
theorem bX2_takeBack {L1 P1 : Nat} (hL1 : (L1, P1) ∈ LX) {s : SM} {Q : Int32 → SM → Prop} (h : ((¬ (gI s 55 2) = 0 → (∀ s1, s1 = (pI s 55 1 ((((gI s 55 1) + (9 : Int32)) - (1 : Int32)) - (((gI s 55 1) + (9 : Int32)) - (1 : Int32)) / (9 : Int32) * (9 : Int32))) → vp_in (gI (pI s1 55 2 ((gI s1 55 2) - (1 : Int32))) 55 1) 9 ∧ RF 56 ((gI (pI s1 55 2 ((gI s1 55 2) - (1 : Int32))) 55 1)).toNatClampNeg = some (rfx 56 ((gI (pI s1 55 2 ((gI s1 55 2) - (1 : Int32))) 55 1)).toNatClampNeg) ∧ ((rfx 56 ((gI (pI s1 55 2 ((gI s1 55 2) - (1 : Int32))) 55 1)).toNatClampNeg), rfx (rfx 56 ((gI (pI s1 55 2 ((gI s1 55 2) - (1 : Int32))) 55 1)).toNatClampNeg) 8) ∈ LX ∧ rX4_copyFrom (pI s1 55 2 ((gI s1 55 2) - (1 : Int32))) L1 P1 (rfx 56 ((gI (pI s1 55 2 ((gI s1 55 2) - (1 : Int32))) 55 1)).toNatClampNeg) (rfx (rfx 56 ((gI (pI s1 55 2 ((gI s1 55 2) - (1 : Int32))) 55 1)).toNatClampNeg) 8) ∧ (∀ s5, s5 = (mX4_copyFrom (pI s1 55 2 ((gI s1 55 2) - (1 : Int32))) L1 P1 (rfx 56 ((gI (pI s1 55 2 ((gI s1 55 2) - (1 : Int32))) 55 1)).toNatClampNeg) (rfx (rfx 56 ((gI (pI s1 55 2 ((gI s1 55 2) - (1 : Int32))) 55 1)).toNatClampNeg) 8)) → Q (gI s5 55 2) s5))) ∧ ((gI s 55 2) = 0 → Q (-1 : Int32) s))) : KI MX2_takeBack 2 [.ref 55, .ref L1] s Q := by
  show BI MX2_takeBack 2 0 [(0, .ref 55), (1, .ref L1)] s Q
  refine JT_aload_n (q := 0) dX2_takeBack_0 rfl rfl ?_
  refine JS_getI dX2_takeBack_1 flX2_20 BS_55 (Nat.le_of_ble_eq_true rfl) (Nat.le_of_ble_eq_true rfl) (Or.inl ct_2_2) ?_
  refine JT_if_ne (tgt := 9) dX2_takeBack_4 (by decide) (fun hc7 => ?_) (fun hc7 => ?_)
  · have h := h.1 hc7
    refine JT_aload_n (q := 0) dX2_takeBack_9 rfl rfl ?_
    refine JT_aload_n (q := 0) dX2_takeBack_10 rfl rfl ?_
    refine JS_getI dX2_takeBack_11 flX2_24 BS_55 (Nat.le_of_ble_eq_true rfl) (Nat.le_of_ble_eq_true rfl) (Or.inl ct_2_1) ?_
    refine JT_bipush (v := 9) dX2_takeBack_14 bp_9 ?_
    refine JT_iadd dX2_takeBack_16 ?_
    refine JT_iconst (v := 1) dX2_takeBack_17 ic_1 ?_
    refine JT_isub dX2_takeBack_18 ?_
    refine JT_bipush (v := 9) dX2_takeBack_19 bp_9 ?_
    refine JT_irem dX2_takeBack_21 (by decide) ?_
    refine JS_putI dX2_takeBack_22 flX2_24 BS_55 (Nat.le_of_ble_eq_true rfl) (Nat.le_of_ble_eq_true rfl) ct_2_1 ?_
    obtain ⟨s1, hs1⟩ : ∃ z, z = (pI s 55 1 ((((gI s 55 1) + (9 : Int32)) - (1 : Int32)) - (((gI s 55 1) + (9 : Int32)) - (1 : Int32)) / (9 : Int32) * (9 : Int32))) := ⟨_, rfl⟩
    replace h := h s1 hs1
    rw [← hs1]
    refine JT_aload_n (q := 0) dX2_takeBack_25 rfl rfl ?_
    refine JT_dup dX2_takeBack_26 rfl ?_
    refine JS_getI dX2_takeBack_27 flX2_20 BS_55 (Nat.le_of_ble_eq_true rfl) (Nat.le_of_ble_eq_true rfl) (Or.inl ct_2_2) ?_
    refine JT_iconst (v := 1) dX2_takeBack_30 ic_1 ?_
    refine JT_isub dX2_takeBack_31 ?_
    refine JS_putI dX2_takeBack_32 flX2_20 BS_55 (Nat.le_of_ble_eq_true rfl) (Nat.le_of_ble_eq_true rfl) ct_2_2 ?_
    refine JT_aload_n (q := 1) dX2_takeBack_35 rfl rfl ?_
    refine JT_aload_n (q := 0) dX2_takeBack_36 rfl rfl ?_
    refine JS_getR (x := 56) dX2_takeBack_37 flX2_13 BS_55 (Nat.le_of_ble_eq_true rfl) (Nat.le_of_ble_eq_true rfl) (Or.inr ⟨_, ct_2_0⟩) RF_55_0 ?_
    refine JT_aload_n (q := 0) dX2_takeBack_40 rfl rfl ?_
    refine JS_getI dX2_takeBack_41 flX2_24 BS_55 (Nat.le_of_ble_eq_true rfl) (Nat.le_of_ble_eq_true rfl) (Or.inl ct_2_1) ?_
    obtain ⟨o2, hr3, hn4, h⟩ := h
    refine JS_aald dX2_takeBack_44 BS_56 (Nat.le_of_ble_eq_true rfl) (Nat.le_of_ble_eq_true rfl) o2 (by rw [RFd_arr (Or.inr rfl)]; exact hr3) ?_
    obtain ⟨o6, h⟩ := h
    refine JS_callVV (M' := MX4_copyFrom) (d' := 1) (As := [.ref (rfx 56 ((gI (pI s1 55 2 ((gI s1 55 2) - (1 : Int32))) 55 1)).toNatClampNeg)]) (rest := []) (P := (fun wm9 => (mX4_copyFrom (pI s1 55 2 ((gI s1 55 2) - (1 : Int32))) L1 P1 (rfx 56 ((gI (pI s1 55 2 ((gI s1 55 2) - (1 : Int32))) 55 1)).toNatClampNeg) (rfx (rfx 56 ((gI (pI s1 55 2 ((gI s1 55 2) - (1 : Int32))) 55 1)).toNatClampNeg) 8)) = wm9)) dX2_takeBack_45 cvX2_27 okX4_copyFrom rfl (Nat.le_of_ble_eq_true rfl) (lxB hL1) (lx2 hL1) (lxN hL1) hci_4 (Nat.le_of_ble_eq_true rfl) (Nat.le_of_ble_eq_true rfl) (pX4_copyFrom hL1 hn4  o6 rfl) (fun wm9 hq9 => ?_)
    subst hq9
    obtain ⟨s5, hs5⟩ : ∃ z, z = (mX4_copyFrom (pI s1 55 2 ((gI s1 55 2) - (1 : Int32))) L1 P1 (rfx 56 ((gI (pI s1 55 2 ((gI s1 55 2) - (1 : Int32))) 55 1)).toNatClampNeg) (rfx (rfx 56 ((gI (pI s1 55 2 ((gI s1 55 2) - (1 : Int32))) 55 1)).toNatClampNeg) 8)) := ⟨_, rfl⟩
    replace h := h s5 hs5
    rw [← hs5]
    refine JT_aload_n (q := 0) dX2_takeBack_48 rfl rfl ?_
    refine JS_getI dX2_takeBack_49 flX2_20 BS_55 (Nat.le_of_ble_eq_true rfl) (Nat.le_of_ble_eq_true rfl) (Or.inl ct_2_2) ?_
    exact JS_iret dX2_takeBack_52 rfl rfl h
  · have h := h.2 hc7
    refine JT_iconst (v := -1) dX2_takeBack_7 ic_m1 ?_
    exact JS_iret dX2_takeBack_8 rfl rfl h
set_option maxRecDepth 1000000 in
theorem pX2_takeBack {L1 P1 : Nat} (hL1 : (L1, P1) ∈ LX) {s : SM} {Q : Int32 → SM → Prop} (hr : rX2_takeBack s L1 P1) (h : Q (vX2_takeBack s L1 P1) (mX2_takeBack s L1 P1)) : KI MX2_takeBack 2 [.ref 55, .ref L1] s Q := by
  refine bX2_takeBack hL1 ?_
  unfold rX2_takeBack at hr
  unfold vX2_takeBack mX2_takeBack at h
  refine ⟨fun c => ?_, fun c => ?_⟩
  · replace hr := hr c
    replace h := q2n c h
    intro s1 e9
    replace hr := hr s1 e9
    try rw [← e9] at h
    try dsimp only at h
    refine ⟨hr.1, ?_⟩
    replace hr := hr.2
    refine ⟨hr.1, ?_⟩
    replace hr := hr.2
    refine ⟨hr.1, ?_⟩
    replace hr := hr.2
    refine ⟨hr, ?_⟩
    intro s5 e9
    try rw [← e9] at h
    try dsimp only at h
    first | exact h | contradiction
  · replace h := q2p c h
    first | exact h | contradiction
set_option maxRecDepth 1000000 in
theorem bX3_bringBack {I0 P0 L0 B0 : Nat} (hi0 : (I0, P0, L0, B0) ∈ IX) {p1 : Nat} (hp1 : p1 ∈ PX) {L2 P2 : Nat} (hL2 : (L2, P2) ∈ LX) {k3 : Nat} (hk3 : k3 ∈ BX) {s : SM} {Q : SM → Prop} (h : rX4_copyFrom (mX6_copyFrom s p1 P0) L2 P2 L0 P0 ∧ Q (mX0_copyFrom (mX4_copyFrom (mX6_copyFrom s p1 P0) L2 P2 L0 P0) k3 B0)) : KV MX3_bringBack 2 [.ref I0, .ref p1, .ref L2, .ref k3] s Q := by
  show BV MX3_bringBack 2 0 [(0, .ref I0), (1, .ref p1), (2, .ref L2), (3, .ref k3)] s Q
  refine JT_aload_n (q := 1) dX3_bringBack_0 rfl rfl ?_
  refine JT_aload_n (q := 0) dX3_bringBack_1 rfl rfl ?_
  refine JS_getR (x := P0) dX3_bringBack_2 flX3_10 (ixB hi0) (ix2 hi0) (ixN hi0) (Or.inl ⟨_, ct_3_1⟩) (ixR1 hi0) ?_
  refine JS_callVV (M' := MX6_copyFrom) (d' := 1) (As := [.ref P0]) (rest := []) (P := (fun wm9 => (mX6_copyFrom s p1 P0) = wm9)) dX3_bringBack_5 cvX3_32 okX6_copyFrom rfl (Nat.le_of_ble_eq_true rfl) (pxB hp1) (px2 hp1) (pxN hp1) hci_6 (Nat.le_of_ble_eq_true rfl) (Nat.le_of_ble_eq_true rfl) (pX6_copyFrom hp1 (ixP hi0)   rfl) (fun wm9 hq9 => ?_)
  subst hq9
  refine JT_aload_n (q := 2) dX3_bringBack_8 rfl rfl ?_
  refine JT_aload_n (q := 0) dX3_bringBack_9 rfl rfl ?_
  refine JS_getR (x := L0) dX3_bringBack_10 flX3_21 (ixB hi0) (ix2 hi0) (ixN hi0) (Or.inl ⟨_, ct_3_2⟩) (ixR2 hi0) ?_
  obtain ⟨o2, h⟩ := h
  refine JS_callVV (M' := MX4_copyFrom) (d' := 1) (As := [.ref L0]) (rest := []) (P := (fun wm9 => (mX4_copyFrom (mX6_copyFrom s p1 P0) L2 P2 L0 P0) = wm9)) dX3_bringBack_13 cvX3_35 okX4_copyFrom rfl (Nat.le_of_ble_eq_true rfl) (lxB hL2) (lx2 hL2) (lxN hL2) hci_4 (Nat.le_of_ble_eq_true rfl) (Nat.le_of_ble_eq_true rfl) (pX4_copyFrom hL2 (ixL hi0)  o2 rfl) (fun wm9 hq9 => ?_)
  subst hq9
  refine JT_aload_n (q := 3) dX3_bringBack_16 rfl rfl ?_
  refine JT_aload_n (q := 0) dX3_bringBack_17 rfl rfl ?_
  refine JS_getR (x := B0) dX3_bringBack_18 flX3_28 (ixB hi0) (ix2 hi0) (ixN hi0) (Or.inl ⟨_, ct_3_3⟩) (ixR3 hi0) ?_
  refine JS_callVV (M' := MX0_copyFrom) (d' := 1) (As := [.ref B0]) (rest := []) (P := (fun wm9 => (mX0_copyFrom (mX4_copyFrom (mX6_copyFrom s p1 P0) L2 P2 L0 P0) k3 B0) = wm9)) dX3_bringBack_21 cvX3_38 okX0_copyFrom rfl (Nat.le_of_ble_eq_true rfl) (bxB hk3) (bx2 hk3) (bxN hk3) hci_0 (Nat.le_of_ble_eq_true rfl) (Nat.le_of_ble_eq_true rfl) (pX0_copyFrom hk3 (ixBk hi0)   rfl) (fun wm9 hq9 => ?_)
  subst hq9
  exact JS_vret dX3_bringBack_24 rfl h
set_option maxRecDepth 1000000 in
theorem pX3_bringBack {I0 P0 L0 B0 : Nat} (hi0 : (I0, P0, L0, B0) ∈ IX) {p1 : Nat} (hp1 : p1 ∈ PX) {L2 P2 : Nat} (hL2 : (L2, P2) ∈ LX) {k3 : Nat} (hk3 : k3 ∈ BX) {s : SM} {Q : SM → Prop} (hr : rX3_bringBack s I0 P0 L0 B0 p1 L2 P2 k3) (h : Q (mX3_bringBack s I0 P0 L0 B0 p1 L2 P2 k3)) : KV MX3_bringBack 2 [.ref I0, .ref p1, .ref L2, .ref k3] s Q := by
  refine bX3_bringBack hi0 hp1 hL2 hk3 ?_
  unfold rX3_bringBack at hr
  unfold mX3_bringBack at h
  refine ⟨hr, ?_⟩
  first | exact h | contradiction
set_option maxRecDepth 1000000 in
theorem bX3_keep {I0 P0 L0 B0 : Nat} (hi0 : (I0, P0, L0, B0) ∈ IX) {p1 : Nat} (hp1 : p1 ∈ PX) {L2 P2 : Nat} (hL2 : (L2, P2) ∈ LX) {k3 : Nat} (hk3 : k3 ∈ BX) {s : SM} {Q : SM → Prop} (h : rX4_copyFrom (mX6_copyFrom s P0 p1) L0 P0 L2 P2 ∧ Q (pI (mX0_copyFrom (mX4_copyFrom (mX6_copyFrom s P0 p1) L0 P0 L2 P2) B0 k3) I0 0 (1 : Int32))) : KV MX3_keep 2 [.ref I0, .ref p1, .ref L2, .ref k3] s Q := by
  show BV MX3_keep 2 0 [(0, .ref I0), (1, .ref p1), (2, .ref L2), (3, .ref k3)] s Q
  refine JT_aload_n (q := 0) dX3_keep_0 rfl rfl ?_
  refine JS_getR (x := P0) dX3_keep_1 flX3_10 (ixB hi0) (ix2 hi0) (ixN hi0) (Or.inl ⟨_, ct_3_1⟩) (ixR1 hi0) ?_
  refine JT_aload_n (q := 1) dX3_keep_4 rfl rfl ?_
  refine JS_callVV (M' := MX6_copyFrom) (d' := 1) (As := [.ref p1]) (rest := []) (P := (fun wm9 => (mX6_copyFrom s P0 p1) = wm9)) dX3_keep_5 cvX3_32 okX6_copyFrom rfl (Nat.le_of_ble_eq_true rfl) (pxB (ixP hi0)) (px2 (ixP hi0)) (pxN (ixP hi0)) hci_6 (Nat.le_of_ble_eq_true rfl) (Nat.le_of_ble_eq_true rfl) (pX6_copyFrom (ixP hi0) hp1   rfl) (fun wm9 hq9 => ?_)
  subst hq9
  refine JT_aload_n (q := 0) dX3_keep_8 rfl rfl ?_
  refine JS_getR (x := L0) dX3_keep_9 flX3_21 (ixB hi0) (ix2 hi0) (ixN hi0) (Or.inl ⟨_, ct_3_2⟩) (ixR2 hi0) ?_
  refine JT_aload_n (q := 2) dX3_keep_12 rfl rfl ?_
  obtain ⟨o2, h⟩ := h
  refine JS_callVV (M' := MX4_copyFrom) (d' := 1) (As := [.ref L2]) (rest := []) (P := (fun wm9 => (mX4_copyFrom (mX6_copyFrom s P0 p1) L0 P0 L2 P2) = wm9)) dX3_keep_13 cvX3_35 okX4_copyFrom rfl (Nat.le_of_ble_eq_true rfl) (lxB (ixL hi0)) (lx2 (ixL hi0)) (lxN (ixL hi0)) hci_4 (Nat.le_of_ble_eq_true rfl) (Nat.le_of_ble_eq_true rfl) (pX4_copyFrom (ixL hi0) hL2  o2 rfl) (fun wm9 hq9 => ?_)
  subst hq9
  refine JT_aload_n (q := 0) dX3_keep_16 rfl rfl ?_
  refine JS_getR (x := B0) dX3_keep_17 flX3_28 (ixB hi0) (ix2 hi0) (ixN hi0) (Or.inl ⟨_, ct_3_3⟩) (ixR3 hi0) ?_
  refine JT_aload_n (q := 3) dX3_keep_20 rfl rfl ?_
  refine JS_callVV (M' := MX0_copyFrom) (d' := 1) (As := [.ref k3]) (rest := []) (P := (fun wm9 => (mX0_copyFrom (mX4_copyFrom (mX6_copyFrom s P0 p1) L0 P0 L2 P2) B0 k3) = wm9)) dX3_keep_21 cvX3_38 okX0_copyFrom rfl (Nat.le_of_ble_eq_true rfl) (bxB (ixBk hi0)) (bx2 (ixBk hi0)) (bxN (ixBk hi0)) hci_0 (Nat.le_of_ble_eq_true rfl) (Nat.le_of_ble_eq_true rfl) (pX0_copyFrom (ixBk hi0) hk3   rfl) (fun wm9 hq9 => ?_)
  subst hq9
  refine JT_aload_n (q := 0) dX3_keep_24 rfl rfl ?_
  refine JT_iconst (v := 1) dX3_keep_25 ic_1 ?_
  refine JS_putZ dX3_keep_26 flX3_41 (ixB hi0) (ix2 hi0) (ixN hi0) ct_3_0 (Or.inr rfl) ?_
  exact JS_vret dX3_keep_29 rfl h
set_option maxRecDepth 1000000 in
theorem pX3_keep {I0 P0 L0 B0 : Nat} (hi0 : (I0, P0, L0, B0) ∈ IX) {p1 : Nat} (hp1 : p1 ∈ PX) {L2 P2 : Nat} (hL2 : (L2, P2) ∈ LX) {k3 : Nat} (hk3 : k3 ∈ BX) {s : SM} {Q : SM → Prop} (hr : rX3_keep s I0 P0 L0 B0 p1 L2 P2 k3) (h : Q (mX3_keep s I0 P0 L0 B0 p1 L2 P2 k3)) : KV MX3_keep 2 [.ref I0, .ref p1, .ref L2, .ref k3] s Q := by
  refine bX3_keep hi0 hp1 hL2 hk3 ?_
  unfold rX3_keep at hr
  unfold mX3_keep at h
  refine ⟨hr, ?_⟩
  first | exact h | contradiction
set_option maxRecDepth 1000000 in
theorem bX4_debtBearerFor {L0 P0 : Nat} (hL0 : (L0, P0) ∈ LX) (a1 : Int32) (a2 : Int32) (a3 : Int32) {s : SM} {Q : Int32 → SM → Prop} (h : vp_in a3 9 ∧ vp_in a3 9 ∧ rX4_bearerFor (pI s (L0 + 7) (a3).toNatClampNeg ((gI s (L0 + 7) (a3).toNatClampNeg) - a2)) L0 P0 a1 a2 ∧ vp_in a3 9 ∧ vp_in a3 9 ∧ (∀ s5, s5 = (pI (pI s (L0 + 7) (a3).toNatClampNeg ((gI s (L0 + 7) (a3).toNatClampNeg) - a2)) (L0 + 7) (a3).toNatClampNeg ((gI (pI s (L0 + 7) (a3).toNatClampNeg ((gI s (L0 + 7) (a3).toNatClampNeg) - a2)) (L0 + 7) (a3).toNatClampNeg) + a2)) → Q (vX4_bearerFor (pI s (L0 + 7) (a3).toNatClampNeg ((gI s (L0 + 7) (a3).toNatClampNeg) - a2)) L0 P0 a1 a2) s5)) : KI MX4_debtBearerFor 2 [.ref L0, .int a1, .int a2, .int a3] s Q := by
  show BI MX4_debtBearerFor 2 0 [(0, .ref L0), (1, .int a1), (2, .int a2), (3, .int a3)] s Q
  refine JT_aload_n (q := 0) dX4_debtBearerFor_0 rfl rfl ?_
  refine JS_getR (x := (L0 + 7)) dX4_debtBearerFor_1 flX4_30 (lxB hL0) (lx2 hL0) (lxN hL0) (Or.inr ⟨_, ct_4_6⟩) (lxR6 hL0) ?_
  refine JT_iload_n (q := 3) dX4_debtBearerFor_4 rfl rfl ?_
  refine JT_dup2 dX4_debtBearerFor_5 rfl rfl ?_
  obtain ⟨o1, h⟩ := h
  refine JS_iald dX4_debtBearerFor_6 (lxB7 hL0) (lx2k hL0 _) (lxNk hL0 (Nat.le_of_ble_eq_true rfl)) o1 ?_
  refine JT_iload_n (q := 2) dX4_debtBearerFor_7 rfl rfl ?_
  refine JT_isub dX4_debtBearerFor_8 ?_
  obtain ⟨o2, h⟩ := h
  refine JS_iast dX4_debtBearerFor_9 (lxB7 hL0) (lx2k hL0 _) (lxNk hL0 (Nat.le_of_ble_eq_true rfl)) o2 ?_
  refine JT_aload_n (q := 0) dX4_debtBearerFor_10 rfl rfl ?_
  refine JT_iload_n (q := 1) dX4_debtBearerFor_11 rfl rfl ?_
  refine JT_iload_n (q := 2) dX4_debtBearerFor_12 rfl rfl ?_
  obtain ⟨o6, h⟩ := h
  refine JS_callVI (M' := MX4_bearerFor) (d' := 1) (As := [.int a1, .int a2]) (rest := []) (P := (fun zv9 wm9 => (vX4_bearerFor (pI s (L0 + 7) (a3).toNatClampNeg ((gI s (L0 + 7) (a3).toNatClampNeg) - a2)) L0 P0 a1 a2) = zv9 ∧ (pI s (L0 + 7) (a3).toNatClampNeg ((gI s (L0 + 7) (a3).toNatClampNeg) - a2)) = wm9)) dX4_debtBearerFor_13 cvX4_125 okX4_bearerFor rfl (Nat.le_of_ble_eq_true rfl) (lxB hL0) (lx2 hL0) (lxN hL0) hci_4 (Nat.le_of_ble_eq_true rfl) (Nat.le_of_ble_eq_true rfl) (pX4_bearerFor hL0 (a1) (a2) o6 ⟨rfl, rfl⟩) (fun zv9 wm9 hq9 => ?_)
  obtain ⟨rfl, rfl⟩ := hq9
  refine JT_istore (lv' := [(4, .int (vX4_bearerFor (pI s (L0 + 7) (a3).toNatClampNeg ((gI s (L0 + 7) (a3).toNatClampNeg) - a2)) L0 P0 a1 a2)), (0, .ref L0), (1, .int a1), (2, .int a2), (3, .int a3)]) dX4_debtBearerFor_16 (Nat.le_of_ble_eq_true rfl) rfl ?_
  refine JT_aload_n (q := 1) dX4_debtBearerFor_18 rfl rfl ?_
  refine JS_getR (x := (L0 + 7)) dX4_debtBearerFor_19 flX4_30 (lxB hL0) (lx2 hL0) (lxN hL0) (Or.inr ⟨_, ct_4_6⟩) (lxR6 hL0) ?_
  refine JT_iload_n (q := 4) dX4_debtBearerFor_22 rfl rfl ?_
  refine JT_dup2 dX4_debtBearerFor_23 rfl rfl ?_
  obtain ⟨o3, h⟩ := h
  refine JS_iald dX4_debtBearerFor_24 (lxB7 hL0) (lx2k hL0 _) (lxNk hL0 (Nat.le_of_ble_eq_true rfl)) o3 ?_
  refine JT_iload_n (q := 3) dX4_debtBearerFor_25 rfl rfl ?_
  refine JT_iadd dX4_debtBearerFor_26 ?_
  obtain ⟨o4, h⟩ := h
  refine JS_iast dX4_debtBearerFor_27 (lxB7 hL0) (lx2k hL0 _) (lxNk hL0 (Nat.le_of_ble_eq_true rfl)) o4 ?_
  obtain ⟨s5, hs5⟩ : ∃ z, z = (pI (pI s (L0 + 7) (a3).toNatClampNeg ((gI s (L0 + 7) (a3).toNatClampNeg) - a2)) (L0 + 7) (a3).toNatClampNeg ((gI (pI s (L0 + 7) (a3).toNatClampNeg ((gI s (L0 + 7) (a3).toNatClampNeg) - a2)) (L0 + 7) (a3).toNatClampNeg) + a2)) := ⟨_, rfl⟩
  replace h := h s5 hs5
  rw [← hs5]
  refine JT_iload (q := 0) dX4_debtBearerFor_28 rfl ?_
  exact JS_iret dX4_debtBearerFor_30 rfl rfl h
set_option maxRecDepth 1000000 in
theorem pX4_debtBearerFor {L0 P0 : Nat} (hL0 : (L0, P0) ∈ LX) (a1 : Int32) (a2 : Int32) (a3 : Int32) {s : SM} {Q : Int32 → SM → Prop} (hr : rX4_debtBearerFor s L0 P0 a1 a2 a3) (h : Q (vX4_debtBearerFor s L0 P0 a1 a2 a3) (mX4_debtBearerFor s L0 P0 a1 a2 a3)) : KI MX4_debtBearerFor 2 [.ref L0, .int a1, .int a2, .int a3] s Q := by
  refine bX4_debtBearerFor hL0 a1 a2 a3 ?_
  unfold rX4_debtBearerFor at hr
  unfold vX4_debtBearerFor mX4_debtBearerFor at h
  refine ⟨hr.1, ?_⟩
  replace hr := hr.2
  refine ⟨hr.1, ?_⟩
  replace hr := hr.2
  refine ⟨hr.1, ?_⟩
  replace hr := hr.2
  refine ⟨hr.1, ?_⟩
  replace hr := hr.2
  refine ⟨hr, ?_⟩
  intro s5 e9
  try rw [← e9] at h
  try dsimp only at h
  first | exact h | contradiction
set_option maxRecDepth 1000000 in
theorem bX4_freedBy_4 {L0 P0 : Nat} (hL0 : (L0, P0) ∈ LX) (a1 : Int32) (a2 : Int32) (a3 : Int32) {s : SM} {Q : Int32 → SM → Prop} (h : (((1 : Int32) < a3 → Q a2 s) ∧ (¬ (1 : Int32) < a3 → rX4_bearer s L0 P0 a1 a3 ∧ ((¬ (vX4_isBuried s L0 P0 (vX4_bearer s L0 P0 a1 a3)) = 0 → BI MX4_freedBy 2 4 [(0, .ref L0), (1, .int a1), (2, .int a2), (3, .int (a3 + 1))] s Q) ∧ ((vX4_isBuried s L0 P0 (vX4_bearer s L0 P0 a1 a3)) = 0 → vp_in a1 60 ∧ vp_in (gI s (L0 + 4) (a1).toNatClampNeg) 6 ∧ vp_in a1 60 ∧ rX6_dotOn s P0 (gI s (L0 + 4) (a1).toNatClampNeg) ∧ BI MX4_freedBy 2 4 [(0, .ref L0), (1, .int a1), (2, .int (a2 + ((gI s (P0 + 5) ((gI s (L0 + 4) (a1).toNatClampNeg)).toNatClampNeg) - (vX6_dotOn s P0 (gI s (L0 + 4) (a1).toNatClampNeg))))), (3, .int (a3 + 1))] s Q))))) : BI MX4_freedBy 2 4 [(0, .ref L0), (1, .int a1), (2, .int a2), (3, .int a3)] s Q := by
  refine JT_iload_n (q := 3) dX4_freedBy_4 rfl rfl ?_
  refine JT_iconst (v := 1) dX4_freedBy_5 ic_1 ?_
  refine JT_icmp_gt (tgt := 59) dX4_freedBy_6 (by decide) (fun hc8 => ?_) (fun hc8 => ?_)
  · have h := h.1 hc8
    refine JT_iload_n (q := 2) dX4_freedBy_59 rfl rfl ?_
    exact JS_iret dX4_freedBy_60 rfl rfl h
  · have h := h.2 hc8
    refine JT_aload_n (q := 0) dX4_freedBy_9 rfl rfl ?_
    refine JT_aload_n (q := 0) dX4_freedBy_10 rfl rfl ?_
    refine JT_iload_n (q := 1) dX4_freedBy_11 rfl rfl ?_
    refine JT_iload_n (q := 3) dX4_freedBy_12 rfl rfl ?_
    obtain ⟨o7, h⟩ := h
    refine JS_callVI (M' := MX4_bearer) (d' := 0) (As := [.int a1, .int a3]) (rest := [.ref L0]) (P := (fun zv9 wm9 => (vX4_bearer s L0 P0 a1 a3) = zv9 ∧ s = wm9)) dX4_freedBy_13 cvX4_78 okX4_bearer rfl (Nat.le_of_ble_eq_true rfl) (lxB hL0) (lx2 hL0) (lxN hL0) hci_4 (Nat.le_of_ble_eq_true rfl) (Nat.le_of_ble_eq_true rfl) (pX4_bearer hL0 (a1) (a3) o7 ⟨rfl, rfl⟩) (fun zv9 wm9 hq9 => ?_)
    obtain ⟨rfl, rfl⟩ := hq9
    refine JS_callVI (M' := MX4_isBuried) (d' := 1) (As := [.int (vX4_bearer s L0 P0 a1 a3)]) (rest := []) (P := (fun zv9 wm9 => (vX4_isBuried s L0 P0 (vX4_bearer s L0 P0 a1 a3)) = zv9 ∧ s = wm9)) dX4_freedBy_16 cvX4_141 okX4_isBuried rfl (Nat.le_of_ble_eq_true rfl) (lxB hL0) (lx2 hL0) (lxN hL0) hci_4 (Nat.le_of_ble_eq_true rfl) (Nat.le_of_ble_eq_true rfl) (pX4_isBuried hL0 ((vX4_bearer s L0 P0 a1 a3))  ⟨rfl, rfl⟩) (fun zv9 wm9 hq9 => ?_)
    obtain ⟨rfl, rfl⟩ := hq9
    refine JT_if_ne (tgt := 53) dX4_freedBy_19 (by decide) (fun hc5 => ?_) (fun hc5 => ?_)
    · have h := h.1 hc5
      refine JT_iinc (q := 3) (v := (a3 + 1)) (lv' := [(3, .int (a3 + 1)), (0, .ref L0), (1, .int a1), (2, .int a2)]) dX4_freedBy_53 rfl (by rfl) (Nat.le_of_ble_eq_true rfl) rfl ?_
      refine JT_goto (tgt := 4) dX4_freedBy_56 (by decide) ?_
      exact JT_sub [1, 2, 3, 0] rfl h
    · have h := h.2 hc5
      refine JT_iload_n (q := 2) dX4_freedBy_22 rfl rfl ?_
      refine JT_aload_n (q := 0) dX4_freedBy_23 rfl rfl ?_
      refine JS_getR (x := P0) dX4_freedBy_24 flX4_45 (lxB hL0) (lx2 hL0) (lxN hL0) (Or.inl ⟨_, ct_4_8⟩) (lxR8 hL0) ?_
      refine JS_getR (x := (P0 + 5)) dX4_freedBy_27 flX4_128 (pxB (lxP hL0)) (px2 (lxP hL0)) (pxN (lxP hL0)) (Or.inr ⟨_, ct_6_4⟩) (pxR4 (lxP hL0)) ?_
      refine JT_aload_n (q := 0) dX4_freedBy_30 rfl rfl ?_
      refine JS_getR (x := (L0 + 4)) dX4_freedBy_31 flX4_21 (lxB hL0) (lx2 hL0) (lxN hL0) (Or.inr ⟨_, ct_4_3⟩) (lxR3 hL0) ?_
      refine JT_iload_n (q := 1) dX4_freedBy_34 rfl rfl ?_
      obtain ⟨o1, h⟩ := h
      refine JS_iald dX4_freedBy_35 (lxB4 hL0) (lx2k hL0 _) (lxNk hL0 (Nat.le_of_ble_eq_true rfl)) o1 ?_
      obtain ⟨o2, h⟩ := h
      refine JS_iald dX4_freedBy_36 (pxB5 (lxP hL0)) (px2k (lxP hL0) _) (pxNk (lxP hL0) (Nat.le_of_ble_eq_true rfl)) o2 ?_
      refine JT_aload_n (q := 0) dX4_freedBy_37 rfl rfl ?_
      refine JS_getR (x := P0) dX4_freedBy_38 flX4_45 (lxB hL0) (lx2 hL0) (lxN hL0) (Or.inl ⟨_, ct_4_8⟩) (lxR8 hL0) ?_
      refine JT_aload_n (q := 0) dX4_freedBy_41 rfl rfl ?_
      refine JS_getR (x := (L0 + 4)) dX4_freedBy_42 flX4_21 (lxB hL0) (lx2 hL0) (lxN hL0) (Or.inr ⟨_, ct_4_3⟩) (lxR3 hL0) ?_
      refine JT_iload_n (q := 1) dX4_freedBy_45 rfl rfl ?_
      obtain ⟨o3, h⟩ := h
      refine JS_iald dX4_freedBy_46 (lxB4 hL0) (lx2k hL0 _) (lxNk hL0 (Nat.le_of_ble_eq_true rfl)) o3 ?_
      obtain ⟨o4, h⟩ := h
      refine JS_callVI (M' := MX6_dotOn) (d' := 1) (As := [.int (gI s (L0 + 4) (a1).toNatClampNeg)]) (rest := [.int (gI s (P0 + 5) ((gI s (L0 + 4) (a1).toNatClampNeg)).toNatClampNeg), .int a2]) (P := (fun zv9 wm9 => (vX6_dotOn s P0 (gI s (L0 + 4) (a1).toNatClampNeg)) = zv9 ∧ s = wm9)) dX4_freedBy_47 cvX4_151 okX6_dotOn rfl (Nat.le_of_ble_eq_true rfl) (pxB (lxP hL0)) (px2 (lxP hL0)) (pxN (lxP hL0)) hci_6 (Nat.le_of_ble_eq_true rfl) (Nat.le_of_ble_eq_true rfl) (pX6_dotOn (lxP hL0) ((gI s (L0 + 4) (a1).toNatClampNeg)) o4 ⟨rfl, rfl⟩) (fun zv9 wm9 hq9 => ?_)
      obtain ⟨rfl, rfl⟩ := hq9
      refine JT_isub dX4_freedBy_50 ?_
      refine JT_iadd dX4_freedBy_51 ?_
      refine JT_istore_n (lv' := [(2, .int (a2 + ((gI s (P0 + 5) ((gI s (L0 + 4) (a1).toNatClampNeg)).toNatClampNeg) - (vX6_dotOn s P0 (gI s (L0 + 4) (a1).toNatClampNeg))))), (0, .ref L0), (1, .int a1), (3, .int a3)]) dX4_freedBy_52 rfl (Nat.le_of_ble_eq_true rfl) rfl ?_
      refine JT_iinc (q := 3) (v := (a3 + 1)) (lv' := [(3, .int (a3 + 1)), (2, .int (a2 + ((gI s (P0 + 5) ((gI s (L0 + 4) (a1).toNatClampNeg)).toNatClampNeg) - (vX6_dotOn s P0 (gI s (L0 + 4) (a1).toNatClampNeg))))), (0, .ref L0), (1, .int a1)]) dX4_freedBy_53 rfl (by rfl) (Nat.le_of_ble_eq_true rfl) rfl ?_
      refine JT_goto (tgt := 4) dX4_freedBy_56 (by decide) ?_
      exact JT_sub [2, 3, 1, 0] rfl h
set_option maxRecDepth 1000000 in
theorem bX4_freedBy {L0 P0 : Nat} (hL0 : (L0, P0) ∈ LX) (a1 : Int32) {s : SM} {Q : Int32 → SM → Prop} (h : BI MX4_freedBy 2 4 [(0, .ref L0), (1, .int a1), (2, .int (0 : Int32)), (3, .int (0 : Int32))] s Q) : KI MX4_freedBy 2 [.ref L0, .int a1] s Q := by
  show BI MX4_freedBy 2 0 [(0, .ref L0), (1, .int a1)] s Q
  refine JT_iconst (v := 0) dX4_freedBy_0 ic_0 ?_
  refine JT_istore_n (lv' := [(2, .int (0 : Int32)), (0, .ref L0), (1, .int a1)]) dX4_freedBy_1 rfl (Nat.le_of_ble_eq_true rfl) rfl ?_
  refine JT_iconst (v := 0) dX4_freedBy_2 ic_0 ?_
  refine JT_istore_n (lv' := [(3, .int (0 : Int32)), (2, .int (0 : Int32)), (0, .ref L0), (1, .int a1)]) dX4_freedBy_3 rfl (Nat.le_of_ble_eq_true rfl) rfl ?_
  exact JT_sub [2, 3, 1, 0] rfl h
set_option maxRecDepth 1000000 in
theorem gX4_freedBy {L0 P0 : Nat} (hL0 : (L0, P0) ∈ LX) : ∀ n : Nat, (∀ (a1 : Int32) (a2 : Int32) (a3 : Int32) (s : SM) (Q : Int32 → SM → Prop), ((qX4_freedBy n) s L0 P0 a1 a2 a3) → Q ((lX4_freedBy n) s L0 P0 a1 a2 a3) s → BI MX4_freedBy 2 4 [(0, .ref L0), (1, .int a1), (2, .int a2), (3, .int a3)] s Q) := by
  intro n
  induction n with
  | zero => exact fun _ _ _ _ _ hq _ => absurd hq id
  | succ n ih =>
    intro a1 a2 a3 s Q hr h
    replace hr : uX4_freedBy_4 (qX4_freedBy n) s L0 P0 a1 a2 a3 := hr
    replace h : Q (tX4_freedBy_4 (lX4_freedBy n) s L0 P0 a1 a2 a3) s := h
    unfold uX4_freedBy_4 at hr
    unfold tX4_freedBy_4 at h
    refine bX4_freedBy_4 hL0 a1 a2 a3 ?_
    refine ⟨fun c => ?_, fun c => ?_⟩
    · replace h := qlp c h
      first | exact h | contradiction
    · replace hr := hr c
      replace h := qln c h
      refine ⟨hr.1, ?_⟩
      replace hr := hr.2
      refine ⟨fun c => ?_, fun c => ?_⟩
      · replace hr := hr.1 c
        replace h := qln c h
        first | exact ih a1 a2 (a3 + 1) _ Q hr h | contradiction
      · replace hr := hr.2 c
        replace h := qlp c h
        refine ⟨hr.1, ?_⟩
        replace hr := hr.2
        refine ⟨hr.1, ?_⟩
        replace hr := hr.2
        refine ⟨hr.1, ?_⟩
        replace hr := hr.2
        refine ⟨hr.1, ?_⟩
        replace hr := hr.2
        first | exact ih a1 (a2 + ((gI s (P0 + 5) ((gI s (L0 + 4) (a1).toNatClampNeg)).toNatClampNeg) - (vX6_dotOn s P0 (gI s (L0 + 4) (a1).toNatClampNeg)))) (a3 + 1) _ Q hr h | contradiction
set_option maxRecDepth 1000000 in
theorem pX4_freedBy {L0 P0 : Nat} (hL0 : (L0, P0) ∈ LX) (a1 : Int32) {s : SM} {Q : Int32 → SM → Prop} (hr : rX4_freedBy s L0 P0 a1) (h : Q (vX4_freedBy s L0 P0 a1) s) : KI MX4_freedBy 2 [.ref L0, .int a1] s Q := by
  replace h : Q (fX4_freedBy s L0 P0 a1) s := h
  unfold rX4_freedBy at hr
  unfold fX4_freedBy at h
  refine bX4_freedBy hL0 a1 ?_
  first | exact (gX4_freedBy hL0 FU) a1 (0 : Int32) (0 : Int32) _ Q hr h | contradiction
set_option maxRecDepth 1000000 in
theorem bX4_hasRoomForLines_43 {L0 P0 : Nat} (hL0 : (L0, P0) ∈ LX) (a1 : Int32) (a2 : Int32) (a3 : Int32) {s : SM} {Q : Int32 → SM → Prop} (h : ((¬ (vX4_isBuried s L0 P0 a2) = 0 → Q (1 : Int32) s) ∧ ((vX4_isBuried s L0 P0 a2) = 0 → vp_in a2 9 ∧ Q (if (gI s (L0 + 7) (a2).toNatClampNeg) < a3 then (0 : Int32) else (1 : Int32)) s))) : BI MX4_hasRoomForLines 2 43 [(0, .ref L0), (1, .int a1), (2, .int a2), (3, .int a3)] s Q := by
  refine JT_aload_n (q := 0) dX4_hasRoomForLines_43 rfl rfl ?_
  refine JT_iload_n (q := 2) dX4_hasRoomForLines_44 rfl rfl ?_
  refine JS_callVI (M' := MX4_isBuried) (d' := 1) (As := [.int a2]) (rest := []) (P := (fun zv9 wm9 => (vX4_isBuried s L0 P0 a2) = zv9 ∧ s = wm9)) dX4_hasRoomForLines_45 cvX4_141 okX4_isBuried rfl (Nat.le_of_ble_eq_true rfl) (lxB hL0) (lx2 hL0) (lxN hL0) hci_4 (Nat.le_of_ble_eq_true rfl) (Nat.le_of_ble_eq_true rfl) (pX4_isBuried hL0 (a2)  ⟨rfl, rfl⟩) (fun zv9 wm9 hq9 => ?_)
  obtain ⟨rfl, rfl⟩ := hq9
  refine JT_if_ne (tgt := 61) dX4_hasRoomForLines_48 (by decide) (fun hc4 => ?_) (fun hc4 => ?_)
  · have h := h.1 hc4
    refine JT_iconst (v := 1) dX4_hasRoomForLines_61 ic_1 ?_
    refine JT_goto (tgt := 66) dX4_hasRoomForLines_62 (by decide) ?_
    exact JS_iret dX4_hasRoomForLines_66 rfl (n01 (Or.inr rfl)) h
  · have h := h.2 hc4
    refine JT_aload_n (q := 0) dX4_hasRoomForLines_51 rfl rfl ?_
    refine JS_getR (x := (L0 + 7)) dX4_hasRoomForLines_52 flX4_30 (lxB hL0) (lx2 hL0) (lxN hL0) (Or.inr ⟨_, ct_4_6⟩) (lxR6 hL0) ?_
    refine JT_iload_n (q := 2) dX4_hasRoomForLines_55 rfl rfl ?_
    obtain ⟨o1, h⟩ := h
    refine JS_iald dX4_hasRoomForLines_56 (lxB7 hL0) (lx2k hL0 _) (lxNk hL0 (Nat.le_of_ble_eq_true rfl)) o1 ?_
    refine JT_iload_n (q := 3) dX4_hasRoomForLines_57 rfl rfl ?_
    have hj2 : ∀ v : Int32, v = (if (gI s (L0 + 7) (a2).toNatClampNeg) < a3 then (0 : Int32) else (1 : Int32)) → JT MX4_hasRoomForLines 2 0 0 66 [(0, .ref L0), (1, .int a1), (2, .int a2), (3, .int a3)] [.int v] (std s) (KQ Q) := by
      intro v hv
      subst hv
      exact JS_iret dX4_hasRoomForLines_66 rfl (n01 (i01 (Or.inl rfl) (Or.inr rfl))) h
    refine JT_icmp_lt (tgt := 65) dX4_hasRoomForLines_58 (by decide) (fun hc3 => ?_) (fun hc3 => ?_)
    · refine JT_iconst (v := 0) dX4_hasRoomForLines_65 ic_0 ?_
      exact hj2 _ (by rw [if_pos hc3])
    · refine JT_iconst (v := 1) dX4_hasRoomForLines_61 ic_1 ?_
      refine JT_goto (tgt := 66) dX4_hasRoomForLines_62 (by decide) ?_
      exact hj2 _ (by rw [if_neg hc3])
set_option maxRecDepth 1000000 in
theorem bX4_hasRoomForLines {L0 P0 : Nat} (hL0 : (L0, P0) ∈ LX) (a1 : Int32) (a2 : Int32) {s : SM} {Q : Int32 → SM → Prop} (h : ((¬ a1 = a2 → ((¬ (vX4_isBuried s L0 P0 a1) = 0 → BI MX4_hasRoomForLines 2 43 [(0, .ref L0), (1, .int a1), (2, .int a2), (3, .int (gI s P0 8))] s Q) ∧ ((vX4_isBuried s L0 P0 a1) = 0 → vp_in a1 9 ∧ (((gI s (L0 + 7) (a1).toNatClampNeg) < (gI s P0 8) → Q (0 : Int32) s) ∧ (¬ (gI s (L0 + 7) (a1).toNatClampNeg) < (gI s P0 8) → BI MX4_hasRoomForLines 2 43 [(0, .ref L0), (1, .int a1), (2, .int a2), (3, .int (gI s P0 8))] s Q))))) ∧ (a1 = a2 → ((¬ (vX4_isBuried s L0 P0 a1) = 0 → BI MX4_hasRoomForLines 2 43 [(0, .ref L0), (1, .int a1), (2, .int a2), (3, .int ((2 : Int32) * (gI s P0 8)))] s Q) ∧ ((vX4_isBuried s L0 P0 a1) = 0 → vp_in a1 9 ∧ (((gI s (L0 + 7) (a1).toNatClampNeg) < ((2 : Int32) * (gI s P0 8)) → Q (0 : Int32) s) ∧ (¬ (gI s (L0 + 7) (a1).toNatClampNeg) < ((2 : Int32) * (gI s P0 8)) → BI MX4_hasRoomForLines 2 43 [(0, .ref L0), (1, .int a1), (2, .int a2), (3, .int ((2 : Int32) * (gI s P0 8)))] s Q))))))) : KI MX4_hasRoomForLines 2 [.ref L0, .int a1, .int a2] s Q := by
  show BI MX4_hasRoomForLines 2 0 [(0, .ref L0), (1, .int a1), (2, .int a2)] s Q
  refine JT_iload_n (q := 1) dX4_hasRoomForLines_0 rfl rfl ?_
  refine JT_iload_n (q := 2) dX4_hasRoomForLines_1 rfl rfl ?_
  refine JT_icmp_ne (tgt := 17) dX4_hasRoomForLines_2 (by decide) (fun hc9 => ?_) (fun hc9 => ?_)
  · have h := h.1 hc9
    refine JT_aload_n (q := 0) dX4_hasRoomForLines_17 rfl rfl ?_
    refine JS_getR (x := P0) dX4_hasRoomForLines_18 flX4_45 (lxB hL0) (lx2 hL0) (lxN hL0) (Or.inl ⟨_, ct_4_8⟩) (lxR8 hL0) ?_
    refine JS_getI dX4_hasRoomForLines_21 flX4_138 (pxB (lxP hL0)) (px2 (lxP hL0)) (pxN (lxP hL0)) (Or.inl ct_6_8) ?_
    refine JT_istore_n (lv' := [(3, .int (gI s P0 8)), (0, .ref L0), (1, .int a1), (2, .int a2)]) dX4_hasRoomForLines_24 rfl (Nat.le_of_ble_eq_true rfl) rfl ?_
    refine JT_aload_n (q := 1) dX4_hasRoomForLines_25 rfl rfl ?_
    refine JT_iload_n (q := 2) dX4_hasRoomForLines_26 rfl rfl ?_
    refine JS_callVI (M' := MX4_isBuried) (d' := 1) (As := [.int a1]) (rest := []) (P := (fun zv9 wm9 => (vX4_isBuried s L0 P0 a1) = zv9 ∧ s = wm9)) dX4_hasRoomForLines_27 cvX4_141 okX4_isBuried rfl (Nat.le_of_ble_eq_true rfl) (lxB hL0) (lx2 hL0) (lxN hL0) hci_4 (Nat.le_of_ble_eq_true rfl) (Nat.le_of_ble_eq_true rfl) (pX4_isBuried hL0 (a1)  ⟨rfl, rfl⟩) (fun zv9 wm9 hq9 => ?_)
    obtain ⟨rfl, rfl⟩ := hq9
    refine JT_if_ne (tgt := 43) dX4_hasRoomForLines_30 (by decide) (fun hc3 => ?_) (fun hc3 => ?_)
    · have h := h.1 hc3
      exact JT_sub [1, 2, 3, 0] rfl h
    · have h := h.2 hc3
      refine JT_aload_n (q := 1) dX4_hasRoomForLines_33 rfl rfl ?_
      refine JS_getR (x := (L0 + 7)) dX4_hasRoomForLines_34 flX4_30 (lxB hL0) (lx2 hL0) (lxN hL0) (Or.inr ⟨_, ct_4_6⟩) (lxR6 hL0) ?_
      refine JT_iload_n (q := 2) dX4_hasRoomForLines_37 rfl rfl ?_
      obtain ⟨o1, h⟩ := h
      refine JS_iald dX4_hasRoomForLines_38 (lxB7 hL0) (lx2k hL0 _) (lxNk hL0 (Nat.le_of_ble_eq_true rfl)) o1 ?_
      refine JT_iload_n (q := 0) dX4_hasRoomForLines_39 rfl rfl ?_
      refine JT_icmp_lt (tgt := 65) dX4_hasRoomForLines_40 (by decide) (fun hc2 => ?_) (fun hc2 => ?_)
      · have h := h.1 hc2
        refine JT_iconst (v := 0) dX4_hasRoomForLines_65 ic_0 ?_
        exact JS_iret dX4_hasRoomForLines_66 rfl (n01 (Or.inl rfl)) h
      · have h := h.2 hc2
        exact JT_sub [1, 2, 3, 0] rfl h
  · have h := h.2 hc9
    refine JT_iconst (v := 2) dX4_hasRoomForLines_5 ic_2 ?_
    refine JT_aload_n (q := 0) dX4_hasRoomForLines_6 rfl rfl ?_
    refine JS_getR (x := P0) dX4_hasRoomForLines_7 flX4_45 (lxB hL0) (lx2 hL0) (lxN hL0) (Or.inl ⟨_, ct_4_8⟩) (lxR8 hL0) ?_
    refine JS_getI dX4_hasRoomForLines_10 flX4_138 (pxB (lxP hL0)) (px2 (lxP hL0)) (pxN (lxP hL0)) (Or.inl ct_6_8) ?_
    refine JT_imul dX4_hasRoomForLines_13 ?_
    refine JT_goto (tgt := 24) dX4_hasRoomForLines_14 (by decide) ?_
    refine JT_istore_n (lv' := [(3, .int ((2 : Int32) * (gI s P0 8))), (0, .ref L0), (1, .int a1), (2, .int a2)]) dX4_hasRoomForLines_24 rfl (Nat.le_of_ble_eq_true rfl) rfl ?_
    refine JT_aload_n (q := 1) dX4_hasRoomForLines_25 rfl rfl ?_
    refine JT_iload_n (q := 2) dX4_hasRoomForLines_26 rfl rfl ?_
    refine JS_callVI (M' := MX4_isBuried) (d' := 1) (As := [.int a1]) (rest := []) (P := (fun zv9 wm9 => (vX4_isBuried s L0 P0 a1) = zv9 ∧ s = wm9)) dX4_hasRoomForLines_27 cvX4_141 okX4_isBuried rfl (Nat.le_of_ble_eq_true rfl) (lxB hL0) (lx2 hL0) (lxN hL0) hci_4 (Nat.le_of_ble_eq_true rfl) (Nat.le_of_ble_eq_true rfl) (pX4_isBuried hL0 (a1)  ⟨rfl, rfl⟩) (fun zv9 wm9 hq9 => ?_)
    obtain ⟨rfl, rfl⟩ := hq9
    refine JT_if_ne (tgt := 43) dX4_hasRoomForLines_30 (by decide) (fun hc7 => ?_) (fun hc7 => ?_)
    · have h := h.1 hc7
      exact JT_sub [1, 2, 3, 0] rfl h
    · have h := h.2 hc7
      refine JT_aload_n (q := 1) dX4_hasRoomForLines_33 rfl rfl ?_
      refine JS_getR (x := (L0 + 7)) dX4_hasRoomForLines_34 flX4_30 (lxB hL0) (lx2 hL0) (lxN hL0) (Or.inr ⟨_, ct_4_6⟩) (lxR6 hL0) ?_
      refine JT_iload_n (q := 2) dX4_hasRoomForLines_37 rfl rfl ?_
      obtain ⟨o5, h⟩ := h
      refine JS_iald dX4_hasRoomForLines_38 (lxB7 hL0) (lx2k hL0 _) (lxNk hL0 (Nat.le_of_ble_eq_true rfl)) o5 ?_
      refine JT_iload_n (q := 0) dX4_hasRoomForLines_39 rfl rfl ?_
      refine JT_icmp_lt (tgt := 65) dX4_hasRoomForLines_40 (by decide) (fun hc6 => ?_) (fun hc6 => ?_)
      · have h := h.1 hc6
        refine JT_iconst (v := 0) dX4_hasRoomForLines_65 ic_0 ?_
        exact JS_iret dX4_hasRoomForLines_66 rfl (n01 (Or.inl rfl)) h
      · have h := h.2 hc6
        exact JT_sub [1, 2, 3, 0] rfl h
set_option maxRecDepth 1000000 in
theorem gX4_hasRoomForLines {L0 P0 : Nat} (hL0 : (L0, P0) ∈ LX) : ∀ n : Nat, (∀ (a1 : Int32) (a2 : Int32) (a3 : Int32) (s : SM) (Q : Int32 → SM → Prop), ((qX4_hasRoomForLines n) s L0 P0 a1 a2 a3) → Q ((lX4_hasRoomForLines n) s L0 P0 a1 a2 a3) s → BI MX4_hasRoomForLines 2 43 [(0, .ref L0), (1, .int a1), (2, .int a2), (3, .int a3)] s Q) := by
  intro n
  induction n with
  | zero => exact fun _ _ _ _ _ hq _ => absurd hq id
  | succ n ih =>
    intro a1 a2 a3 s Q hr h
    replace hr : uX4_hasRoomForLines_43 (qX4_hasRoomForLines n) s L0 P0 a1 a2 a3 := hr
    replace h : Q (tX4_hasRoomForLines_43 (lX4_hasRoomForLines n) s L0 P0 a1 a2 a3) s := h
    unfold uX4_hasRoomForLines_43 at hr
    unfold tX4_hasRoomForLines_43 at h
    refine bX4_hasRoomForLines_43 hL0 a1 a2 a3 ?_
    refine ⟨fun c => ?_, fun c => ?_⟩
    · replace h := qln c h
      first | exact h | contradiction
    · replace hr := hr c
      replace h := qlp c h
      refine ⟨hr, ?_⟩
      first | exact h | contradiction
set_option maxRecDepth 1000000 in
theorem pX4_hasRoomForLines {L0 P0 : Nat} (hL0 : (L0, P0) ∈ LX) (a1 : Int32) (a2 : Int32) {s : SM} {Q : Int32 → SM → Prop} (hr : rX4_hasRoomForLines s L0 P0 a1 a2) (h : Q (vX4_hasRoomForLines s L0 P0 a1 a2) s) : KI MX4_hasRoomForLines 2 [.ref L0, .int a1, .int a2] s Q := by
  replace h : Q (fX4_hasRoomForLines s L0 P0 a1 a2) s := h
  unfold rX4_hasRoomForLines at hr
  unfold fX4_hasRoomForLines at h
  refine bX4_hasRoomForLines hL0 a1 a2 ?_
  refine ⟨fun c => ?_, fun c => ?_⟩
  · replace hr := hr.1 c
    replace h := qln c h
    refine ⟨fun c => ?_, fun c => ?_⟩
    · replace hr := hr.1 c
      replace h := qln c h
      first | exact (gX4_hasRoomForLines hL0 FU) a1 a2 (gI s P0 8) _ Q hr h | contradiction
    · replace hr := hr.2 c
      replace h := qlp c h
      refine ⟨hr.1, ?_⟩
      replace hr := hr.2
      refine ⟨fun c => ?_, fun c => ?_⟩
      · replace h := qlp c h
        first | exact h | contradiction
      · replace hr := hr c
        replace h := qln c h
        first | exact (gX4_hasRoomForLines hL0 FU) a1 a2 (gI s P0 8) _ Q hr h | contradiction
  · replace hr := hr.2 c
    replace h := qlp c h
    refine ⟨fun c => ?_, fun c => ?_⟩
    · replace hr := hr.1 c
      replace h := qln c h
      first | exact (gX4_hasRoomForLines hL0 FU) a1 a2 ((2 : Int32) * (gI s P0 8)) _ Q hr h | contradiction
    · replace hr := hr.2 c
      replace h := qlp c h
      refine ⟨hr.1, ?_⟩
      replace hr := hr.2
      refine ⟨fun c => ?_, fun c => ?_⟩
      · replace h := qlp c h
        first | exact h | contradiction
      · replace hr := hr c
        replace h := qln c h
        first | exact (gX4_hasRoomForLines hL0 FU) a1 a2 ((2 : Int32) * (gI s P0 8)) _ Q hr h | contradiction
set_option maxRecDepth 1000000 in
theorem bX4_isReadable {L0 P0 : Nat} (hL0 : (L0, P0) ∈ LX) (a1 : Int32) (a2 : Int32) {s : SM} {Q : Int32 → SM → Prop} (h : rX4_unscarredBearer s L0 P0 a1 a2 ∧ (((vX4_unscarredBearer s L0 P0 a1 a2) = (-1 : Int32) → Q (0 : Int32) s) ∧ (¬ (vX4_unscarredBearer s L0 P0 a1 a2) = (-1 : Int32) → Q (if (vX4_lives s L0 P0 (vX4_unscarredBearer s L0 P0 a1 a2)) = 0 then (0 : Int32) else (1 : Int32)) s))) : KI MX4_isReadable 2 [.ref L0, .int a1, .int a2] s Q := by
  show BI MX4_isReadable 2 0 [(0, .ref L0), (1, .int a1), (2, .int a2)] s Q
  refine JT_aload_n (q := 0) dX4_isReadable_0 rfl rfl ?_
  refine JT_iload_n (q := 1) dX4_isReadable_1 rfl rfl ?_
  refine JT_iload_n (q := 2) dX4_isReadable_2 rfl rfl ?_
  obtain ⟨o5, h⟩ := h
  refine JS_callVI (M' := MX4_unscarredBearer) (d' := 1) (As := [.int a1, .int a2]) (rest := []) (P := (fun zv9 wm9 => (vX4_unscarredBearer s L0 P0 a1 a2) = zv9 ∧ s = wm9)) dX4_isReadable_3 cvX4_82 okX4_unscarredBearer rfl (Nat.le_of_ble_eq_true rfl) (lxB hL0) (lx2 hL0) (lxN hL0) hci_4 (Nat.le_of_ble_eq_true rfl) (Nat.le_of_ble_eq_true rfl) (pX4_unscarredBearer hL0 (a1) (a2) o5 ⟨rfl, rfl⟩) (fun zv9 wm9 hq9 => ?_)
  obtain ⟨rfl, rfl⟩ := hq9
  refine JT_istore_n (lv' := [(3, .int (vX4_unscarredBearer s L0 P0 a1 a2)), (0, .ref L0), (1, .int a1), (2, .int a2)]) dX4_isReadable_6 rfl (Nat.le_of_ble_eq_true rfl) rfl ?_
  refine JT_iload_n (q := 0) dX4_isReadable_7 rfl rfl ?_
  refine JT_iconst (v := -1) dX4_isReadable_8 ic_m1 ?_
  refine JT_icmp_eq (tgt := 24) dX4_isReadable_9 (by decide) (fun hc4 => ?_) (fun hc4 => ?_)
  · have h := h.1 hc4
    refine JT_iconst (v := 0) dX4_isReadable_24 ic_0 ?_
    exact JS_iret dX4_isReadable_25 rfl (n01 (Or.inl rfl)) h
  · have h := h.2 hc4
    refine JT_aload_n (q := 1) dX4_isReadable_12 rfl rfl ?_
    refine JT_iload_n (q := 0) dX4_isReadable_13 rfl rfl ?_
    refine JS_callVI (M' := MX4_lives) (d' := 0) (As := [.int (vX4_unscarredBearer s L0 P0 a1 a2)]) (rest := []) (P := (fun zv9 wm9 => (vX4_lives s L0 P0 (vX4_unscarredBearer s L0 P0 a1 a2)) = zv9 ∧ s = wm9)) dX4_isReadable_14 cvX4_85 okX4_lives rfl (Nat.le_of_ble_eq_true rfl) (lxB hL0) (lx2 hL0) (lxN hL0) hci_4 (Nat.le_of_ble_eq_true rfl) (Nat.le_of_ble_eq_true rfl) (pX4_lives hL0 ((vX4_unscarredBearer s L0 P0 a1 a2))  ⟨rfl, rfl⟩) (fun zv9 wm9 hq9 => ?_)
    obtain ⟨rfl, rfl⟩ := hq9
    have hj1 : ∀ v : Int32, v = (if (vX4_lives s L0 P0 (vX4_unscarredBearer s L0 P0 a1 a2)) = 0 then (0 : Int32) else (1 : Int32)) → JT MX4_isReadable 2 0 0 25 [(3, .int (vX4_unscarredBearer s L0 P0 a1 a2)), (0, .ref L0), (1, .int a1), (2, .int a2)] [.int v] (std s) (KQ Q) := by
      intro v hv
      subst hv
      exact JS_iret dX4_isReadable_25 rfl (n01 (i01 (Or.inl rfl) (Or.inr rfl))) h
    refine JT_if_eq (tgt := 24) dX4_isReadable_17 (by decide) (fun hc2 => ?_) (fun hc2 => ?_)
    · refine JT_iconst (v := 0) dX4_isReadable_24 ic_0 ?_
      exact hj1 _ (by rw [if_pos hc2])
    · refine JT_iconst (v := 1) dX4_isReadable_20 ic_1 ?_
      refine JT_goto (tgt := 25) dX4_isReadable_21 (by decide) ?_
      exact hj1 _ (by rw [if_neg hc2])
set_option maxRecDepth 1000000 in
theorem zX4_isReadable (s : SM) (L0 P0 : Nat) (a1 : Int32) (a2 : Int32) : vX4_isReadable s L0 P0 a1 a2 = 0 ∨ vX4_isReadable s L0 P0 a1 a2 = 1 := (i01 (Or.inl rfl) (i01 (Or.inl rfl) (Or.inr rfl)))
set_option maxRecDepth 1000000 in
theorem pX4_isReadable {L0 P0 : Nat} (hL0 : (L0, P0) ∈ LX) (a1 : Int32) (a2 : Int32) {s : SM} {Q : Int32 → SM → Prop} (hr : rX4_isReadable s L0 P0 a1 a2) (h : Q (vX4_isReadable s L0 P0 a1 a2) s) : KI MX4_isReadable 2 [.ref L0, .int a1, .int a2] s Q := by
  refine bX4_isReadable hL0 a1 a2 ?_
  unfold rX4_isReadable at hr
  unfold vX4_isReadable at h
  refine ⟨hr, ?_⟩
  refine ⟨fun c => ?_, fun c => ?_⟩
  · replace h := qlp c h
    first | exact h | contradiction
  · replace h := qln c h
    first | exact h | contradiction
set_option maxRecDepth 1000000 in
theorem bX4_isToldBy {L0 P0 : Nat} (hL0 : (L0, P0) ∈ LX) (a1 : Int32) (a2 : Int32) (a3 : Int32) {s : SM} {Q : Int32 → SM → Prop} (h : rX4_unscarredBearer s L0 P0 a1 a2 ∧ (((vX4_unscarredBearer s L0 P0 a1 a2) = (-1 : Int32) → Q (0 : Int32) s) ∧ (¬ (vX4_unscarredBearer s L0 P0 a1 a2) = (-1 : Int32) → Q (if (vX11_isIn s (vX4_unscarredBearer s L0 P0 a1 a2) a3) = 0 then (0 : Int32) else (1 : Int32)) s))) : KI MX4_isToldBy 2 [.ref L0, .int a1, .int a2, .int a3] s Q := by
  show BI MX4_isToldBy 2 0 [(0, .ref L0), (1, .int a1), (2, .int a2), (3, .int a3)] s Q
  refine JT_aload_n (q := 0) dX4_isToldBy_0 rfl rfl ?_
  refine JT_iload_n (q := 1) dX4_isToldBy_1 rfl rfl ?_
  refine JT_iload_n (q := 2) dX4_isToldBy_2 rfl rfl ?_
  obtain ⟨o5, h⟩ := h
  refine JS_callVI (M' := MX4_unscarredBearer) (d' := 1) (As := [.int a1, .int a2]) (rest := []) (P := (fun zv9 wm9 => (vX4_unscarredBearer s L0 P0 a1 a2) = zv9 ∧ s = wm9)) dX4_isToldBy_3 cvX4_82 okX4_unscarredBearer rfl (Nat.le_of_ble_eq_true rfl) (lxB hL0) (lx2 hL0) (lxN hL0) hci_4 (Nat.le_of_ble_eq_true rfl) (Nat.le_of_ble_eq_true rfl) (pX4_unscarredBearer hL0 (a1) (a2) o5 ⟨rfl, rfl⟩) (fun zv9 wm9 hq9 => ?_)
  obtain ⟨rfl, rfl⟩ := hq9
  refine JT_istore (lv' := [(4, .int (vX4_unscarredBearer s L0 P0 a1 a2)), (0, .ref L0), (1, .int a1), (2, .int a2), (3, .int a3)]) dX4_isToldBy_6 (Nat.le_of_ble_eq_true rfl) rfl ?_
  refine JT_iload (q := 0) dX4_isToldBy_8 rfl ?_
  refine JT_iconst (v := -1) dX4_isToldBy_10 ic_m1 ?_
  refine JT_icmp_eq (tgt := 27) dX4_isToldBy_11 (by decide) (fun hc4 => ?_) (fun hc4 => ?_)
  · have h := h.1 hc4
    refine JT_iconst (v := 0) dX4_isToldBy_27 ic_0 ?_
    exact JS_iret dX4_isToldBy_28 rfl (n01 (Or.inl rfl)) h
  · have h := h.2 hc4
    refine JT_iload (q := 0) dX4_isToldBy_14 rfl ?_
    refine JT_iload_n (q := 4) dX4_isToldBy_16 rfl rfl ?_
    refine JS_callSNI (M' := MX11_isIn) (d' := 0) (As := [.int (vX4_unscarredBearer s L0 P0 a1 a2), .int a3]) (rest := []) (P := (fun zv9 wm9 => (vX11_isIn s (vX4_unscarredBearer s L0 P0 a1 a2) a3) = zv9 ∧ s = wm9)) dX4_isToldBy_17 cvX4_74 okX11_isIn rfl (Nat.le_of_ble_eq_true rfl) (Nat.le_of_ble_eq_true rfl) (Nat.le_of_ble_eq_true rfl) (pX11_isIn  ((vX4_unscarredBearer s L0 P0 a1 a2)) (a3)  ⟨rfl, rfl⟩) (fun zv9 wm9 hq9 => ?_)
    obtain ⟨rfl, rfl⟩ := hq9
    have hj1 : ∀ v : Int32, v = (if (vX11_isIn s (vX4_unscarredBearer s L0 P0 a1 a2) a3) = 0 then (0 : Int32) else (1 : Int32)) → JT MX4_isToldBy 2 0 0 28 [(4, .int (vX4_unscarredBearer s L0 P0 a1 a2)), (0, .ref L0), (1, .int a1), (2, .int a2), (3, .int a3)] [.int v] (std s) (KQ Q) := by
      intro v hv
      subst hv
      exact JS_iret dX4_isToldBy_28 rfl (n01 (i01 (Or.inl rfl) (Or.inr rfl))) h
    refine JT_if_eq (tgt := 27) dX4_isToldBy_20 (by decide) (fun hc2 => ?_) (fun hc2 => ?_)
    · refine JT_iconst (v := 0) dX4_isToldBy_27 ic_0 ?_
      exact hj1 _ (by rw [if_pos hc2])
    · refine JT_iconst (v := 1) dX4_isToldBy_23 ic_1 ?_
      refine JT_goto (tgt := 28) dX4_isToldBy_24 (by decide) ?_
      exact hj1 _ (by rw [if_neg hc2])
set_option maxRecDepth 1000000 in
theorem zX4_isToldBy (s : SM) (L0 P0 : Nat) (a1 : Int32) (a2 : Int32) (a3 : Int32) : vX4_isToldBy s L0 P0 a1 a2 a3 = 0 ∨ vX4_isToldBy s L0 P0 a1 a2 a3 = 1 := (i01 (Or.inl rfl) (i01 (Or.inl rfl) (Or.inr rfl)))
set_option maxRecDepth 1000000 in
theorem pX4_isToldBy {L0 P0 : Nat} (hL0 : (L0, P0) ∈ LX) (a1 : Int32) (a2 : Int32) (a3 : Int32) {s : SM} {Q : Int32 → SM → Prop} (hr : rX4_isToldBy s L0 P0 a1 a2 a3) (h : Q (vX4_isToldBy s L0 P0 a1 a2 a3) s) : KI MX4_isToldBy 2 [.ref L0, .int a1, .int a2, .int a3] s Q := by
  refine bX4_isToldBy hL0 a1 a2 a3 ?_
  unfold rX4_isToldBy at hr
  unfold vX4_isToldBy at h
  refine ⟨hr, ?_⟩
  refine ⟨fun c => ?_, fun c => ?_⟩
  · replace h := qlp c h
    first | exact h | contradiction
  · replace h := qln c h
    first | exact h | contradiction
set_option maxRecDepth 1000000 in
theorem bX4_latestOpen_7 {L0 P0 : Nat} (hL0 : (L0, P0) ∈ LX) (a1 : Int32) (a2 : Int32) {s : SM} {Q : Int32 → SM → Prop} (h : ((a2 < a1 → Q (-1 : Int32) s) ∧ (¬ a2 < a1 → rX4_isOpen s L0 P0 a2 ∧ (((vX4_isOpen s L0 P0 a2) = 0 → BI MX4_latestOpen 2 7 [(0, .ref L0), (1, .int a1), (2, .int (a2 + (-1)))] s Q) ∧ (¬ (vX4_isOpen s L0 P0 a2) = 0 → Q a2 s))))) : BI MX4_latestOpen 2 7 [(0, .ref L0), (1, .int a1), (2, .int a2)] s Q := by
  refine JT_iload_n (q := 2) dX4_latestOpen_7 rfl rfl ?_
  refine JT_iload_n (q := 1) dX4_latestOpen_8 rfl rfl ?_
  refine JT_icmp_lt (tgt := 28) dX4_latestOpen_9 (by decide) (fun hc3 => ?_) (fun hc3 => ?_)
  · have h := h.1 hc3
    refine JT_iconst (v := -1) dX4_latestOpen_28 ic_m1 ?_
    exact JS_iret dX4_latestOpen_29 rfl rfl h
  · have h := h.2 hc3
    refine JT_aload_n (q := 0) dX4_latestOpen_12 rfl rfl ?_
    refine JT_iload_n (q := 2) dX4_latestOpen_13 rfl rfl ?_
    obtain ⟨o2, h⟩ := h
    refine JS_callVI (M' := MX4_isOpen) (d' := 1) (As := [.int a2]) (rest := []) (P := (fun zv9 wm9 => (vX4_isOpen s L0 P0 a2) = zv9 ∧ s = wm9)) dX4_latestOpen_14 cvX4_94 okX4_isOpen rfl (Nat.le_of_ble_eq_true rfl) (lxB hL0) (lx2 hL0) (lxN hL0) hci_4 (Nat.le_of_ble_eq_true rfl) (Nat.le_of_ble_eq_true rfl) (pX4_isOpen hL0 (a2) o2 ⟨rfl, rfl⟩) (fun zv9 wm9 hq9 => ?_)
    obtain ⟨rfl, rfl⟩ := hq9
    refine JT_if_eq (tgt := 22) dX4_latestOpen_17 (by decide) (fun hc1 => ?_) (fun hc1 => ?_)
    · have h := h.1 hc1
      refine JT_iinc (q := 2) (v := (a2 + (-1))) (lv' := [(2, .int (a2 + (-1))), (0, .ref L0), (1, .int a1)]) dX4_latestOpen_22 rfl (by rfl) (Nat.le_of_ble_eq_true rfl) rfl ?_
      refine JT_goto (tgt := 7) dX4_latestOpen_25 (by decide) ?_
      exact JT_sub [1, 2, 0] rfl h
    · have h := h.2 hc1
      refine JT_iload_n (q := 2) dX4_latestOpen_20 rfl rfl ?_
      exact JS_iret dX4_latestOpen_21 rfl rfl h
set_option maxRecDepth 1000000 in
theorem bX4_latestOpen {L0 P0 : Nat} (hL0 : (L0, P0) ∈ LX) (a1 : Int32) {s : SM} {Q : Int32 → SM → Prop} (h : BI MX4_latestOpen 2 7 [(0, .ref L0), (1, .int a1), (2, .int ((gI s L0 9) - (1 : Int32)))] s Q) : KI MX4_latestOpen 2 [.ref L0, .int a1] s Q := by
  show BI MX4_latestOpen 2 0 [(0, .ref L0), (1, .int a1)] s Q
  refine JT_aload_n (q := 0) dX4_latestOpen_0 rfl rfl ?_
  refine JS_getI dX4_latestOpen_1 flX4_49 (lxB hL0) (lx2 hL0) (lxN hL0) (Or.inl ct_4_9) ?_
  refine JT_iconst (v := 1) dX4_latestOpen_4 ic_1 ?_
  refine JT_isub dX4_latestOpen_5 ?_
  refine JT_istore_n (lv' := [(2, .int ((gI s L0 9) - (1 : Int32))), (0, .ref L0), (1, .int a1)]) dX4_latestOpen_6 rfl (Nat.le_of_ble_eq_true rfl) rfl ?_
  exact JT_sub [1, 2, 0] rfl h
set_option maxRecDepth 1000000 in
theorem gX4_latestOpen {L0 P0 : Nat} (hL0 : (L0, P0) ∈ LX) : ∀ n : Nat, (∀ (a1 : Int32) (a2 : Int32) (s : SM) (Q : Int32 → SM → Prop), ((qX4_latestOpen n) s L0 P0 a1 a2) → Q ((lX4_latestOpen n) s L0 P0 a1 a2) s → BI MX4_latestOpen 2 7 [(0, .ref L0), (1, .int a1), (2, .int a2)] s Q) := by
  intro n
  induction n with
  | zero => exact fun _ _ _ _ hq _ => absurd hq id
  | succ n ih =>
    intro a1 a2 s Q hr h
    replace hr : uX4_latestOpen_7 (qX4_latestOpen n) s L0 P0 a1 a2 := hr
    replace h : Q (tX4_latestOpen_7 (lX4_latestOpen n) s L0 P0 a1 a2) s := h
    unfold uX4_latestOpen_7 at hr
    unfold tX4_latestOpen_7 at h
    refine bX4_latestOpen_7 hL0 a1 a2 ?_
    refine ⟨fun c => ?_, fun c => ?_⟩
    · replace h := qlp c h
      first | exact h | contradiction
    · replace hr := hr c
      replace h := qln c h
      refine ⟨hr.1, ?_⟩
      replace hr := hr.2
      refine ⟨fun c => ?_, fun c => ?_⟩
      · replace hr := hr c
        replace h := qlp c h
        first | exact ih a1 (a2 + (-1)) _ Q hr h | contradiction
      · replace h := qln c h
        first | exact h | contradiction
set_option maxRecDepth 1000000 in
theorem pX4_latestOpen {L0 P0 : Nat} (hL0 : (L0, P0) ∈ LX) (a1 : Int32) {s : SM} {Q : Int32 → SM → Prop} (hr : rX4_latestOpen s L0 P0 a1) (h : Q (vX4_latestOpen s L0 P0 a1) s) : KI MX4_latestOpen 2 [.ref L0, .int a1] s Q := by
  replace h : Q (fX4_latestOpen s L0 P0 a1) s := h
  unfold rX4_latestOpen at hr
  unfold fX4_latestOpen at h
  refine bX4_latestOpen hL0 a1 ?_
  first | exact (gX4_latestOpen hL0 FU) a1 ((gI s L0 9) - (1 : Int32)) _ Q hr h | contradiction
set_option maxRecDepth 1000000 in
theorem bX4_lendersTo_4 {L0 P0 : Nat} (hL0 : (L0, P0) ∈ LX) (a1 : Int32) (a2 : Int32) (a3 : Int32) {s : SM} {Q : Int32 → SM → Prop} (h : (((gI s L0 9) ≤ a3 → Q a2 s) ∧ (¬ (gI s L0 9) ≤ a3 → rX4_isOpen s L0 P0 a3 ∧ (((vX4_isOpen s L0 P0 a3) = 0 → BI MX4_lendersTo 2 4 [(0, .ref L0), (1, .int a1), (2, .int a2), (3, .int (a3 + 1))] s Q) ∧ (¬ (vX4_isOpen s L0 P0 a3) = 0 → vp_in a3 60 ∧ (((vX11_isIn s (gI s (L0 + 2) (a3).toNatClampNeg) a1) = 0 → BI MX4_lendersTo 2 4 [(0, .ref L0), (1, .int a1), (2, .int a2), (3, .int (a3 + 1))] s Q) ∧ (¬ (vX11_isIn s (gI s (L0 + 2) (a3).toNatClampNeg) a1) = 0 → vp_in a3 60 ∧ BI MX4_lendersTo 2 4 [(0, .ref L0), (1, .int a1), (2, .int (a2 ||| ((1 : Int32) <<< ((gI s (L0 + 1) (a3).toNatClampNeg) &&& 31)))), (3, .int (a3 + 1))] s Q))))))) : BI MX4_lendersTo 2 4 [(0, .ref L0), (1, .int a1), (2, .int a2), (3, .int a3)] s Q := by
  refine JT_iload_n (q := 3) dX4_lendersTo_4 rfl rfl ?_
  refine JT_aload_n (q := 0) dX4_lendersTo_5 rfl rfl ?_
  refine JS_getI dX4_lendersTo_6 flX4_49 (lxB hL0) (lx2 hL0) (lxN hL0) (Or.inl ct_4_9) ?_
  refine JT_icmp_ge (tgt := 50) dX4_lendersTo_9 (by decide) (fun hc7 => ?_) (fun hc7 => ?_)
  · have h := h.1 hc7
    refine JT_iload_n (q := 2) dX4_lendersTo_50 rfl rfl ?_
    exact JS_iret dX4_lendersTo_51 rfl rfl h
  · have h := h.2 hc7
    refine JT_aload_n (q := 0) dX4_lendersTo_12 rfl rfl ?_
    refine JT_iload_n (q := 3) dX4_lendersTo_13 rfl rfl ?_
    obtain ⟨o6, h⟩ := h
    refine JS_callVI (M' := MX4_isOpen) (d' := 1) (As := [.int a3]) (rest := []) (P := (fun zv9 wm9 => (vX4_isOpen s L0 P0 a3) = zv9 ∧ s = wm9)) dX4_lendersTo_14 cvX4_94 okX4_isOpen rfl (Nat.le_of_ble_eq_true rfl) (lxB hL0) (lx2 hL0) (lxN hL0) hci_4 (Nat.le_of_ble_eq_true rfl) (Nat.le_of_ble_eq_true rfl) (pX4_isOpen hL0 (a3) o6 ⟨rfl, rfl⟩) (fun zv9 wm9 hq9 => ?_)
    obtain ⟨rfl, rfl⟩ := hq9
    refine JT_if_eq (tgt := 44) dX4_lendersTo_17 (by decide) (fun hc5 => ?_) (fun hc5 => ?_)
    · have h := h.1 hc5
      refine JT_iinc (q := 3) (v := (a3 + 1)) (lv' := [(3, .int (a3 + 1)), (0, .ref L0), (1, .int a1), (2, .int a2)]) dX4_lendersTo_44 rfl (by rfl) (Nat.le_of_ble_eq_true rfl) rfl ?_
      refine JT_goto (tgt := 4) dX4_lendersTo_47 (by decide) ?_
      exact JT_sub [1, 2, 3, 0] rfl h
    · have h := h.2 hc5
      refine JT_aload_n (q := 0) dX4_lendersTo_20 rfl rfl ?_
      refine JS_getR (x := (L0 + 2)) dX4_lendersTo_21 flX4_15 (lxB hL0) (lx2 hL0) (lxN hL0) (Or.inr ⟨_, ct_4_1⟩) (lxR1 hL0) ?_
      refine JT_iload_n (q := 3) dX4_lendersTo_24 rfl rfl ?_
      obtain ⟨o1, h⟩ := h
      refine JS_iald dX4_lendersTo_25 (lxB2 hL0) (lx2k hL0 _) (lxNk hL0 (Nat.le_of_ble_eq_true rfl)) o1 ?_
      refine JT_iload_n (q := 1) dX4_lendersTo_26 rfl rfl ?_
      refine JS_callSNI (M' := MX11_isIn) (d' := 0) (As := [.int (gI s (L0 + 2) (a3).toNatClampNeg), .int a1]) (rest := []) (P := (fun zv9 wm9 => (vX11_isIn s (gI s (L0 + 2) (a3).toNatClampNeg) a1) = zv9 ∧ s = wm9)) dX4_lendersTo_27 cvX4_74 okX11_isIn rfl (Nat.le_of_ble_eq_true rfl) (Nat.le_of_ble_eq_true rfl) (Nat.le_of_ble_eq_true rfl) (pX11_isIn  ((gI s (L0 + 2) (a3).toNatClampNeg)) (a1)  ⟨rfl, rfl⟩) (fun zv9 wm9 hq9 => ?_)
      obtain ⟨rfl, rfl⟩ := hq9
      refine JT_if_eq (tgt := 44) dX4_lendersTo_30 (by decide) (fun hc3 => ?_) (fun hc3 => ?_)
      · have h := h.1 hc3
        refine JT_iinc (q := 3) (v := (a3 + 1)) (lv' := [(3, .int (a3 + 1)), (0, .ref L0), (1, .int a1), (2, .int a2)]) dX4_lendersTo_44 rfl (by rfl) (Nat.le_of_ble_eq_true rfl) rfl ?_
        refine JT_goto (tgt := 4) dX4_lendersTo_47 (by decide) ?_
        exact JT_sub [1, 2, 3, 0] rfl h
      · have h := h.2 hc3
        refine JT_iload_n (q := 2) dX4_lendersTo_33 rfl rfl ?_
        refine JT_iconst (v := 1) dX4_lendersTo_34 ic_1 ?_
        refine JT_aload_n (q := 0) dX4_lendersTo_35 rfl rfl ?_
        refine JS_getR (x := (L0 + 1)) dX4_lendersTo_36 flX4_9 (lxB hL0) (lx2 hL0) (lxN hL0) (Or.inr ⟨_, ct_4_0⟩) (lxR0 hL0) ?_
        refine JT_iload_n (q := 3) dX4_lendersTo_39 rfl rfl ?_
        obtain ⟨o2, h⟩ := h
        refine JS_iald dX4_lendersTo_40 (lxB1 hL0) (lx2k hL0 _) (lxNk hL0 (Nat.le_of_ble_eq_true rfl)) o2 ?_
        refine JT_ishl dX4_lendersTo_41 ?_
        refine JT_ior dX4_lendersTo_42 ?_
        refine JT_istore_n (lv' := [(2, .int (a2 ||| ((1 : Int32) <<< ((gI s (L0 + 1) (a3).toNatClampNeg) &&& 31)))), (0, .ref L0), (1, .int a1), (3, .int a3)]) dX4_lendersTo_43 rfl (Nat.le_of_ble_eq_true rfl) rfl ?_
        refine JT_iinc (q := 3) (v := (a3 + 1)) (lv' := [(3, .int (a3 + 1)), (2, .int (a2 ||| ((1 : Int32) <<< ((gI s (L0 + 1) (a3).toNatClampNeg) &&& 31)))), (0, .ref L0), (1, .int a1)]) dX4_lendersTo_44 rfl (by rfl) (Nat.le_of_ble_eq_true rfl) rfl ?_
        refine JT_goto (tgt := 4) dX4_lendersTo_47 (by decide) ?_
        exact JT_sub [2, 3, 1, 0] rfl h
set_option maxRecDepth 1000000 in
theorem bX4_lendersTo {L0 P0 : Nat} (hL0 : (L0, P0) ∈ LX) (a1 : Int32) {s : SM} {Q : Int32 → SM → Prop} (h : BI MX4_lendersTo 2 4 [(0, .ref L0), (1, .int a1), (2, .int (0 : Int32)), (3, .int (0 : Int32))] s Q) : KI MX4_lendersTo 2 [.ref L0, .int a1] s Q := by
  show BI MX4_lendersTo 2 0 [(0, .ref L0), (1, .int a1)] s Q
  refine JT_iconst (v := 0) dX4_lendersTo_0 ic_0 ?_
  refine JT_istore_n (lv' := [(2, .int (0 : Int32)), (0, .ref L0), (1, .int a1)]) dX4_lendersTo_1 rfl (Nat.le_of_ble_eq_true rfl) rfl ?_
  refine JT_iconst (v := 0) dX4_lendersTo_2 ic_0 ?_
  refine JT_istore_n (lv' := [(3, .int (0 : Int32)), (2, .int (0 : Int32)), (0, .ref L0), (1, .int a1)]) dX4_lendersTo_3 rfl (Nat.le_of_ble_eq_true rfl) rfl ?_
  exact JT_sub [2, 3, 1, 0] rfl h
set_option maxRecDepth 1000000 in
theorem gX4_lendersTo {L0 P0 : Nat} (hL0 : (L0, P0) ∈ LX) : ∀ n : Nat, (∀ (a1 : Int32) (a2 : Int32) (a3 : Int32) (s : SM) (Q : Int32 → SM → Prop), ((qX4_lendersTo n) s L0 P0 a1 a2 a3) → Q ((lX4_lendersTo n) s L0 P0 a1 a2 a3) s → BI MX4_lendersTo 2 4 [(0, .ref L0), (1, .int a1), (2, .int a2), (3, .int a3)] s Q) := by
  intro n
  induction n with
  | zero => exact fun _ _ _ _ _ hq _ => absurd hq id
  | succ n ih =>
    intro a1 a2 a3 s Q hr h
    replace hr : uX4_lendersTo_4 (qX4_lendersTo n) s L0 P0 a1 a2 a3 := hr
    replace h : Q (tX4_lendersTo_4 (lX4_lendersTo n) s L0 P0 a1 a2 a3) s := h
    unfold uX4_lendersTo_4 at hr
    unfold tX4_lendersTo_4 at h
    refine bX4_lendersTo_4 hL0 a1 a2 a3 ?_
    refine ⟨fun c => ?_, fun c => ?_⟩
    · replace h := qlp c h
      first | exact h | contradiction
    · replace hr := hr c
      replace h := qln c h
      refine ⟨hr.1, ?_⟩
      replace hr := hr.2
      refine ⟨fun c => ?_, fun c => ?_⟩
      · replace hr := hr.1 c
        replace h := qlp c h
        first | exact ih a1 a2 (a3 + 1) _ Q hr h | contradiction
      · replace hr := hr.2 c
        replace h := qln c h
        refine ⟨hr.1, ?_⟩
        replace hr := hr.2
        refine ⟨fun c => ?_, fun c => ?_⟩
        · replace hr := hr.1 c
          replace h := qlp c h
          first | exact ih a1 a2 (a3 + 1) _ Q hr h | contradiction
        · replace hr := hr.2 c
          replace h := qln c h
          refine ⟨hr.1, ?_⟩
          replace hr := hr.2
          first | exact ih a1 (a2 ||| ((1 : Int32) <<< ((gI s (L0 + 1) (a3).toNatClampNeg) &&& 31))) (a3 + 1) _ Q hr h | contradiction
set_option maxRecDepth 1000000 in
theorem pX4_lendersTo {L0 P0 : Nat} (hL0 : (L0, P0) ∈ LX) (a1 : Int32) {s : SM} {Q : Int32 → SM → Prop} (hr : rX4_lendersTo s L0 P0 a1) (h : Q (vX4_lendersTo s L0 P0 a1) s) : KI MX4_lendersTo 2 [.ref L0, .int a1] s Q := by
  replace h : Q (fX4_lendersTo s L0 P0 a1) s := h
  unfold rX4_lendersTo at hr
  unfold fX4_lendersTo at h
  refine bX4_lendersTo hL0 a1 ?_
  first | exact (gX4_lendersTo hL0 FU) a1 (0 : Int32) (0 : Int32) _ Q hr h | contradiction
set_option maxRecDepth 1000000 in
theorem bX4_netOf_4 {L0 P0 : Nat} (hL0 : (L0, P0) ∈ LX) (a1 : Int32) (a2 : Int32) (a3 : Int32) {s : SM} {Q : Int32 → SM → Prop} (h : (((gI s L0 9) ≤ a3 → Q a2 s) ∧ (¬ (gI s L0 9) ≤ a3 → rX4_isOpen s L0 P0 a3 ∧ (((vX4_isOpen s L0 P0 a3) = 0 → BI MX4_netOf 2 4 [(0, .ref L0), (1, .int a1), (2, .int a2), (3, .int (a3 + 1))] s Q) ∧ (¬ (vX4_isOpen s L0 P0 a3) = 0 → vp_in a3 60 ∧ ((¬ (gI s (L0 + 1) (a3).toNatClampNeg) = a1 → vp_in a3 60 ∧ ((¬ (gI s (L0 + 2) (a3).toNatClampNeg) = a1 → BI MX4_netOf 2 4 [(0, .ref L0), (1, .int a1), (2, .int ((a2 + (0 : Int32)) - (0 : Int32))), (3, .int (a3 + 1))] s Q) ∧ ((gI s (L0 + 2) (a3).toNatClampNeg) = a1 → rX4_valueOf s L0 P0 a3 ∧ BI MX4_netOf 2 4 [(0, .ref L0), (1, .int a1), (2, .int ((a2 + (0 : Int32)) - (vX4_valueOf s L0 P0 a3))), (3, .int (a3 + 1))] s Q))) ∧ ((gI s (L0 + 1) (a3).toNatClampNeg) = a1 → rX4_valueOf s L0 P0 a3 ∧ vp_in a3 60 ∧ ((¬ (gI s (L0 + 2) (a3).toNatClampNeg) = a1 → BI MX4_netOf 2 4 [(0, .ref L0), (1, .int a1), (2, .int ((a2 + (vX4_valueOf s L0 P0 a3)) - (0 : Int32))), (3, .int (a3 + 1))] s Q) ∧ ((gI s (L0 + 2) (a3).toNatClampNeg) = a1 → rX4_valueOf s L0 P0 a3 ∧ BI MX4_netOf 2 4 [(0, .ref L0), (1, .int a1), (2, .int ((a2 + (vX4_valueOf s L0 P0 a3)) - (vX4_valueOf s L0 P0 a3))), (3, .int (a3 + 1))] s Q))))))))) : BI MX4_netOf 2 4 [(0, .ref L0), (1, .int a1), (2, .int a2), (3, .int a3)] s Q := by
  refine JT_iload_n (q := 3) dX4_netOf_4 rfl rfl ?_
  refine JT_aload_n (q := 0) dX4_netOf_5 rfl rfl ?_
  refine JS_getI dX4_netOf_6 flX4_49 (lxB hL0) (lx2 hL0) (lxN hL0) (Or.inl ct_4_9) ?_
  refine JT_icmp_ge (tgt := 70) dX4_netOf_9 (by decide) (fun hc12 => ?_) (fun hc12 => ?_)
  · have h := h.1 hc12
    refine JT_iload_n (q := 2) dX4_netOf_70 rfl rfl ?_
    exact JS_iret dX4_netOf_71 rfl rfl h
  · have h := h.2 hc12
    refine JT_aload_n (q := 0) dX4_netOf_12 rfl rfl ?_
    refine JT_iload_n (q := 3) dX4_netOf_13 rfl rfl ?_
    obtain ⟨o11, h⟩ := h
    refine JS_callVI (M' := MX4_isOpen) (d' := 1) (As := [.int a3]) (rest := []) (P := (fun zv9 wm9 => (vX4_isOpen s L0 P0 a3) = zv9 ∧ s = wm9)) dX4_netOf_14 cvX4_94 okX4_isOpen rfl (Nat.le_of_ble_eq_true rfl) (lxB hL0) (lx2 hL0) (lxN hL0) hci_4 (Nat.le_of_ble_eq_true rfl) (Nat.le_of_ble_eq_true rfl) (pX4_isOpen hL0 (a3) o11 ⟨rfl, rfl⟩) (fun zv9 wm9 hq9 => ?_)
    obtain ⟨rfl, rfl⟩ := hq9
    refine JT_if_eq (tgt := 64) dX4_netOf_17 (by decide) (fun hc10 => ?_) (fun hc10 => ?_)
    · have h := h.1 hc10
      refine JT_iinc (q := 3) (v := (a3 + 1)) (lv' := [(3, .int (a3 + 1)), (0, .ref L0), (1, .int a1), (2, .int a2)]) dX4_netOf_64 rfl (by rfl) (Nat.le_of_ble_eq_true rfl) rfl ?_
      refine JT_goto (tgt := 4) dX4_netOf_67 (by decide) ?_
      exact JT_sub [1, 2, 3, 0] rfl h
    · have h := h.2 hc10
      refine JT_iload_n (q := 2) dX4_netOf_20 rfl rfl ?_
      refine JT_aload_n (q := 0) dX4_netOf_21 rfl rfl ?_
      refine JS_getR (x := (L0 + 1)) dX4_netOf_22 flX4_9 (lxB hL0) (lx2 hL0) (lxN hL0) (Or.inr ⟨_, ct_4_0⟩) (lxR0 hL0) ?_
      refine JT_iload_n (q := 3) dX4_netOf_25 rfl rfl ?_
      obtain ⟨o1, h⟩ := h
      refine JS_iald dX4_netOf_26 (lxB1 hL0) (lx2k hL0 _) (lxNk hL0 (Nat.le_of_ble_eq_true rfl)) o1 ?_
      refine JT_iload_n (q := 1) dX4_netOf_27 rfl rfl ?_
      refine JT_icmp_ne (tgt := 39) dX4_netOf_28 (by decide) (fun hc9 => ?_) (fun hc9 => ?_)
      · have h := h.1 hc9
        refine JT_iconst (v := 0) dX4_netOf_39 ic_0 ?_
        refine JT_iadd dX4_netOf_40 ?_
        refine JT_istore_n (lv' := [(2, .int (a2 + (0 : Int32))), (0, .ref L0), (1, .int a1), (3, .int a3)]) dX4_netOf_41 rfl (Nat.le_of_ble_eq_true rfl) rfl ?_
        refine JT_iload_n (q := 0) dX4_netOf_42 rfl rfl ?_
        refine JT_aload_n (q := 1) dX4_netOf_43 rfl rfl ?_
        refine JS_getR (x := (L0 + 2)) dX4_netOf_44 flX4_15 (lxB hL0) (lx2 hL0) (lxN hL0) (Or.inr ⟨_, ct_4_1⟩) (lxR1 hL0) ?_
        refine JT_iload_n (q := 3) dX4_netOf_47 rfl rfl ?_
        obtain ⟨o2, h⟩ := h
        refine JS_iald dX4_netOf_48 (lxB2 hL0) (lx2k hL0 _) (lxNk hL0 (Nat.le_of_ble_eq_true rfl)) o2 ?_
        refine JT_iload_n (q := 2) dX4_netOf_49 rfl rfl ?_
        refine JT_icmp_ne (tgt := 61) dX4_netOf_50 (by decide) (fun hc4 => ?_) (fun hc4 => ?_)
        · have h := h.1 hc4
          refine JT_iconst (v := 0) dX4_netOf_61 ic_0 ?_
          refine JT_isub dX4_netOf_62 ?_
          refine JT_istore_n (lv' := [(2, .int ((a2 + (0 : Int32)) - (0 : Int32))), (0, .ref L0), (1, .int a1), (3, .int a3)]) dX4_netOf_63 rfl (Nat.le_of_ble_eq_true rfl) rfl ?_
          refine JT_iinc (q := 3) (v := (a3 + 1)) (lv' := [(3, .int (a3 + 1)), (2, .int ((a2 + (0 : Int32)) - (0 : Int32))), (0, .ref L0), (1, .int a1)]) dX4_netOf_64 rfl (by rfl) (Nat.le_of_ble_eq_true rfl) rfl ?_
          refine JT_goto (tgt := 4) dX4_netOf_67 (by decide) ?_
          exact JT_sub [2, 3, 1, 0] rfl h
        · have h := h.2 hc4
          refine JT_aload_n (q := 1) dX4_netOf_53 rfl rfl ?_
          refine JT_iload_n (q := 3) dX4_netOf_54 rfl rfl ?_
          obtain ⟨o3, h⟩ := h
          refine JS_callVI (M' := MX4_valueOf) (d' := 1) (As := [.int a3]) (rest := [.int (a2 + (0 : Int32))]) (P := (fun zv9 wm9 => (vX4_valueOf s L0 P0 a3) = zv9 ∧ s = wm9)) dX4_netOf_55 cvX4_103 okX4_valueOf rfl (Nat.le_of_ble_eq_true rfl) (lxB hL0) (lx2 hL0) (lxN hL0) hci_4 (Nat.le_of_ble_eq_true rfl) (Nat.le_of_ble_eq_true rfl) (pX4_valueOf hL0 (a3) o3 ⟨rfl, rfl⟩) (fun zv9 wm9 hq9 => ?_)
          obtain ⟨rfl, rfl⟩ := hq9
          refine JT_goto (tgt := 62) dX4_netOf_58 (by decide) ?_
          refine JT_isub dX4_netOf_62 ?_
          refine JT_istore_n (lv' := [(2, .int ((a2 + (0 : Int32)) - (vX4_valueOf s L0 P0 a3))), (0, .ref L0), (1, .int a1), (3, .int a3)]) dX4_netOf_63 rfl (Nat.le_of_ble_eq_true rfl) rfl ?_
          refine JT_iinc (q := 3) (v := (a3 + 1)) (lv' := [(3, .int (a3 + 1)), (2, .int ((a2 + (0 : Int32)) - (vX4_valueOf s L0 P0 a3))), (0, .ref L0), (1, .int a1)]) dX4_netOf_64 rfl (by rfl) (Nat.le_of_ble_eq_true rfl) rfl ?_
          refine JT_goto (tgt := 4) dX4_netOf_67 (by decide) ?_
          exact JT_sub [2, 3, 1, 0] rfl h
      · have h := h.2 hc9
        refine JT_aload_n (q := 0) dX4_netOf_31 rfl rfl ?_
        refine JT_iload_n (q := 3) dX4_netOf_32 rfl rfl ?_
        obtain ⟨o8, h⟩ := h
        refine JS_callVI (M' := MX4_valueOf) (d' := 1) (As := [.int a3]) (rest := [.int a2]) (P := (fun zv9 wm9 => (vX4_valueOf s L0 P0 a3) = zv9 ∧ s = wm9)) dX4_netOf_33 cvX4_103 okX4_valueOf rfl (Nat.le_of_ble_eq_true rfl) (lxB hL0) (lx2 hL0) (lxN hL0) hci_4 (Nat.le_of_ble_eq_true rfl) (Nat.le_of_ble_eq_true rfl) (pX4_valueOf hL0 (a3) o8 ⟨rfl, rfl⟩) (fun zv9 wm9 hq9 => ?_)
        obtain ⟨rfl, rfl⟩ := hq9
        refine JT_goto (tgt := 40) dX4_netOf_36 (by decide) ?_
        refine JT_iadd dX4_netOf_40 ?_
        refine JT_istore_n (lv' := [(2, .int (a2 + (vX4_valueOf s L0 P0 a3))), (0, .ref L0), (1, .int a1), (3, .int a3)]) dX4_netOf_41 rfl (Nat.le_of_ble_eq_true rfl) rfl ?_
        refine JT_iload_n (q := 0) dX4_netOf_42 rfl rfl ?_
        refine JT_aload_n (q := 1) dX4_netOf_43 rfl rfl ?_
        refine JS_getR (x := (L0 + 2)) dX4_netOf_44 flX4_15 (lxB hL0) (lx2 hL0) (lxN hL0) (Or.inr ⟨_, ct_4_1⟩) (lxR1 hL0) ?_
        refine JT_iload_n (q := 3) dX4_netOf_47 rfl rfl ?_
        obtain ⟨o5, h⟩ := h
        refine JS_iald dX4_netOf_48 (lxB2 hL0) (lx2k hL0 _) (lxNk hL0 (Nat.le_of_ble_eq_true rfl)) o5 ?_
        refine JT_iload_n (q := 2) dX4_netOf_49 rfl rfl ?_
        refine JT_icmp_ne (tgt := 61) dX4_netOf_50 (by decide) (fun hc7 => ?_) (fun hc7 => ?_)
        · have h := h.1 hc7
          refine JT_iconst (v := 0) dX4_netOf_61 ic_0 ?_
          refine JT_isub dX4_netOf_62 ?_
          refine JT_istore_n (lv' := [(2, .int ((a2 + (vX4_valueOf s L0 P0 a3)) - (0 : Int32))), (0, .ref L0), (1, .int a1), (3, .int a3)]) dX4_netOf_63 rfl (Nat.le_of_ble_eq_true rfl) rfl ?_
          refine JT_iinc (q := 3) (v := (a3 + 1)) (lv' := [(3, .int (a3 + 1)), (2, .int ((a2 + (vX4_valueOf s L0 P0 a3)) - (0 : Int32))), (0, .ref L0), (1, .int a1)]) dX4_netOf_64 rfl (by rfl) (Nat.le_of_ble_eq_true rfl) rfl ?_
          refine JT_goto (tgt := 4) dX4_netOf_67 (by decide) ?_
          exact JT_sub [2, 3, 1, 0] rfl h
        · have h := h.2 hc7
          refine JT_aload_n (q := 1) dX4_netOf_53 rfl rfl ?_
          refine JT_iload_n (q := 3) dX4_netOf_54 rfl rfl ?_
          obtain ⟨o6, h⟩ := h
          refine JS_callVI (M' := MX4_valueOf) (d' := 1) (As := [.int a3]) (rest := [.int (a2 + (vX4_valueOf s L0 P0 a3))]) (P := (fun zv9 wm9 => (vX4_valueOf s L0 P0 a3) = zv9 ∧ s = wm9)) dX4_netOf_55 cvX4_103 okX4_valueOf rfl (Nat.le_of_ble_eq_true rfl) (lxB hL0) (lx2 hL0) (lxN hL0) hci_4 (Nat.le_of_ble_eq_true rfl) (Nat.le_of_ble_eq_true rfl) (pX4_valueOf hL0 (a3) o6 ⟨rfl, rfl⟩) (fun zv9 wm9 hq9 => ?_)
          obtain ⟨rfl, rfl⟩ := hq9
          refine JT_goto (tgt := 62) dX4_netOf_58 (by decide) ?_
          refine JT_isub dX4_netOf_62 ?_
          refine JT_istore_n (lv' := [(2, .int ((a2 + (vX4_valueOf s L0 P0 a3)) - (vX4_valueOf s L0 P0 a3))), (0, .ref L0), (1, .int a1), (3, .int a3)]) dX4_netOf_63 rfl (Nat.le_of_ble_eq_true rfl) rfl ?_
          refine JT_iinc (q := 3) (v := (a3 + 1)) (lv' := [(3, .int (a3 + 1)), (2, .int ((a2 + (vX4_valueOf s L0 P0 a3)) - (vX4_valueOf s L0 P0 a3))), (0, .ref L0), (1, .int a1)]) dX4_netOf_64 rfl (by rfl) (Nat.le_of_ble_eq_true rfl) rfl ?_
          refine JT_goto (tgt := 4) dX4_netOf_67 (by decide) ?_
          exact JT_sub [2, 3, 1, 0] rfl h
set_option maxRecDepth 1000000 in
theorem bX4_netOf {L0 P0 : Nat} (hL0 : (L0, P0) ∈ LX) (a1 : Int32) {s : SM} {Q : Int32 → SM → Prop} (h : BI MX4_netOf 2 4 [(0, .ref L0), (1, .int a1), (2, .int (0 : Int32)), (3, .int (0 : Int32))] s Q) : KI MX4_netOf 2 [.ref L0, .int a1] s Q := by
  show BI MX4_netOf 2 0 [(0, .ref L0), (1, .int a1)] s Q
  refine JT_iconst (v := 0) dX4_netOf_0 ic_0 ?_
  refine JT_istore_n (lv' := [(2, .int (0 : Int32)), (0, .ref L0), (1, .int a1)]) dX4_netOf_1 rfl (Nat.le_of_ble_eq_true rfl) rfl ?_
  refine JT_iconst (v := 0) dX4_netOf_2 ic_0 ?_
  refine JT_istore_n (lv' := [(3, .int (0 : Int32)), (2, .int (0 : Int32)), (0, .ref L0), (1, .int a1)]) dX4_netOf_3 rfl (Nat.le_of_ble_eq_true rfl) rfl ?_
  exact JT_sub [2, 3, 1, 0] rfl h
set_option maxRecDepth 1000000 in
theorem gX4_netOf {L0 P0 : Nat} (hL0 : (L0, P0) ∈ LX) : ∀ n : Nat, (∀ (a1 : Int32) (a2 : Int32) (a3 : Int32) (s : SM) (Q : Int32 → SM → Prop), ((qX4_netOf n) s L0 P0 a1 a2 a3) → Q ((lX4_netOf n) s L0 P0 a1 a2 a3) s → BI MX4_netOf 2 4 [(0, .ref L0), (1, .int a1), (2, .int a2), (3, .int a3)] s Q) := by
  intro n
  induction n with
  | zero => exact fun _ _ _ _ _ hq _ => absurd hq id
  | succ n ih =>
    intro a1 a2 a3 s Q hr h
    replace hr : uX4_netOf_4 (qX4_netOf n) s L0 P0 a1 a2 a3 := hr
    replace h : Q (tX4_netOf_4 (lX4_netOf n) s L0 P0 a1 a2 a3) s := h
    unfold uX4_netOf_4 at hr
    unfold tX4_netOf_4 at h
    refine bX4_netOf_4 hL0 a1 a2 a3 ?_
    refine ⟨fun c => ?_, fun c => ?_⟩
    · replace h := qlp c h
      first | exact h | contradiction
    · replace hr := hr c
      replace h := qln c h
      refine ⟨hr.1, ?_⟩
      replace hr := hr.2
      refine ⟨fun c => ?_, fun c => ?_⟩
      · replace hr := hr.1 c
        replace h := qlp c h
        first | exact ih a1 a2 (a3 + 1) _ Q hr h | contradiction
      · replace hr := hr.2 c
        replace h := qln c h
        refine ⟨hr.1, ?_⟩
        replace hr := hr.2
        refine ⟨fun c => ?_, fun c => ?_⟩
        · replace hr := hr.1 c
          replace h := qln c h
          refine ⟨hr.1, ?_⟩
          replace hr := hr.2
          refine ⟨fun c => ?_, fun c => ?_⟩
          · replace hr := hr.1 c
            replace h := qln c h
            first | exact ih a1 ((a2 + (0 : Int32)) - (0 : Int32)) (a3 + 1) _ Q hr h | contradiction
          · replace hr := hr.2 c
            replace h := qlp c h
            refine ⟨hr.1, ?_⟩
            replace hr := hr.2
            first | exact ih a1 ((a2 + (0 : Int32)) - (vX4_valueOf s L0 P0 a3)) (a3 + 1) _ Q hr h | contradiction
        · replace hr := hr.2 c
          replace h := qlp c h
          refine ⟨hr.1, ?_⟩
          replace hr := hr.2
          refine ⟨hr.1, ?_⟩
          replace hr := hr.2
          refine ⟨fun c => ?_, fun c => ?_⟩
          · replace hr := hr.1 c
            replace h := qln c h
            first | exact ih a1 ((a2 + (vX4_valueOf s L0 P0 a3)) - (0 : Int32)) (a3 + 1) _ Q hr h | contradiction
          · replace hr := hr.2 c
            replace h := qlp c h
            refine ⟨hr.1, ?_⟩
            replace hr := hr.2
            first | exact ih a1 ((a2 + (vX4_valueOf s L0 P0 a3)) - (vX4_valueOf s L0 P0 a3)) (a3 + 1) _ Q hr h | contradiction
set_option maxRecDepth 1000000 in
theorem pX4_netOf {L0 P0 : Nat} (hL0 : (L0, P0) ∈ LX) (a1 : Int32) {s : SM} {Q : Int32 → SM → Prop} (hr : rX4_netOf s L0 P0 a1) (h : Q (vX4_netOf s L0 P0 a1) s) : KI MX4_netOf 2 [.ref L0, .int a1] s Q := by
  replace h : Q (fX4_netOf s L0 P0 a1) s := h
  unfold rX4_netOf at hr
  unfold fX4_netOf at h
  refine bX4_netOf hL0 a1 ?_
  first | exact (gX4_netOf hL0 FU) a1 (0 : Int32) (0 : Int32) _ Q hr h | contradiction
set_option maxRecDepth 1000000 in
theorem bX4_openAhead_4 {L0 P0 : Nat} (hL0 : (L0, P0) ∈ LX) (a1 : Int32) (a2 : Int32) (a3 : Int32) {s : SM} {Q : Int32 → SM → Prop} (h : (((gI s L0 9) ≤ a3 → Q a2 s) ∧ (¬ (gI s L0 9) ≤ a3 → rX4_isOpen s L0 P0 a3 ∧ (((vX4_isOpen s L0 P0 a3) = 0 → BI MX4_openAhead 2 4 [(0, .ref L0), (1, .int a1), (2, .int a2), (3, .int (a3 + 1))] s Q) ∧ (¬ (vX4_isOpen s L0 P0 a3) = 0 → rX4_valueOf s L0 P0 a3 ∧ rX4_valueOf s L0 P0 a1 ∧ (((vX4_valueOf s L0 P0 a1) < (vX4_valueOf s L0 P0 a3) → BI MX4_openAhead 2 4 [(0, .ref L0), (1, .int a1), (2, .int (a2 + (1 : Int32))), (3, .int (a3 + 1))] s Q) ∧ (¬ (vX4_valueOf s L0 P0 a1) < (vX4_valueOf s L0 P0 a3) → rX4_valueOf s L0 P0 a3 ∧ rX4_valueOf s L0 P0 a1 ∧ BI MX4_openAhead 2 4 [(0, .ref L0), (1, .int a1), (2, .int (a2 + (if (vX4_valueOf s L0 P0 a3) = (vX4_valueOf s L0 P0 a1) then (if a1 ≤ a3 then (0 : Int32) else (1 : Int32)) else (0 : Int32)))), (3, .int (a3 + 1))] s Q))))))) : BI MX4_openAhead 2 4 [(0, .ref L0), (1, .int a1), (2, .int a2), (3, .int a3)] s Q := by
  refine JT_iload_n (q := 3) dX4_openAhead_4 rfl rfl ?_
  refine JT_aload_n (q := 0) dX4_openAhead_5 rfl rfl ?_
  refine JS_getI dX4_openAhead_6 flX4_49 (lxB hL0) (lx2 hL0) (lxN hL0) (Or.inl ct_4_9) ?_
  refine JT_icmp_ge (tgt := 65) dX4_openAhead_9 (by decide) (fun hc11 => ?_) (fun hc11 => ?_)
  · have h := h.1 hc11
    refine JT_iload_n (q := 2) dX4_openAhead_65 rfl rfl ?_
    exact JS_iret dX4_openAhead_66 rfl rfl h
  · have h := h.2 hc11
    refine JT_aload_n (q := 0) dX4_openAhead_12 rfl rfl ?_
    refine JT_iload_n (q := 3) dX4_openAhead_13 rfl rfl ?_
    obtain ⟨o10, h⟩ := h
    refine JS_callVI (M' := MX4_isOpen) (d' := 1) (As := [.int a3]) (rest := []) (P := (fun zv9 wm9 => (vX4_isOpen s L0 P0 a3) = zv9 ∧ s = wm9)) dX4_openAhead_14 cvX4_94 okX4_isOpen rfl (Nat.le_of_ble_eq_true rfl) (lxB hL0) (lx2 hL0) (lxN hL0) hci_4 (Nat.le_of_ble_eq_true rfl) (Nat.le_of_ble_eq_true rfl) (pX4_isOpen hL0 (a3) o10 ⟨rfl, rfl⟩) (fun zv9 wm9 hq9 => ?_)
    obtain ⟨rfl, rfl⟩ := hq9
    refine JT_if_eq (tgt := 59) dX4_openAhead_17 (by decide) (fun hc9 => ?_) (fun hc9 => ?_)
    · have h := h.1 hc9
      refine JT_iinc (q := 3) (v := (a3 + 1)) (lv' := [(3, .int (a3 + 1)), (0, .ref L0), (1, .int a1), (2, .int a2)]) dX4_openAhead_59 rfl (by rfl) (Nat.le_of_ble_eq_true rfl) rfl ?_
      refine JT_goto (tgt := 4) dX4_openAhead_62 (by decide) ?_
      exact JT_sub [1, 2, 3, 0] rfl h
    · have h := h.2 hc9
      refine JT_iload_n (q := 2) dX4_openAhead_20 rfl rfl ?_
      refine JT_aload_n (q := 0) dX4_openAhead_21 rfl rfl ?_
      refine JT_iload_n (q := 3) dX4_openAhead_22 rfl rfl ?_
      obtain ⟨o8, h⟩ := h
      refine JS_callVI (M' := MX4_valueOf) (d' := 1) (As := [.int a3]) (rest := [.int a2]) (P := (fun zv9 wm9 => (vX4_valueOf s L0 P0 a3) = zv9 ∧ s = wm9)) dX4_openAhead_23 cvX4_103 okX4_valueOf rfl (Nat.le_of_ble_eq_true rfl) (lxB hL0) (lx2 hL0) (lxN hL0) hci_4 (Nat.le_of_ble_eq_true rfl) (Nat.le_of_ble_eq_true rfl) (pX4_valueOf hL0 (a3) o8 ⟨rfl, rfl⟩) (fun zv9 wm9 hq9 => ?_)
      obtain ⟨rfl, rfl⟩ := hq9
      refine JT_aload_n (q := 0) dX4_openAhead_26 rfl rfl ?_
      refine JT_iload_n (q := 1) dX4_openAhead_27 rfl rfl ?_
      obtain ⟨o7, h⟩ := h
      refine JS_callVI (M' := MX4_valueOf) (d' := 1) (As := [.int a1]) (rest := [.int (vX4_valueOf s L0 P0 a3), .int a2]) (P := (fun zv9 wm9 => (vX4_valueOf s L0 P0 a1) = zv9 ∧ s = wm9)) dX4_openAhead_28 cvX4_103 okX4_valueOf rfl (Nat.le_of_ble_eq_true rfl) (lxB hL0) (lx2 hL0) (lxN hL0) hci_4 (Nat.le_of_ble_eq_true rfl) (Nat.le_of_ble_eq_true rfl) (pX4_valueOf hL0 (a1) o7 ⟨rfl, rfl⟩) (fun zv9 wm9 hq9 => ?_)
      obtain ⟨rfl, rfl⟩ := hq9
      refine JT_icmp_gt (tgt := 52) dX4_openAhead_31 (by decide) (fun hc6 => ?_) (fun hc6 => ?_)
      · have h := h.1 hc6
        refine JT_iconst (v := 1) dX4_openAhead_52 ic_1 ?_
        refine JT_goto (tgt := 57) dX4_openAhead_53 (by decide) ?_
        refine JT_iadd dX4_openAhead_57 ?_
        refine JT_istore_n (lv' := [(2, .int (a2 + (1 : Int32))), (0, .ref L0), (1, .int a1), (3, .int a3)]) dX4_openAhead_58 rfl (Nat.le_of_ble_eq_true rfl) rfl ?_
        refine JT_iinc (q := 3) (v := (a3 + 1)) (lv' := [(3, .int (a3 + 1)), (2, .int (a2 + (1 : Int32))), (0, .ref L0), (1, .int a1)]) dX4_openAhead_59 rfl (by rfl) (Nat.le_of_ble_eq_true rfl) rfl ?_
        refine JT_goto (tgt := 4) dX4_openAhead_62 (by decide) ?_
        exact JT_sub [2, 3, 1, 0] rfl h
      · have h := h.2 hc6
        refine JT_aload_n (q := 0) dX4_openAhead_34 rfl rfl ?_
        refine JT_iload_n (q := 3) dX4_openAhead_35 rfl rfl ?_
        obtain ⟨o5, h⟩ := h
        refine JS_callVI (M' := MX4_valueOf) (d' := 1) (As := [.int a3]) (rest := [.int a2]) (P := (fun zv9 wm9 => (vX4_valueOf s L0 P0 a3) = zv9 ∧ s = wm9)) dX4_openAhead_36 cvX4_103 okX4_valueOf rfl (Nat.le_of_ble_eq_true rfl) (lxB hL0) (lx2 hL0) (lxN hL0) hci_4 (Nat.le_of_ble_eq_true rfl) (Nat.le_of_ble_eq_true rfl) (pX4_valueOf hL0 (a3) o5 ⟨rfl, rfl⟩) (fun zv9 wm9 hq9 => ?_)
        obtain ⟨rfl, rfl⟩ := hq9
        refine JT_aload_n (q := 0) dX4_openAhead_39 rfl rfl ?_
        refine JT_iload_n (q := 1) dX4_openAhead_40 rfl rfl ?_
        obtain ⟨o4, h⟩ := h
        refine JS_callVI (M' := MX4_valueOf) (d' := 1) (As := [.int a1]) (rest := [.int (vX4_valueOf s L0 P0 a3), .int a2]) (P := (fun zv9 wm9 => (vX4_valueOf s L0 P0 a1) = zv9 ∧ s = wm9)) dX4_openAhead_41 cvX4_103 okX4_valueOf rfl (Nat.le_of_ble_eq_true rfl) (lxB hL0) (lx2 hL0) (lxN hL0) hci_4 (Nat.le_of_ble_eq_true rfl) (Nat.le_of_ble_eq_true rfl) (pX4_valueOf hL0 (a1) o4 ⟨rfl, rfl⟩) (fun zv9 wm9 hq9 => ?_)
        obtain ⟨rfl, rfl⟩ := hq9
        have hj1 : ∀ v : Int32, v = (if (vX4_valueOf s L0 P0 a3) = (vX4_valueOf s L0 P0 a1) then (if a1 ≤ a3 then (0 : Int32) else (1 : Int32)) else (0 : Int32)) → JT MX4_openAhead 2 0 0 57 [(0, .ref L0), (1, .int a1), (2, .int a2), (3, .int a3)] [.int v, .int a2] (std s) (KQ Q) := by
          intro v hv
          subst hv
          refine JT_iadd dX4_openAhead_57 ?_
          refine JT_istore_n (lv' := [(2, .int (a2 + (if (vX4_valueOf s L0 P0 a3) = (vX4_valueOf s L0 P0 a1) then (if a1 ≤ a3 then (0 : Int32) else (1 : Int32)) else (0 : Int32)))), (0, .ref L0), (1, .int a1), (3, .int a3)]) dX4_openAhead_58 rfl (Nat.le_of_ble_eq_true rfl) rfl ?_
          refine JT_iinc (q := 3) (v := (a3 + 1)) (lv' := [(3, .int (a3 + 1)), (2, .int (a2 + (if (vX4_valueOf s L0 P0 a3) = (vX4_valueOf s L0 P0 a1) then (if a1 ≤ a3 then (0 : Int32) else (1 : Int32)) else (0 : Int32)))), (0, .ref L0), (1, .int a1)]) dX4_openAhead_59 rfl (by rfl) (Nat.le_of_ble_eq_true rfl) rfl ?_
          refine JT_goto (tgt := 4) dX4_openAhead_62 (by decide) ?_
          exact JT_sub [2, 3, 1, 0] rfl h
        refine JT_icmp_ne (tgt := 56) dX4_openAhead_44 (by decide) (fun hc2 => ?_) (fun hc2 => ?_)
        · refine JT_iconst (v := 0) dX4_openAhead_56 ic_0 ?_
          exact hj1 _ (by rw [if_neg hc2])
        · refine JT_iload_n (q := 3) dX4_openAhead_47 rfl rfl ?_
          refine JT_iload_n (q := 1) dX4_openAhead_48 rfl rfl ?_
          refine JT_icmp_ge (tgt := 56) dX4_openAhead_49 (by decide) (fun hc3 => ?_) (fun hc3 => ?_)
          · refine JT_iconst (v := 0) dX4_openAhead_56 ic_0 ?_
            exact hj1 _ (by rw [if_pos hc2, if_pos hc3])
          · refine JT_iconst (v := 1) dX4_openAhead_52 ic_1 ?_
            refine JT_goto (tgt := 57) dX4_openAhead_53 (by decide) ?_
            exact hj1 _ (by rw [if_pos hc2, if_neg hc3])
set_option maxRecDepth 1000000 in
theorem bX4_openAhead {L0 P0 : Nat} (hL0 : (L0, P0) ∈ LX) (a1 : Int32) {s : SM} {Q : Int32 → SM → Prop} (h : BI MX4_openAhead 2 4 [(0, .ref L0), (1, .int a1), (2, .int (0 : Int32)), (3, .int (0 : Int32))] s Q) : KI MX4_openAhead 2 [.ref L0, .int a1] s Q := by
  show BI MX4_openAhead 2 0 [(0, .ref L0), (1, .int a1)] s Q
  refine JT_iconst (v := 0) dX4_openAhead_0 ic_0 ?_
  refine JT_istore_n (lv' := [(2, .int (0 : Int32)), (0, .ref L0), (1, .int a1)]) dX4_openAhead_1 rfl (Nat.le_of_ble_eq_true rfl) rfl ?_
  refine JT_iconst (v := 0) dX4_openAhead_2 ic_0 ?_
  refine JT_istore_n (lv' := [(3, .int (0 : Int32)), (2, .int (0 : Int32)), (0, .ref L0), (1, .int a1)]) dX4_openAhead_3 rfl (Nat.le_of_ble_eq_true rfl) rfl ?_
  exact JT_sub [2, 3, 1, 0] rfl h
set_option maxRecDepth 1000000 in
theorem gX4_openAhead {L0 P0 : Nat} (hL0 : (L0, P0) ∈ LX) : ∀ n : Nat, (∀ (a1 : Int32) (a2 : Int32) (a3 : Int32) (s : SM) (Q : Int32 → SM → Prop), ((qX4_openAhead n) s L0 P0 a1 a2 a3) → Q ((lX4_openAhead n) s L0 P0 a1 a2 a3) s → BI MX4_openAhead 2 4 [(0, .ref L0), (1, .int a1), (2, .int a2), (3, .int a3)] s Q) := by
  intro n
  induction n with
  | zero => exact fun _ _ _ _ _ hq _ => absurd hq id
  | succ n ih =>
    intro a1 a2 a3 s Q hr h
    replace hr : uX4_openAhead_4 (qX4_openAhead n) s L0 P0 a1 a2 a3 := hr
    replace h : Q (tX4_openAhead_4 (lX4_openAhead n) s L0 P0 a1 a2 a3) s := h
    unfold uX4_openAhead_4 at hr
    unfold tX4_openAhead_4 at h
    refine bX4_openAhead_4 hL0 a1 a2 a3 ?_
    refine ⟨fun c => ?_, fun c => ?_⟩
    · replace h := qlp c h
      first | exact h | contradiction
    · replace hr := hr c
      replace h := qln c h
      refine ⟨hr.1, ?_⟩
      replace hr := hr.2
      refine ⟨fun c => ?_, fun c => ?_⟩
      · replace hr := hr.1 c
        replace h := qlp c h
        first | exact ih a1 a2 (a3 + 1) _ Q hr h | contradiction
      · replace hr := hr.2 c
        replace h := qln c h
        refine ⟨hr.1, ?_⟩
        replace hr := hr.2
        refine ⟨hr.1, ?_⟩
        replace hr := hr.2
        refine ⟨fun c => ?_, fun c => ?_⟩
        · replace hr := hr.1 c
          replace h := qlp c h
          first | exact ih a1 (a2 + (1 : Int32)) (a3 + 1) _ Q hr h | contradiction
        · replace hr := hr.2 c
          replace h := qln c h
          refine ⟨hr.1, ?_⟩
          replace hr := hr.2
          refine ⟨hr.1, ?_⟩
          replace hr := hr.2
          first | exact ih a1 (a2 + (if (vX4_valueOf s L0 P0 a3) = (vX4_valueOf s L0 P0 a1) then (if a1 ≤ a3 then (0 : Int32) else (1 : Int32)) else (0 : Int32))) (a3 + 1) _ Q hr h | contradiction
set_option maxRecDepth 1000000 in
theorem pX4_openAhead {L0 P0 : Nat} (hL0 : (L0, P0) ∈ LX) (a1 : Int32) {s : SM} {Q : Int32 → SM → Prop} (hr : rX4_openAhead s L0 P0 a1) (h : Q (vX4_openAhead s L0 P0 a1) s) : KI MX4_openAhead 2 [.ref L0, .int a1] s Q := by
  replace h : Q (fX4_openAhead s L0 P0 a1) s := h
  unfold rX4_openAhead at hr
  unfold fX4_openAhead at h
  refine bX4_openAhead hL0 a1 ?_
  first | exact (gX4_openAhead hL0 FU) a1 (0 : Int32) (0 : Int32) _ Q hr h | contradiction
set_option maxRecDepth 1000000 in
theorem bX4_openDeals_4 {L0 P0 : Nat} (hL0 : (L0, P0) ∈ LX) (a1 : Int32) (a2 : Int32) {s : SM} {Q : Int32 → SM → Prop} (h : (((gI s L0 9) ≤ a2 → Q a1 s) ∧ (¬ (gI s L0 9) ≤ a2 → rX4_isOpen s L0 P0 a2 ∧ BI MX4_openDeals 2 4 [(0, .ref L0), (1, .int (a1 + (if (vX4_isOpen s L0 P0 a2) = 0 then (0 : Int32) else (1 : Int32)))), (2, .int (a2 + 1))] s Q))) : BI MX4_openDeals 2 4 [(0, .ref L0), (1, .int a1), (2, .int a2)] s Q := by
  refine JT_iload_n (q := 2) dX4_openDeals_4 rfl rfl ?_
  refine JT_aload_n (q := 0) dX4_openDeals_5 rfl rfl ?_
  refine JS_getI dX4_openDeals_6 flX4_49 (lxB hL0) (lx2 hL0) (lxN hL0) (Or.inl ct_4_9) ?_
  refine JT_icmp_ge (tgt := 34) dX4_openDeals_9 (by decide) (fun hc4 => ?_) (fun hc4 => ?_)
  · have h := h.1 hc4
    refine JT_iload_n (q := 1) dX4_openDeals_34 rfl rfl ?_
    exact JS_iret dX4_openDeals_35 rfl rfl h
  · have h := h.2 hc4
    refine JT_iload_n (q := 1) dX4_openDeals_12 rfl rfl ?_
    refine JT_aload_n (q := 0) dX4_openDeals_13 rfl rfl ?_
    refine JT_iload_n (q := 2) dX4_openDeals_14 rfl rfl ?_
    obtain ⟨o3, h⟩ := h
    refine JS_callVI (M' := MX4_isOpen) (d' := 1) (As := [.int a2]) (rest := [.int a1]) (P := (fun zv9 wm9 => (vX4_isOpen s L0 P0 a2) = zv9 ∧ s = wm9)) dX4_openDeals_15 cvX4_94 okX4_isOpen rfl (Nat.le_of_ble_eq_true rfl) (lxB hL0) (lx2 hL0) (lxN hL0) hci_4 (Nat.le_of_ble_eq_true rfl) (Nat.le_of_ble_eq_true rfl) (pX4_isOpen hL0 (a2) o3 ⟨rfl, rfl⟩) (fun zv9 wm9 hq9 => ?_)
    obtain ⟨rfl, rfl⟩ := hq9
    have hj1 : ∀ v : Int32, v = (if (vX4_isOpen s L0 P0 a2) = 0 then (0 : Int32) else (1 : Int32)) → JT MX4_openDeals 2 0 0 26 [(0, .ref L0), (1, .int a1), (2, .int a2)] [.int v, .int a1] (std s) (KQ Q) := by
      intro v hv
      subst hv
      refine JT_iadd dX4_openDeals_26 ?_
      refine JT_istore_n (lv' := [(1, .int (a1 + (if (vX4_isOpen s L0 P0 a2) = 0 then (0 : Int32) else (1 : Int32)))), (0, .ref L0), (2, .int a2)]) dX4_openDeals_27 rfl (Nat.le_of_ble_eq_true rfl) rfl ?_
      refine JT_iinc (q := 2) (v := (a2 + 1)) (lv' := [(2, .int (a2 + 1)), (1, .int (a1 + (if (vX4_isOpen s L0 P0 a2) = 0 then (0 : Int32) else (1 : Int32)))), (0, .ref L0)]) dX4_openDeals_28 rfl (by rfl) (Nat.le_of_ble_eq_true rfl) rfl ?_
      refine JT_goto (tgt := 4) dX4_openDeals_31 (by decide) ?_
      exact JT_sub [2, 1, 0] rfl h
    refine JT_if_eq (tgt := 25) dX4_openDeals_18 (by decide) (fun hc2 => ?_) (fun hc2 => ?_)
    · refine JT_iconst (v := 0) dX4_openDeals_25 ic_0 ?_
      exact hj1 _ (by rw [if_pos hc2])
    · refine JT_iconst (v := 1) dX4_openDeals_21 ic_1 ?_
      refine JT_goto (tgt := 26) dX4_openDeals_22 (by decide) ?_
      exact hj1 _ (by rw [if_neg hc2])
set_option maxRecDepth 1000000 in
theorem bX4_openDeals {L0 P0 : Nat} (hL0 : (L0, P0) ∈ LX) {s : SM} {Q : Int32 → SM → Prop} (h : BI MX4_openDeals 2 4 [(0, .ref L0), (1, .int (0 : Int32)), (2, .int (0 : Int32))] s Q) : KI MX4_openDeals 2 [.ref L0] s Q := by
  show BI MX4_openDeals 2 0 [(0, .ref L0)] s Q
  refine JT_iconst (v := 0) dX4_openDeals_0 ic_0 ?_
  refine JT_istore_n (lv' := [(1, .int (0 : Int32)), (0, .ref L0)]) dX4_openDeals_1 rfl (Nat.le_of_ble_eq_true rfl) rfl ?_
  refine JT_iconst (v := 0) dX4_openDeals_2 ic_0 ?_
  refine JT_istore_n (lv' := [(2, .int (0 : Int32)), (1, .int (0 : Int32)), (0, .ref L0)]) dX4_openDeals_3 rfl (Nat.le_of_ble_eq_true rfl) rfl ?_
  exact JT_sub [2, 1, 0] rfl h
set_option maxRecDepth 1000000 in
theorem gX4_openDeals {L0 P0 : Nat} (hL0 : (L0, P0) ∈ LX) : ∀ n : Nat, (∀ (a1 : Int32) (a2 : Int32) (s : SM) (Q : Int32 → SM → Prop), ((qX4_openDeals n) s L0 P0 a1 a2) → Q ((lX4_openDeals n) s L0 P0 a1 a2) s → BI MX4_openDeals 2 4 [(0, .ref L0), (1, .int a1), (2, .int a2)] s Q) := by
  intro n
  induction n with
  | zero => exact fun _ _ _ _ hq _ => absurd hq id
  | succ n ih =>
    intro a1 a2 s Q hr h
    replace hr : uX4_openDeals_4 (qX4_openDeals n) s L0 P0 a1 a2 := hr
    replace h : Q (tX4_openDeals_4 (lX4_openDeals n) s L0 P0 a1 a2) s := h
    unfold uX4_openDeals_4 at hr
    unfold tX4_openDeals_4 at h
    refine bX4_openDeals_4 hL0 a1 a2 ?_
    refine ⟨fun c => ?_, fun c => ?_⟩
    · replace h := qlp c h
      first | exact h | contradiction
    · replace hr := hr c
      replace h := qln c h
      refine ⟨hr.1, ?_⟩
      replace hr := hr.2
      first | exact ih (a1 + (if (vX4_isOpen s L0 P0 a2) = 0 then (0 : Int32) else (1 : Int32))) (a2 + 1) _ Q hr h | contradiction
set_option maxRecDepth 1000000 in
theorem pX4_openDeals {L0 P0 : Nat} (hL0 : (L0, P0) ∈ LX) {s : SM} {Q : Int32 → SM → Prop} (hr : rX4_openDeals s L0 P0) (h : Q (vX4_openDeals s L0 P0) s) : KI MX4_openDeals 2 [.ref L0] s Q := by
  replace h : Q (fX4_openDeals s L0 P0) s := h
  unfold rX4_openDeals at hr
  unfold fX4_openDeals at h
  refine bX4_openDeals hL0 ?_
  first | exact (gX4_openDeals hL0 FU) (0 : Int32) (0 : Int32) _ Q hr h | contradiction
set_option maxRecDepth 1000000 in
theorem bX4_openFor_5 {L0 P0 : Nat} (hL0 : (L0, P0) ∈ LX) (a1 : Int32) (a2 : Int32) (a3 : Int32) (a4 : Int32) {s : SM} {Q : Int32 → SM → Prop} (h : (((gI s L0 9) ≤ a4 → Q a3 s) ∧ (¬ (gI s L0 9) ≤ a4 → vp_in a4 60 ∧ ((¬ (gI s (L0 + 1) (a4).toNatClampNeg) = a1 → BI MX4_openFor 2 40 [(0, .ref L0), (1, .int a1), (2, .int a2), (3, .int a3), (4, .int a4)] s Q) ∧ ((gI s (L0 + 1) (a4).toNatClampNeg) = a1 → vp_in a4 60 ∧ (((gI s (L0 + 2) (a4).toNatClampNeg) = a2 → BI MX4_openFor 2 40 [(0, .ref L0), (1, .int a1), (2, .int a2), (3, .int a3), (4, .int a4)] s Q) ∧ (¬ (gI s (L0 + 2) (a4).toNatClampNeg) = a2 → vp_in a4 60 ∧ ((¬ (gI s (L0 + 2) (a4).toNatClampNeg) = a1 → BI MX4_openFor 2 69 [(0, .ref L0), (1, .int a1), (2, .int a2), (3, .int a3), (4, .int a4), (5, .int (1 : Int32))] s Q) ∧ ((gI s (L0 + 2) (a4).toNatClampNeg) = a1 → vp_in a4 60 ∧ (((gI s (L0 + 1) (a4).toNatClampNeg) = a2 → BI MX4_openFor 2 69 [(0, .ref L0), (1, .int a1), (2, .int a2), (3, .int a3), (4, .int a4), (5, .int (1 : Int32))] s Q) ∧ (¬ (gI s (L0 + 1) (a4).toNatClampNeg) = a2 → rX4_isOpen s L0 P0 a4 ∧ BI MX4_openFor 2 5 [(0, .ref L0), (1, .int a1), (2, .int a2), (3, .int (a3 + (if (vX4_isOpen s L0 P0 a4) = 0 then (0 : Int32) else (if (1 : Int32) = 0 then (if (1 : Int32) = 0 then (0 : Int32) else (1 : Int32)) else (1 : Int32))))), (4, .int (a4 + 1))] s Q))))))))))) : BI MX4_openFor 2 5 [(0, .ref L0), (1, .int a1), (2, .int a2), (3, .int a3), (4, .int a4)] s Q := by
  refine JT_iload (q := 4) dX4_openFor_5 rfl ?_
  refine JT_aload_n (q := 0) dX4_openFor_7 rfl rfl ?_
  refine JS_getI dX4_openFor_8 flX4_49 (lxB hL0) (lx2 hL0) (lxN hL0) (Or.inl ct_4_9) ?_
  refine JT_icmp_ge (tgt := 105) dX4_openFor_11 (by decide) (fun hc14 => ?_) (fun hc14 => ?_)
  · have h := h.1 hc14
    refine JT_iload_n (q := 3) dX4_openFor_105 rfl rfl ?_
    exact JS_iret dX4_openFor_106 rfl rfl h
  · have h := h.2 hc14
    refine JT_aload_n (q := 0) dX4_openFor_14 rfl rfl ?_
    refine JS_getR (x := (L0 + 1)) dX4_openFor_15 flX4_9 (lxB hL0) (lx2 hL0) (lxN hL0) (Or.inr ⟨_, ct_4_0⟩) (lxR0 hL0) ?_
    refine JT_iload (q := 4) dX4_openFor_18 rfl ?_
    obtain ⟨o1, h⟩ := h
    refine JS_iald dX4_openFor_20 (lxB1 hL0) (lx2k hL0 _) (lxNk hL0 (Nat.le_of_ble_eq_true rfl)) o1 ?_
    refine JT_iload_n (q := 1) dX4_openFor_21 rfl rfl ?_
    refine JT_icmp_ne (tgt := 40) dX4_openFor_22 (by decide) (fun hc13 => ?_) (fun hc13 => ?_)
    · have h := h.1 hc13
      exact JT_sub [0, 1, 2, 3, 4] rfl h
    · have h := h.2 hc13
      refine JT_aload_n (q := 0) dX4_openFor_25 rfl rfl ?_
      refine JS_getR (x := (L0 + 2)) dX4_openFor_26 flX4_15 (lxB hL0) (lx2 hL0) (lxN hL0) (Or.inr ⟨_, ct_4_1⟩) (lxR1 hL0) ?_
      refine JT_iload (q := 4) dX4_openFor_29 rfl ?_
      obtain ⟨o2, h⟩ := h
      refine JS_iald dX4_openFor_31 (lxB2 hL0) (lx2k hL0 _) (lxNk hL0 (Nat.le_of_ble_eq_true rfl)) o2 ?_
      refine JT_iload_n (q := 2) dX4_openFor_32 rfl rfl ?_
      refine JT_icmp_eq (tgt := 40) dX4_openFor_33 (by decide) (fun hc12 => ?_) (fun hc12 => ?_)
      · have h := h.1 hc12
        exact JT_sub [0, 1, 2, 3, 4] rfl h
      · have h := h.2 hc12
        refine JT_iconst (v := 1) dX4_openFor_36 ic_1 ?_
        refine JT_goto (tgt := 41) dX4_openFor_37 (by decide) ?_
        refine JT_istore (lv' := [(5, .int (1 : Int32)), (0, .ref L0), (1, .int a1), (2, .int a2), (3, .int a3), (4, .int a4)]) dX4_openFor_41 (Nat.le_of_ble_eq_true rfl) rfl ?_
        refine JT_aload_n (q := 1) dX4_openFor_43 rfl rfl ?_
        refine JS_getR (x := (L0 + 2)) dX4_openFor_44 flX4_15 (lxB hL0) (lx2 hL0) (lxN hL0) (Or.inr ⟨_, ct_4_1⟩) (lxR1 hL0) ?_
        refine JT_iload (q := 5) dX4_openFor_47 rfl ?_
        obtain ⟨o3, h⟩ := h
        refine JS_iald dX4_openFor_49 (lxB2 hL0) (lx2k hL0 _) (lxNk hL0 (Nat.le_of_ble_eq_true rfl)) o3 ?_
        refine JT_iload_n (q := 2) dX4_openFor_50 rfl rfl ?_
        refine JT_icmp_ne (tgt := 69) dX4_openFor_51 (by decide) (fun hc11 => ?_) (fun hc11 => ?_)
        · have h := h.1 hc11
          exact JT_sub [1, 2, 3, 4, 5, 0] rfl h
        · have h := h.2 hc11
          refine JT_aload_n (q := 1) dX4_openFor_54 rfl rfl ?_
          refine JS_getR (x := (L0 + 1)) dX4_openFor_55 flX4_9 (lxB hL0) (lx2 hL0) (lxN hL0) (Or.inr ⟨_, ct_4_0⟩) (lxR0 hL0) ?_
          refine JT_iload (q := 5) dX4_openFor_58 rfl ?_
          obtain ⟨o4, h⟩ := h
          refine JS_iald dX4_openFor_60 (lxB1 hL0) (lx2k hL0 _) (lxNk hL0 (Nat.le_of_ble_eq_true rfl)) o4 ?_
          refine JT_iload_n (q := 3) dX4_openFor_61 rfl rfl ?_
          refine JT_icmp_eq (tgt := 69) dX4_openFor_62 (by decide) (fun hc10 => ?_) (fun hc10 => ?_)
          · have h := h.1 hc10
            exact JT_sub [1, 2, 3, 4, 5, 0] rfl h
          · have h := h.2 hc10
            refine JT_iconst (v := 1) dX4_openFor_65 ic_1 ?_
            refine JT_goto (tgt := 70) dX4_openFor_66 (by decide) ?_
            refine JT_istore (lv' := [(6, .int (1 : Int32)), (5, .int (1 : Int32)), (0, .ref L0), (1, .int a1), (2, .int a2), (3, .int a3), (4, .int a4)]) dX4_openFor_70 (Nat.le_of_ble_eq_true rfl) rfl ?_
            refine JT_iload_n (q := 5) dX4_openFor_72 rfl rfl ?_
            refine JT_aload_n (q := 2) dX4_openFor_73 rfl rfl ?_
            refine JT_iload (q := 6) dX4_openFor_74 rfl ?_
            obtain ⟨o9, h⟩ := h
            refine JS_callVI (M' := MX4_isOpen) (d' := 1) (As := [.int a4]) (rest := [.int a3]) (P := (fun zv9 wm9 => (vX4_isOpen s L0 P0 a4) = zv9 ∧ s = wm9)) dX4_openFor_76 cvX4_94 okX4_isOpen rfl (Nat.le_of_ble_eq_true rfl) (lxB hL0) (lx2 hL0) (lxN hL0) hci_4 (Nat.le_of_ble_eq_true rfl) (Nat.le_of_ble_eq_true rfl) (pX4_isOpen hL0 (a4) o9 ⟨rfl, rfl⟩) (fun zv9 wm9 hq9 => ?_)
            obtain ⟨rfl, rfl⟩ := hq9
            have hj5 : ∀ v : Int32, v = (if (vX4_isOpen s L0 P0 a4) = 0 then (0 : Int32) else (if (1 : Int32) = 0 then (if (1 : Int32) = 0 then (0 : Int32) else (1 : Int32)) else (1 : Int32))) → JT MX4_openFor 2 0 0 97 [(6, .int (1 : Int32)), (5, .int (1 : Int32)), (0, .ref L0), (1, .int a1), (2, .int a2), (3, .int a3), (4, .int a4)] [.int v, .int a3] (std s) (KQ Q) := by
              intro v hv
              subst hv
              refine JT_iadd dX4_openFor_97 ?_
              refine JT_istore_n (lv' := [(3, .int (a3 + (if (vX4_isOpen s L0 P0 a4) = 0 then (0 : Int32) else (if (1 : Int32) = 0 then (if (1 : Int32) = 0 then (0 : Int32) else (1 : Int32)) else (1 : Int32))))), (6, .int (1 : Int32)), (5, .int (1 : Int32)), (0, .ref L0), (1, .int a1), (2, .int a2), (4, .int a4)]) dX4_openFor_98 rfl (Nat.le_of_ble_eq_true rfl) rfl ?_
              refine JT_iinc (q := 6) (v := (a4 + 1)) (lv' := [(4, .int (a4 + 1)), (3, .int (a3 + (if (vX4_isOpen s L0 P0 a4) = 0 then (0 : Int32) else (if (1 : Int32) = 0 then (if (1 : Int32) = 0 then (0 : Int32) else (1 : Int32)) else (1 : Int32))))), (6, .int (1 : Int32)), (5, .int (1 : Int32)), (0, .ref L0), (1, .int a1), (2, .int a2)]) dX4_openFor_99 rfl (by rfl) (Nat.le_of_ble_eq_true rfl) rfl ?_
              refine JT_goto (tgt := 5) dX4_openFor_102 (by decide) ?_
              exact JT_sub [4, 5, 6, 1, 0] rfl h
            refine JT_if_eq (tgt := 96) dX4_openFor_79 (by decide) (fun hc6 => ?_) (fun hc6 => ?_)
            · refine JT_iconst (v := 0) dX4_openFor_96 ic_0 ?_
              exact hj5 _ (by rw [if_pos hc6])
            · refine JT_iload (q := 1) dX4_openFor_82 rfl ?_
              refine JT_if_ne (tgt := 92) dX4_openFor_84 (by decide) (fun hc7 => ?_) (fun hc7 => ?_)
              · refine JT_iconst (v := 1) dX4_openFor_92 ic_1 ?_
                refine JT_goto (tgt := 97) dX4_openFor_93 (by decide) ?_
                exact hj5 _ (by rw [if_neg hc6, if_neg hc7])
              · refine JT_iload (q := 0) dX4_openFor_87 rfl ?_
                refine JT_if_eq (tgt := 96) dX4_openFor_89 (by decide) (fun hc8 => ?_) (fun hc8 => ?_)
                · refine JT_iconst (v := 0) dX4_openFor_96 ic_0 ?_
                  exact hj5 _ (by rw [if_neg hc6, if_pos hc7, if_pos hc8])
                · refine JT_iconst (v := 1) dX4_openFor_92 ic_1 ?_
                  refine JT_goto (tgt := 97) dX4_openFor_93 (by decide) ?_
                  exact hj5 _ (by rw [if_neg hc6, if_pos hc7, if_neg hc8])
set_option maxRecDepth 1000000 in
theorem bX4_openFor_40 {L0 P0 : Nat} (hL0 : (L0, P0) ∈ LX) (a1 : Int32) (a2 : Int32) (a3 : Int32) (a4 : Int32) {s : SM} {Q : Int32 → SM → Prop} (h : vp_in a4 60 ∧ ((¬ (gI s (L0 + 2) (a4).toNatClampNeg) = a1 → BI MX4_openFor 2 69 [(0, .ref L0), (1, .int a1), (2, .int a2), (3, .int a3), (4, .int a4), (5, .int (0 : Int32))] s Q) ∧ ((gI s (L0 + 2) (a4).toNatClampNeg) = a1 → vp_in a4 60 ∧ (((gI s (L0 + 1) (a4).toNatClampNeg) = a2 → BI MX4_openFor 2 69 [(0, .ref L0), (1, .int a1), (2, .int a2), (3, .int a3), (4, .int a4), (5, .int (0 : Int32))] s Q) ∧ (¬ (gI s (L0 + 1) (a4).toNatClampNeg) = a2 → rX4_isOpen s L0 P0 a4 ∧ BI MX4_openFor 2 5 [(0, .ref L0), (1, .int a1), (2, .int a2), (3, .int (a3 + (if (vX4_isOpen s L0 P0 a4) = 0 then (0 : Int32) else (if (0 : Int32) = 0 then (if (1 : Int32) = 0 then (0 : Int32) else (1 : Int32)) else (1 : Int32))))), (4, .int (a4 + 1))] s Q))))) : BI MX4_openFor 2 40 [(0, .ref L0), (1, .int a1), (2, .int a2), (3, .int a3), (4, .int a4)] s Q := by
  refine JT_iconst (v := 0) dX4_openFor_40 ic_0 ?_
  refine JT_istore (lv' := [(5, .int (0 : Int32)), (0, .ref L0), (1, .int a1), (2, .int a2), (3, .int a3), (4, .int a4)]) dX4_openFor_41 (Nat.le_of_ble_eq_true rfl) rfl ?_
  refine JT_aload_n (q := 1) dX4_openFor_43 rfl rfl ?_
  refine JS_getR (x := (L0 + 2)) dX4_openFor_44 flX4_15 (lxB hL0) (lx2 hL0) (lxN hL0) (Or.inr ⟨_, ct_4_1⟩) (lxR1 hL0) ?_
  refine JT_iload (q := 5) dX4_openFor_47 rfl ?_
  obtain ⟨o1, h⟩ := h
  refine JS_iald dX4_openFor_49 (lxB2 hL0) (lx2k hL0 _) (lxNk hL0 (Nat.le_of_ble_eq_true rfl)) o1 ?_
  refine JT_iload_n (q := 2) dX4_openFor_50 rfl rfl ?_
  refine JT_icmp_ne (tgt := 69) dX4_openFor_51 (by decide) (fun hc9 => ?_) (fun hc9 => ?_)
  · have h := h.1 hc9
    exact JT_sub [1, 2, 3, 4, 5, 0] rfl h
  · have h := h.2 hc9
    refine JT_aload_n (q := 1) dX4_openFor_54 rfl rfl ?_
    refine JS_getR (x := (L0 + 1)) dX4_openFor_55 flX4_9 (lxB hL0) (lx2 hL0) (lxN hL0) (Or.inr ⟨_, ct_4_0⟩) (lxR0 hL0) ?_
    refine JT_iload (q := 5) dX4_openFor_58 rfl ?_
    obtain ⟨o2, h⟩ := h
    refine JS_iald dX4_openFor_60 (lxB1 hL0) (lx2k hL0 _) (lxNk hL0 (Nat.le_of_ble_eq_true rfl)) o2 ?_
    refine JT_iload_n (q := 3) dX4_openFor_61 rfl rfl ?_
    refine JT_icmp_eq (tgt := 69) dX4_openFor_62 (by decide) (fun hc8 => ?_) (fun hc8 => ?_)
    · have h := h.1 hc8
      exact JT_sub [1, 2, 3, 4, 5, 0] rfl h
    · have h := h.2 hc8
      refine JT_iconst (v := 1) dX4_openFor_65 ic_1 ?_
      refine JT_goto (tgt := 70) dX4_openFor_66 (by decide) ?_
      refine JT_istore (lv' := [(6, .int (1 : Int32)), (5, .int (0 : Int32)), (0, .ref L0), (1, .int a1), (2, .int a2), (3, .int a3), (4, .int a4)]) dX4_openFor_70 (Nat.le_of_ble_eq_true rfl) rfl ?_
      refine JT_iload_n (q := 5) dX4_openFor_72 rfl rfl ?_
      refine JT_aload_n (q := 2) dX4_openFor_73 rfl rfl ?_
      refine JT_iload (q := 6) dX4_openFor_74 rfl ?_
      obtain ⟨o7, h⟩ := h
      refine JS_callVI (M' := MX4_isOpen) (d' := 1) (As := [.int a4]) (rest := [.int a3]) (P := (fun zv9 wm9 => (vX4_isOpen s L0 P0 a4) = zv9 ∧ s = wm9)) dX4_openFor_76 cvX4_94 okX4_isOpen rfl (Nat.le_of_ble_eq_true rfl) (lxB hL0) (lx2 hL0) (lxN hL0) hci_4 (Nat.le_of_ble_eq_true rfl) (Nat.le_of_ble_eq_true rfl) (pX4_isOpen hL0 (a4) o7 ⟨rfl, rfl⟩) (fun zv9 wm9 hq9 => ?_)
      obtain ⟨rfl, rfl⟩ := hq9
      have hj3 : ∀ v : Int32, v = (if (vX4_isOpen s L0 P0 a4) = 0 then (0 : Int32) else (if (0 : Int32) = 0 then (if (1 : Int32) = 0 then (0 : Int32) else (1 : Int32)) else (1 : Int32))) → JT MX4_openFor 2 0 0 97 [(6, .int (1 : Int32)), (5, .int (0 : Int32)), (0, .ref L0), (1, .int a1), (2, .int a2), (3, .int a3), (4, .int a4)] [.int v, .int a3] (std s) (KQ Q) := by
        intro v hv
        subst hv
        refine JT_iadd dX4_openFor_97 ?_
        refine JT_istore_n (lv' := [(3, .int (a3 + (if (vX4_isOpen s L0 P0 a4) = 0 then (0 : Int32) else (if (0 : Int32) = 0 then (if (1 : Int32) = 0 then (0 : Int32) else (1 : Int32)) else (1 : Int32))))), (6, .int (1 : Int32)), (5, .int (0 : Int32)), (0, .ref L0), (1, .int a1), (2, .int a2), (4, .int a4)]) dX4_openFor_98 rfl (Nat.le_of_ble_eq_true rfl) rfl ?_
        refine JT_iinc (q := 6) (v := (a4 + 1)) (lv' := [(4, .int (a4 + 1)), (3, .int (a3 + (if (vX4_isOpen s L0 P0 a4) = 0 then (0 : Int32) else (if (0 : Int32) = 0 then (if (1 : Int32) = 0 then (0 : Int32) else (1 : Int32)) else (1 : Int32))))), (6, .int (1 : Int32)), (5, .int (0 : Int32)), (0, .ref L0), (1, .int a1), (2, .int a2)]) dX4_openFor_99 rfl (by rfl) (Nat.le_of_ble_eq_true rfl) rfl ?_
        refine JT_goto (tgt := 5) dX4_openFor_102 (by decide) ?_
        exact JT_sub [4, 5, 6, 1, 0] rfl h
      refine JT_if_eq (tgt := 96) dX4_openFor_79 (by decide) (fun hc4 => ?_) (fun hc4 => ?_)
      · refine JT_iconst (v := 0) dX4_openFor_96 ic_0 ?_
        exact hj3 _ (by rw [if_pos hc4])
      · refine JT_iload (q := 1) dX4_openFor_82 rfl ?_
        refine JT_if_ne (tgt := 92) dX4_openFor_84 (by decide) (fun hc5 => ?_) (fun hc5 => ?_)
        · refine JT_iconst (v := 1) dX4_openFor_92 ic_1 ?_
          refine JT_goto (tgt := 97) dX4_openFor_93 (by decide) ?_
          exact hj3 _ (by rw [if_neg hc4, if_neg hc5])
        · refine JT_iload (q := 0) dX4_openFor_87 rfl ?_
          refine JT_if_eq (tgt := 96) dX4_openFor_89 (by decide) (fun hc6 => ?_) (fun hc6 => ?_)
          · refine JT_iconst (v := 0) dX4_openFor_96 ic_0 ?_
            exact hj3 _ (by rw [if_neg hc4, if_pos hc5, if_pos hc6])
          · refine JT_iconst (v := 1) dX4_openFor_92 ic_1 ?_
            refine JT_goto (tgt := 97) dX4_openFor_93 (by decide) ?_
            exact hj3 _ (by rw [if_neg hc4, if_pos hc5, if_neg hc6])
set_option maxRecDepth 1000000 in
theorem bX4_openFor_69 {L0 P0 : Nat} (hL0 : (L0, P0) ∈ LX) (a1 : Int32) (a2 : Int32) (a3 : Int32) (a4 : Int32) (a5 : Int32) {s : SM} {Q : Int32 → SM → Prop} (h : rX4_isOpen s L0 P0 a4 ∧ BI MX4_openFor 2 5 [(0, .ref L0), (1, .int a1), (2, .int a2), (3, .int (a3 + (if (vX4_isOpen s L0 P0 a4) = 0 then (0 : Int32) else (if a5 = 0 then (if (0 : Int32) = 0 then (0 : Int32) else (1 : Int32)) else (1 : Int32))))), (4, .int (a4 + 1))] s Q) : BI MX4_openFor 2 69 [(0, .ref L0), (1, .int a1), (2, .int a2), (3, .int a3), (4, .int a4), (5, .int a5)] s Q := by
  refine JT_iconst (v := 0) dX4_openFor_69 ic_0 ?_
  refine JT_istore (lv' := [(6, .int (0 : Int32)), (0, .ref L0), (1, .int a1), (2, .int a2), (3, .int a3), (4, .int a4), (5, .int a5)]) dX4_openFor_70 (Nat.le_of_ble_eq_true rfl) rfl ?_
  refine JT_iload_n (q := 4) dX4_openFor_72 rfl rfl ?_
  refine JT_aload_n (q := 1) dX4_openFor_73 rfl rfl ?_
  refine JT_iload (q := 5) dX4_openFor_74 rfl ?_
  obtain ⟨o5, h⟩ := h
  refine JS_callVI (M' := MX4_isOpen) (d' := 1) (As := [.int a4]) (rest := [.int a3]) (P := (fun zv9 wm9 => (vX4_isOpen s L0 P0 a4) = zv9 ∧ s = wm9)) dX4_openFor_76 cvX4_94 okX4_isOpen rfl (Nat.le_of_ble_eq_true rfl) (lxB hL0) (lx2 hL0) (lxN hL0) hci_4 (Nat.le_of_ble_eq_true rfl) (Nat.le_of_ble_eq_true rfl) (pX4_isOpen hL0 (a4) o5 ⟨rfl, rfl⟩) (fun zv9 wm9 hq9 => ?_)
  obtain ⟨rfl, rfl⟩ := hq9
  have hj1 : ∀ v : Int32, v = (if (vX4_isOpen s L0 P0 a4) = 0 then (0 : Int32) else (if a5 = 0 then (if (0 : Int32) = 0 then (0 : Int32) else (1 : Int32)) else (1 : Int32))) → JT MX4_openFor 2 0 0 97 [(6, .int (0 : Int32)), (0, .ref L0), (1, .int a1), (2, .int a2), (3, .int a3), (4, .int a4), (5, .int a5)] [.int v, .int a3] (std s) (KQ Q) := by
    intro v hv
    subst hv
    refine JT_iadd dX4_openFor_97 ?_
    refine JT_istore_n (lv' := [(3, .int (a3 + (if (vX4_isOpen s L0 P0 a4) = 0 then (0 : Int32) else (if a5 = 0 then (if (0 : Int32) = 0 then (0 : Int32) else (1 : Int32)) else (1 : Int32))))), (6, .int (0 : Int32)), (0, .ref L0), (1, .int a1), (2, .int a2), (4, .int a4), (5, .int a5)]) dX4_openFor_98 rfl (Nat.le_of_ble_eq_true rfl) rfl ?_
    refine JT_iinc (q := 5) (v := (a4 + 1)) (lv' := [(4, .int (a4 + 1)), (3, .int (a3 + (if (vX4_isOpen s L0 P0 a4) = 0 then (0 : Int32) else (if a5 = 0 then (if (0 : Int32) = 0 then (0 : Int32) else (1 : Int32)) else (1 : Int32))))), (6, .int (0 : Int32)), (0, .ref L0), (1, .int a1), (2, .int a2), (5, .int a5)]) dX4_openFor_99 rfl (by rfl) (Nat.le_of_ble_eq_true rfl) rfl ?_
    refine JT_goto (tgt := 5) dX4_openFor_102 (by decide) ?_
    exact JT_sub [3, 4, 5, 1, 0] rfl h
  refine JT_if_eq (tgt := 96) dX4_openFor_79 (by decide) (fun hc2 => ?_) (fun hc2 => ?_)
  · refine JT_iconst (v := 0) dX4_openFor_96 ic_0 ?_
    exact hj1 _ (by rw [if_pos hc2])
  · refine JT_iload (q := 6) dX4_openFor_82 rfl ?_
    refine JT_if_ne (tgt := 92) dX4_openFor_84 (by decide) (fun hc3 => ?_) (fun hc3 => ?_)
    · refine JT_iconst (v := 1) dX4_openFor_92 ic_1 ?_
      refine JT_goto (tgt := 97) dX4_openFor_93 (by decide) ?_
      exact hj1 _ (by rw [if_neg hc2, if_neg hc3])
    · refine JT_iload (q := 0) dX4_openFor_87 rfl ?_
      refine JT_if_eq (tgt := 96) dX4_openFor_89 (by decide) (fun hc4 => ?_) (fun hc4 => ?_)
      · refine JT_iconst (v := 0) dX4_openFor_96 ic_0 ?_
        exact hj1 _ (by rw [if_neg hc2, if_pos hc3, if_pos hc4])
      · refine JT_iconst (v := 1) dX4_openFor_92 ic_1 ?_
        refine JT_goto (tgt := 97) dX4_openFor_93 (by decide) ?_
        exact hj1 _ (by rw [if_neg hc2, if_pos hc3, if_neg hc4])
set_option maxRecDepth 1000000 in
theorem bX4_openFor {L0 P0 : Nat} (hL0 : (L0, P0) ∈ LX) (a1 : Int32) (a2 : Int32) {s : SM} {Q : Int32 → SM → Prop} (h : BI MX4_openFor 2 5 [(0, .ref L0), (1, .int a1), (2, .int a2), (3, .int (0 : Int32)), (4, .int (0 : Int32))] s Q) : KI MX4_openFor 2 [.ref L0, .int a1, .int a2] s Q := by
  show BI MX4_openFor 2 0 [(0, .ref L0), (1, .int a1), (2, .int a2)] s Q
  refine JT_iconst (v := 0) dX4_openFor_0 ic_0 ?_
  refine JT_istore_n (lv' := [(3, .int (0 : Int32)), (0, .ref L0), (1, .int a1), (2, .int a2)]) dX4_openFor_1 rfl (Nat.le_of_ble_eq_true rfl) rfl ?_
  refine JT_iconst (v := 0) dX4_openFor_2 ic_0 ?_
  refine JT_istore (lv' := [(4, .int (0 : Int32)), (3, .int (0 : Int32)), (0, .ref L0), (1, .int a1), (2, .int a2)]) dX4_openFor_3 (Nat.le_of_ble_eq_true rfl) rfl ?_
  exact JT_sub [2, 3, 4, 1, 0] rfl h
set_option maxRecDepth 1000000 in
theorem gX4_openFor {L0 P0 : Nat} (hL0 : (L0, P0) ∈ LX) : ∀ n : Nat, (∀ (a1 : Int32) (a2 : Int32) (a3 : Int32) (a4 : Int32) (s : SM) (Q : Int32 → SM → Prop), ((qX4_openFor n).1 s L0 P0 a1 a2 a3 a4) → Q ((lX4_openFor n).1 s L0 P0 a1 a2 a3 a4) s → BI MX4_openFor 2 5 [(0, .ref L0), (1, .int a1), (2, .int a2), (3, .int a3), (4, .int a4)] s Q) ∧ (∀ (a1 : Int32) (a2 : Int32) (a3 : Int32) (a4 : Int32) (s : SM) (Q : Int32 → SM → Prop), ((qX4_openFor n).2.1 s L0 P0 a1 a2 a3 a4) → Q ((lX4_openFor n).2.1 s L0 P0 a1 a2 a3 a4) s → BI MX4_openFor 2 40 [(0, .ref L0), (1, .int a1), (2, .int a2), (3, .int a3), (4, .int a4)] s Q) ∧ (∀ (a1 : Int32) (a2 : Int32) (a3 : Int32) (a4 : Int32) (a5 : Int32) (s : SM) (Q : Int32 → SM → Prop), ((qX4_openFor n).2.2 s L0 P0 a1 a2 a3 a4 a5) → Q ((lX4_openFor n).2.2 s L0 P0 a1 a2 a3 a4 a5) s → BI MX4_openFor 2 69 [(0, .ref L0), (1, .int a1), (2, .int a2), (3, .int a3), (4, .int a4), (5, .int a5)] s Q) := by
  intro n
  induction n with
  | zero => exact ⟨fun _ _ _ _ _ _ hq _ => absurd hq id, fun _ _ _ _ _ _ hq _ => absurd hq id, fun _ _ _ _ _ _ _ hq _ => absurd hq id⟩
  | succ n ih =>
    refine ⟨?_, ?_, ?_⟩
    · intro a1 a2 a3 a4 s Q hr h
      replace hr : uX4_openFor_5 (qX4_openFor n) s L0 P0 a1 a2 a3 a4 := hr
      replace h : Q (tX4_openFor_5 (lX4_openFor n) s L0 P0 a1 a2 a3 a4) s := h
      unfold uX4_openFor_5 at hr
      unfold tX4_openFor_5 at h
      refine bX4_openFor_5 hL0 a1 a2 a3 a4 ?_
      refine ⟨fun c => ?_, fun c => ?_⟩
      · replace h := qlp c h
        first | exact h | contradiction
      · replace hr := hr c
        replace h := qln c h
        refine ⟨hr.1, ?_⟩
        replace hr := hr.2
        refine ⟨fun c => ?_, fun c => ?_⟩
        · replace hr := hr.1 c
          replace h := qln c h
          first | exact ih.2.1 a1 a2 a3 a4 _ Q hr h | contradiction
        · replace hr := hr.2 c
          replace h := qlp c h
          refine ⟨hr.1, ?_⟩
          replace hr := hr.2
          refine ⟨fun c => ?_, fun c => ?_⟩
          · replace hr := hr.1 c
            replace h := qlp c h
            first | exact ih.2.1 a1 a2 a3 a4 _ Q hr h | contradiction
          · replace hr := hr.2 c
            replace h := qln c h
            refine ⟨hr.1, ?_⟩
            replace hr := hr.2
            refine ⟨fun c => ?_, fun c => ?_⟩
            · replace hr := hr.1 c
              replace h := qln c h
              first | exact ih.2.2 a1 a2 a3 a4 (1 : Int32) _ Q hr h | contradiction
            · replace hr := hr.2 c
              replace h := qlp c h
              refine ⟨hr.1, ?_⟩
              replace hr := hr.2
              refine ⟨fun c => ?_, fun c => ?_⟩
              · replace hr := hr.1 c
                replace h := qlp c h
                first | exact ih.2.2 a1 a2 a3 a4 (1 : Int32) _ Q hr h | contradiction
              · replace hr := hr.2 c
                replace h := qln c h
                refine ⟨hr.1, ?_⟩
                replace hr := hr.2
                first | exact ih.1 a1 a2 (a3 + (if (vX4_isOpen s L0 P0 a4) = 0 then (0 : Int32) else (if (1 : Int32) = 0 then (if (1 : Int32) = 0 then (0 : Int32) else (1 : Int32)) else (1 : Int32)))) (a4 + 1) _ Q hr h | contradiction
    · intro a1 a2 a3 a4 s Q hr h
      replace hr : uX4_openFor_40 (qX4_openFor n) s L0 P0 a1 a2 a3 a4 := hr
      replace h : Q (tX4_openFor_40 (lX4_openFor n) s L0 P0 a1 a2 a3 a4) s := h
      unfold uX4_openFor_40 at hr
      unfold tX4_openFor_40 at h
      refine bX4_openFor_40 hL0 a1 a2 a3 a4 ?_
      refine ⟨hr.1, ?_⟩
      replace hr := hr.2
      refine ⟨fun c => ?_, fun c => ?_⟩
      · replace hr := hr.1 c
        replace h := qln c h
        first | exact ih.2.2 a1 a2 a3 a4 (0 : Int32) _ Q hr h | contradiction
      · replace hr := hr.2 c
        replace h := qlp c h
        refine ⟨hr.1, ?_⟩
        replace hr := hr.2
        refine ⟨fun c => ?_, fun c => ?_⟩
        · replace hr := hr.1 c
          replace h := qlp c h
          first | exact ih.2.2 a1 a2 a3 a4 (0 : Int32) _ Q hr h | contradiction
        · replace hr := hr.2 c
          replace h := qln c h
          refine ⟨hr.1, ?_⟩
          replace hr := hr.2
          first | exact ih.1 a1 a2 (a3 + (if (vX4_isOpen s L0 P0 a4) = 0 then (0 : Int32) else (if (0 : Int32) = 0 then (if (1 : Int32) = 0 then (0 : Int32) else (1 : Int32)) else (1 : Int32)))) (a4 + 1) _ Q hr h | contradiction
    · intro a1 a2 a3 a4 a5 s Q hr h
      replace hr : uX4_openFor_69 (qX4_openFor n) s L0 P0 a1 a2 a3 a4 a5 := hr
      replace h : Q (tX4_openFor_69 (lX4_openFor n) s L0 P0 a1 a2 a3 a4 a5) s := h
      unfold uX4_openFor_69 at hr
      unfold tX4_openFor_69 at h
      refine bX4_openFor_69 hL0 a1 a2 a3 a4 a5 ?_
      refine ⟨hr.1, ?_⟩
      replace hr := hr.2
      first | exact ih.1 a1 a2 (a3 + (if (vX4_isOpen s L0 P0 a4) = 0 then (0 : Int32) else (if a5 = 0 then (if (0 : Int32) = 0 then (0 : Int32) else (1 : Int32)) else (1 : Int32)))) (a4 + 1) _ Q hr h | contradiction
set_option maxRecDepth 1000000 in
theorem pX4_openFor {L0 P0 : Nat} (hL0 : (L0, P0) ∈ LX) (a1 : Int32) (a2 : Int32) {s : SM} {Q : Int32 → SM → Prop} (hr : rX4_openFor s L0 P0 a1 a2) (h : Q (vX4_openFor s L0 P0 a1 a2) s) : KI MX4_openFor 2 [.ref L0, .int a1, .int a2] s Q := by
  replace h : Q (fX4_openFor s L0 P0 a1 a2) s := h
  unfold rX4_openFor at hr
  unfold fX4_openFor at h
  refine bX4_openFor hL0 a1 a2 ?_
  first | exact (gX4_openFor hL0 FU).1 a1 a2 (0 : Int32) (0 : Int32) _ Q hr h | contradiction
set_option maxRecDepth 1000000 in
theorem bX4_takeOff {L0 P0 : Nat} (hL0 : (L0, P0) ∈ LX) (a1 : Int32) (a2 : Int32) {s : SM} {Q : SM → Prop} (h : ((a2 = (-1 : Int32) → Q s) ∧ (¬ a2 = (-1 : Int32) → vp_in a2 9 ∧ vp_in a1 60 ∧ vp_in (gI s (L0 + 4) (a1).toNatClampNeg) 6 ∧ vp_in a2 9 ∧ (∀ s5, s5 = (pI s (L0 + 7) (a2).toNatClampNeg ((gI s (L0 + 7) (a2).toNatClampNeg) + (gI s (P0 + 5) ((gI s (L0 + 4) (a1).toNatClampNeg)).toNatClampNeg))) → (((vX4_lives s5 L0 P0 a2) = 0 → Q s5) ∧ (¬ (vX4_lives s5 L0 P0 a2) = 0 → vp_in a1 60 ∧ rX6_dotOn s5 P0 (gI s5 (L0 + 4) (a1).toNatClampNeg) ∧ rX4_scratch s5 L0 P0 a2 (vX6_dotOn s5 P0 (gI s5 (L0 + 4) (a1).toNatClampNeg)) ∧ Q (mX4_scratch s5 L0 P0 a2 (vX6_dotOn s5 P0 (gI s5 (L0 + 4) (a1).toNatClampNeg))))))))) : KV MX4_takeOff 2 [.ref L0, .int a1, .int a2] s Q := by
  show BV MX4_takeOff 2 0 [(0, .ref L0), (1, .int a1), (2, .int a2)] s Q
  refine JT_iload_n (q := 2) dX4_takeOff_0 rfl rfl ?_
  refine JT_iconst (v := -1) dX4_takeOff_1 ic_m1 ?_
  refine JT_icmp_eq (tgt := 54) dX4_takeOff_2 (by decide) (fun hc11 => ?_) (fun hc11 => ?_)
  · have h := h.1 hc11
    exact JS_vret dX4_takeOff_54 rfl h
  · have h := h.2 hc11
    refine JT_aload_n (q := 0) dX4_takeOff_5 rfl rfl ?_
    refine JS_getR (x := (L0 + 7)) dX4_takeOff_6 flX4_30 (lxB hL0) (lx2 hL0) (lxN hL0) (Or.inr ⟨_, ct_4_6⟩) (lxR6 hL0) ?_
    refine JT_iload_n (q := 2) dX4_takeOff_9 rfl rfl ?_
    refine JT_dup2 dX4_takeOff_10 rfl rfl ?_
    obtain ⟨o1, h⟩ := h
    refine JS_iald dX4_takeOff_11 (lxB7 hL0) (lx2k hL0 _) (lxNk hL0 (Nat.le_of_ble_eq_true rfl)) o1 ?_
    refine JT_aload_n (q := 0) dX4_takeOff_12 rfl rfl ?_
    refine JS_getR (x := P0) dX4_takeOff_13 flX4_45 (lxB hL0) (lx2 hL0) (lxN hL0) (Or.inl ⟨_, ct_4_8⟩) (lxR8 hL0) ?_
    refine JS_getR (x := (P0 + 5)) dX4_takeOff_16 flX4_128 (pxB (lxP hL0)) (px2 (lxP hL0)) (pxN (lxP hL0)) (Or.inr ⟨_, ct_6_4⟩) (pxR4 (lxP hL0)) ?_
    refine JT_aload_n (q := 0) dX4_takeOff_19 rfl rfl ?_
    refine JS_getR (x := (L0 + 4)) dX4_takeOff_20 flX4_21 (lxB hL0) (lx2 hL0) (lxN hL0) (Or.inr ⟨_, ct_4_3⟩) (lxR3 hL0) ?_
    refine JT_iload_n (q := 1) dX4_takeOff_23 rfl rfl ?_
    obtain ⟨o2, h⟩ := h
    refine JS_iald dX4_takeOff_24 (lxB4 hL0) (lx2k hL0 _) (lxNk hL0 (Nat.le_of_ble_eq_true rfl)) o2 ?_
    obtain ⟨o3, h⟩ := h
    refine JS_iald dX4_takeOff_25 (pxB5 (lxP hL0)) (px2k (lxP hL0) _) (pxNk (lxP hL0) (Nat.le_of_ble_eq_true rfl)) o3 ?_
    refine JT_iadd dX4_takeOff_26 ?_
    obtain ⟨o4, h⟩ := h
    refine JS_iast dX4_takeOff_27 (lxB7 hL0) (lx2k hL0 _) (lxNk hL0 (Nat.le_of_ble_eq_true rfl)) o4 ?_
    obtain ⟨s5, hs5⟩ : ∃ z, z = (pI s (L0 + 7) (a2).toNatClampNeg ((gI s (L0 + 7) (a2).toNatClampNeg) + (gI s (P0 + 5) ((gI s (L0 + 4) (a1).toNatClampNeg)).toNatClampNeg))) := ⟨_, rfl⟩
    replace h := h s5 hs5
    rw [← hs5]
    refine JT_aload_n (q := 0) dX4_takeOff_28 rfl rfl ?_
    refine JT_iload_n (q := 2) dX4_takeOff_29 rfl rfl ?_
    refine JS_callVI (M' := MX4_lives) (d' := 0) (As := [.int a2]) (rest := []) (P := (fun zv9 wm9 => (vX4_lives s5 L0 P0 a2) = zv9 ∧ s5 = wm9)) dX4_takeOff_30 cvX4_85 okX4_lives rfl (Nat.le_of_ble_eq_true rfl) (lxB hL0) (lx2 hL0) (lxN hL0) hci_4 (Nat.le_of_ble_eq_true rfl) (Nat.le_of_ble_eq_true rfl) (pX4_lives hL0 (a2)  ⟨rfl, rfl⟩) (fun zv9 wm9 hq9 => ?_)
    obtain ⟨rfl, rfl⟩ := hq9
    refine JT_if_eq (tgt := 54) dX4_takeOff_33 (by decide) (fun hc9 => ?_) (fun hc9 => ?_)
    · have h := h.1 hc9
      exact JS_vret dX4_takeOff_54 rfl h
    · have h := h.2 hc9
      refine JT_aload_n (q := 0) dX4_takeOff_36 rfl rfl ?_
      refine JT_iload_n (q := 2) dX4_takeOff_37 rfl rfl ?_
      refine JT_aload_n (q := 0) dX4_takeOff_38 rfl rfl ?_
      refine JS_getR (x := P0) dX4_takeOff_39 flX4_45 (lxB hL0) (lx2 hL0) (lxN hL0) (Or.inl ⟨_, ct_4_8⟩) (lxR8 hL0) ?_
      refine JT_aload_n (q := 0) dX4_takeOff_42 rfl rfl ?_
      refine JS_getR (x := (L0 + 4)) dX4_takeOff_43 flX4_21 (lxB hL0) (lx2 hL0) (lxN hL0) (Or.inr ⟨_, ct_4_3⟩) (lxR3 hL0) ?_
      refine JT_iload_n (q := 1) dX4_takeOff_46 rfl rfl ?_
      obtain ⟨o6, h⟩ := h
      refine JS_iald dX4_takeOff_47 (lxB4 hL0) (lx2k hL0 _) (lxNk hL0 (Nat.le_of_ble_eq_true rfl)) o6 ?_
      obtain ⟨o8, h⟩ := h
      refine JS_callVI (M' := MX6_dotOn) (d' := 1) (As := [.int (gI s5 (L0 + 4) (a1).toNatClampNeg)]) (rest := [.int a2, .ref L0]) (P := (fun zv9 wm9 => (vX6_dotOn s5 P0 (gI s5 (L0 + 4) (a1).toNatClampNeg)) = zv9 ∧ s5 = wm9)) dX4_takeOff_48 cvX4_151 okX6_dotOn rfl (Nat.le_of_ble_eq_true rfl) (pxB (lxP hL0)) (px2 (lxP hL0)) (pxN (lxP hL0)) hci_6 (Nat.le_of_ble_eq_true rfl) (Nat.le_of_ble_eq_true rfl) (pX6_dotOn (lxP hL0) ((gI s5 (L0 + 4) (a1).toNatClampNeg)) o8 ⟨rfl, rfl⟩) (fun zv9 wm9 hq9 => ?_)
      obtain ⟨rfl, rfl⟩ := hq9
      obtain ⟨o7, h⟩ := h
      refine JS_callVV (M' := MX4_scratch) (d' := 0) (As := [.int a2, .int (vX6_dotOn s5 P0 (gI s5 (L0 + 4) (a1).toNatClampNeg))]) (rest := []) (P := (fun wm9 => (mX4_scratch s5 L0 P0 a2 (vX6_dotOn s5 P0 (gI s5 (L0 + 4) (a1).toNatClampNeg))) = wm9)) dX4_takeOff_51 cvX4_147 okX4_scratch rfl (Nat.le_of_ble_eq_true rfl) (lxB hL0) (lx2 hL0) (lxN hL0) hci_4 (Nat.le_of_ble_eq_true rfl) (Nat.le_of_ble_eq_true rfl) (pX4_scratch hL0 (a2) ((vX6_dotOn s5 P0 (gI s5 (L0 + 4) (a1).toNatClampNeg))) o7 rfl) (fun wm9 hq9 => ?_)
      subst hq9
      exact JS_vret dX4_takeOff_54 rfl h
set_option maxRecDepth 1000000 in
theorem pX4_takeOff {L0 P0 : Nat} (hL0 : (L0, P0) ∈ LX) (a1 : Int32) (a2 : Int32) {s : SM} {Q : SM → Prop} (hr : rX4_takeOff s L0 P0 a1 a2) (h : Q (mX4_takeOff s L0 P0 a1 a2)) : KV MX4_takeOff 2 [.ref L0, .int a1, .int a2] s Q := by
  refine bX4_takeOff hL0 a1 a2 ?_
  unfold rX4_takeOff at hr
  unfold mX4_takeOff at h
  refine ⟨fun c => ?_, fun c => ?_⟩
  · replace h := q1p c h
    first | exact h | contradiction
  · replace hr := hr c
    replace h := q1n c h
    refine ⟨hr.1, ?_⟩
    replace hr := hr.2
    refine ⟨hr.1, ?_⟩
    replace hr := hr.2
    refine ⟨hr.1, ?_⟩
    replace hr := hr.2
    refine ⟨hr.1, ?_⟩
    replace hr := hr.2
    intro s5 e9
    replace hr := hr s5 e9
    try rw [← e9] at h
    try dsimp only at h
    refine ⟨fun c => ?_, fun c => ?_⟩
    · replace h := q1p c h
      first | exact h | contradiction
    · replace hr := hr c
      replace h := q1n c h
      refine ⟨hr.1, ?_⟩
      replace hr := hr.2
      refine ⟨hr.1, ?_⟩
      replace hr := hr.2
      refine ⟨hr, ?_⟩
      first | exact h | contradiction
