set_option maxRecDepth 20000 in
theorem bX12_sign (a1 : Int32) {s : SM} {Q : Int32 → SM → Prop} (h : ((¬ (vX12_isSign s a1) = 0 → KV MX12_next 1 [.ref 248] s (fun s1 => Q (1 : Int32) s1)) ∧ ((vX12_isSign s a1) = 0 → Q (vX12_bad s (1 : Int32)) (mX12_bad s (1 : Int32))))) : KI MX12_sign 2 [.ref 248, .int a1] s Q := by
  show BI MX12_sign 2 0 [(0, .ref 248), (1, .int a1)] s Q
  refine JT_aload_n (q := 0) dX12_sign_0 rfl rfl ?_
  refine JT_iload_n (q := 1) dX12_sign_1 rfl rfl ?_
  refine JS_callVI (M' := MX12_isSign) (d' := 0) (As := [.int a1]) (rest := []) (P := (fun zv9 wm9 => (vX12_isSign s a1) = zv9 ∧ s = wm9)) dX12_sign_2 cvX12_193 okX12_isSign rfl (Nat.le_of_ble_eq_true rfl) BS_248 (Nat.le_of_ble_eq_true rfl) (Nat.le_of_ble_eq_true rfl) hci_12 (Nat.le_of_ble_eq_true rfl) (Nat.le_of_ble_eq_true rfl) (pX12_isSign  (a1)  ⟨rfl, rfl⟩) (fun zv9 wm9 hq9 => ?_)
  obtain ⟨rfl, rfl⟩ := hq9
  refine JT_if_ne (tgt := 14) dX12_sign_5 (by decide) (fun hc4 => ?_) (fun hc4 => ?_)
  · have h := h.1 hc4
    refine JT_aload_n (q := 0) dX12_sign_14 rfl rfl ?_
    refine JS_callVV (M' := MX12_next) (d' := 1) (As := []) (rest := []) dX12_sign_15 cvX12_199 okX12_next rfl (Nat.le_of_ble_eq_true rfl) BS_248 (Nat.le_of_ble_eq_true rfl) (Nat.le_of_ble_eq_true rfl) hci_12 (Nat.le_of_ble_eq_true rfl) (Nat.le_of_ble_eq_true rfl) h (fun s1 h => ?_)
    refine JT_iconst (v := 1) dX12_sign_18 ic_1 ?_
    exact JS_iret dX12_sign_19 rfl (n01 (Or.inr rfl)) h
  · have h := h.2 hc4
    refine JT_aload_n (q := 0) dX12_sign_8 rfl rfl ?_
    refine JT_iconst (v := 1) dX12_sign_9 ic_1 ?_
    refine JS_callVI (M' := MX12_bad) (d' := 0) (As := [.int (1 : Int32)]) (rest := []) (P := (fun zv9 wm9 => (vX12_bad s (1 : Int32)) = zv9 ∧ (mX12_bad s (1 : Int32)) = wm9)) dX12_sign_10 cvX12_196 okX12_bad rfl (Nat.le_of_ble_eq_true rfl) BS_248 (Nat.le_of_ble_eq_true rfl) (Nat.le_of_ble_eq_true rfl) hci_12 (Nat.le_of_ble_eq_true rfl) (Nat.le_of_ble_eq_true rfl) (pX12_bad  ((1 : Int32))  ⟨rfl, rfl⟩) (fun zv9 wm9 hq9 => ?_)
    obtain ⟨rfl, rfl⟩ := hq9
    exact JS_iret dX12_sign_13 rfl (n01 (zX12_bad s (1 : Int32))) h
set_option maxRecDepth 20000 in
theorem bX12_skin_29 (a1 : Int32) (a2 : Int32) (a3 : Int32) {s : SM} {Q : Int32 → SM → Prop} (h : ((a2 ≤ a3 → Q (gI s 248 35) s) ∧ (¬ a2 ≤ a3 → KI MX12_markOf 1 [.ref 248, .int a1, .int a3] s (fun x2 s1 => rX12_put s1 (if (x2 - x2 / (2 : Int32) * (2 : Int32)) = 0 then (43 : Int32) else (45 : Int32)) ∧ rX12_put (mX12_put s1 (if (x2 - x2 / (2 : Int32) * (2 : Int32)) = 0 then (43 : Int32) else (45 : Int32))) (32 : Int32) ∧ rX12_of (mX12_put (mX12_put s1 (if (x2 - x2 / (2 : Int32) * (2 : Int32)) = 0 then (43 : Int32) else (45 : Int32))) (32 : Int32)) (x2 / (2 : Int32)) ((1 : Int32) - (x2 - x2 / (2 : Int32) * (2 : Int32))) ∧ vp_in (vX12_of (mX12_put (mX12_put s1 (if (x2 - x2 / (2 : Int32) * (2 : Int32)) = 0 then (43 : Int32) else (45 : Int32))) (32 : Int32)) (x2 / (2 : Int32)) ((1 : Int32) - (x2 - x2 / (2 : Int32) * (2 : Int32)))) 30 ∧ KV MX12_putName 1 [.ref 248, .long (gL (mX12_put (mX12_put s1 (if (x2 - x2 / (2 : Int32) * (2 : Int32)) = 0 then (43 : Int32) else (45 : Int32))) (32 : Int32)) 253 ((vX12_of (mX12_put (mX12_put s1 (if (x2 - x2 / (2 : Int32) * (2 : Int32)) = 0 then (43 : Int32) else (45 : Int32))) (32 : Int32)) (x2 / (2 : Int32)) ((1 : Int32) - (x2 - x2 / (2 : Int32) * (2 : Int32))))).toNatClampNeg)] (mX12_put (mX12_put s1 (if (x2 - x2 / (2 : Int32) * (2 : Int32)) = 0 then (43 : Int32) else (45 : Int32))) (32 : Int32)) (fun s4 => rX12_put s4 (32 : Int32) ∧ rX12_of (mX12_put s4 (32 : Int32)) (x2 / (2 : Int32)) (8 : Int32) ∧ (((vX12_has (mX12_put s4 (32 : Int32)) (vX12_of (mX12_put s4 (32 : Int32)) (x2 / (2 : Int32)) (8 : Int32)) (x2 - x2 / (2 : Int32) * (2 : Int32))) = 0 → rX12_of (mX12_put s4 (32 : Int32)) (x2 / (2 : Int32)) (2 : Int32) ∧ KV MX12_putNumber 1 [.ref 248, .int (vX12_of (mX12_put s4 (32 : Int32)) (x2 / (2 : Int32)) (2 : Int32))] (mX12_put s4 (32 : Int32)) (fun s6 => BI MX12_skin 2 137 [(0, .ref 248), (1, .int a1), (2, .int a2), (3, .int a3), (4, .int x2), (5, .int (x2 / (2 : Int32)))] s6 Q)) ∧ (¬ (vX12_has (mX12_put s4 (32 : Int32)) (vX12_of (mX12_put s4 (32 : Int32)) (x2 / (2 : Int32)) (8 : Int32)) (x2 - x2 / (2 : Int32) * (2 : Int32))) = 0 → rX12_put (mX12_put s4 (32 : Int32)) (63 : Int32) ∧ BI MX12_skin 2 137 [(0, .ref 248), (1, .int a1), (2, .int a2), (3, .int a3), (4, .int x2), (5, .int (x2 / (2 : Int32)))] (mX12_put (mX12_put s4 (32 : Int32)) (63 : Int32)) Q))))))) : BI MX12_skin 2 29 [(0, .ref 248), (1, .int a1), (2, .int a2), (3, .int a3)] s Q := by
  refine JT_iload_n (q := 3) dX12_skin_29 rfl rfl ?_
  refine JT_iload_n (q := 2) dX12_skin_30 rfl rfl ?_
  refine JT_icmp_ge (tgt := 206) dX12_skin_31 (by decide) (fun hc19 => ?_) (fun hc19 => ?_)
  · have h := h.1 hc19
    refine JT_aload_n (q := 0) dX12_skin_206 rfl rfl ?_
    refine JS_getI dX12_skin_207 flX12_386 BS_248 (Nat.le_of_ble_eq_true rfl) (Nat.le_of_ble_eq_true rfl) (Or.inl ct_12_35) ?_
    exact JS_iret dX12_skin_210 rfl rfl h
  · have h := h.2 hc19
    refine JT_aload_n (q := 0) dX12_skin_34 rfl rfl ?_
    refine JT_iload_n (q := 1) dX12_skin_35 rfl rfl ?_
    refine JT_iload_n (q := 3) dX12_skin_36 rfl rfl ?_
    refine JS_callVI (M' := MX12_markOf) (d' := 1) (As := [.int a1, .int a3]) (rest := []) dX12_skin_37 cvX12_315 okX12_markOf rfl (Nat.le_of_ble_eq_true rfl) BS_248 (Nat.le_of_ble_eq_true rfl) (Nat.le_of_ble_eq_true rfl) hci_12 (Nat.le_of_ble_eq_true rfl) (Nat.le_of_ble_eq_true rfl) h (fun x2 s1 h => ?_)
    refine JT_istore (lv' := [(4, .int x2), (0, .ref 248), (1, .int a1), (2, .int a2), (3, .int a3)]) dX12_skin_40 (Nat.le_of_ble_eq_true rfl) rfl ?_
    refine JT_iload (q := 0) dX12_skin_42 rfl ?_
    refine JT_iconst (v := 2) dX12_skin_44 ic_2 ?_
    refine JT_idiv dX12_skin_45 (by decide) ?_
    refine JT_istore (lv' := [(5, .int (x2 / (2 : Int32))), (4, .int x2), (0, .ref 248), (1, .int a1), (2, .int a2), (3, .int a3)]) dX12_skin_46 (Nat.le_of_ble_eq_true rfl) rfl ?_
    refine JT_aload_n (q := 2) dX12_skin_48 rfl rfl ?_
    refine JT_iload (q := 1) dX12_skin_49 rfl ?_
    refine JT_iconst (v := 2) dX12_skin_51 ic_2 ?_
    refine JT_irem dX12_skin_52 (by decide) ?_
    have hj17 : ∀ v : Int32, v = (if (x2 - x2 / (2 : Int32) * (2 : Int32)) = 0 then (43 : Int32) else (45 : Int32)) → JT MX12_skin 2 0 0 63 [(5, .int (x2 / (2 : Int32))), (4, .int x2), (0, .ref 248), (1, .int a1), (2, .int a2), (3, .int a3)] [.int v, .ref 248] (std s1) (KQ Q) := by
      intro v hv
      subst hv
      obtain ⟨o16, h⟩ := h
      refine JS_callVV (M' := MX12_put) (d' := 0) (As := [.int (if (x2 - x2 / (2 : Int32) * (2 : Int32)) = 0 then (43 : Int32) else (45 : Int32))]) (rest := []) (P := (fun wm9 => (mX12_put s1 (if (x2 - x2 / (2 : Int32) * (2 : Int32)) = 0 then (43 : Int32) else (45 : Int32))) = wm9)) dX12_skin_63 cvX12_391 okX12_put rfl (Nat.le_of_ble_eq_true rfl) BS_248 (Nat.le_of_ble_eq_true rfl) (Nat.le_of_ble_eq_true rfl) hci_12 (Nat.le_of_ble_eq_true rfl) (Nat.le_of_ble_eq_true rfl) (pX12_put  ((if (x2 - x2 / (2 : Int32) * (2 : Int32)) = 0 then (43 : Int32) else (45 : Int32))) o16 rfl) (fun wm9 hq9 => ?_)
      subst hq9
      refine JT_aload_n (q := 2) dX12_skin_66 rfl rfl ?_
      refine JT_bipush (v := 32) dX12_skin_67 bp_32 ?_
      obtain ⟨o15, h⟩ := h
      refine JS_callVV (M' := MX12_put) (d' := 0) (As := [.int (32 : Int32)]) (rest := []) (P := (fun wm9 => (mX12_put (mX12_put s1 (if (x2 - x2 / (2 : Int32) * (2 : Int32)) = 0 then (43 : Int32) else (45 : Int32))) (32 : Int32)) = wm9)) dX12_skin_69 cvX12_391 okX12_put rfl (Nat.le_of_ble_eq_true rfl) BS_248 (Nat.le_of_ble_eq_true rfl) (Nat.le_of_ble_eq_true rfl) hci_12 (Nat.le_of_ble_eq_true rfl) (Nat.le_of_ble_eq_true rfl) (pX12_put  ((32 : Int32)) o15 rfl) (fun wm9 hq9 => ?_)
      subst hq9
      refine JT_aload_n (q := 2) dX12_skin_72 rfl rfl ?_
      refine JT_aload_n (q := 2) dX12_skin_73 rfl rfl ?_
      refine JS_getR (x := 253) dX12_skin_74 flX12_43 BS_248 (Nat.le_of_ble_eq_true rfl) (Nat.le_of_ble_eq_true rfl) (Or.inr ⟨_, ct_12_9⟩) RF_248_9 ?_
      refine JT_aload_n (q := 2) dX12_skin_77 rfl rfl ?_
      refine JT_iload (q := 0) dX12_skin_78 rfl ?_
      refine JT_iconst (v := 1) dX12_skin_80 ic_1 ?_
      refine JT_iload (q := 1) dX12_skin_81 rfl ?_
      refine JT_iconst (v := 2) dX12_skin_83 ic_2 ?_
      refine JT_irem dX12_skin_84 (by decide) ?_
      refine JT_isub dX12_skin_85 ?_
      obtain ⟨o14, h⟩ := h
      refine JS_callVI (M' := MX12_of) (d' := 0) (As := [.int (x2 / (2 : Int32)), .int ((1 : Int32) - (x2 - x2 / (2 : Int32) * (2 : Int32)))]) (rest := [.ref 253, .ref 248]) (P := (fun zv9 wm9 => (vX12_of (mX12_put (mX12_put s1 (if (x2 - x2 / (2 : Int32) * (2 : Int32)) = 0 then (43 : Int32) else (45 : Int32))) (32 : Int32)) (x2 / (2 : Int32)) ((1 : Int32) - (x2 - x2 / (2 : Int32) * (2 : Int32)))) = zv9 ∧ (mX12_put (mX12_put s1 (if (x2 - x2 / (2 : Int32) * (2 : Int32)) = 0 then (43 : Int32) else (45 : Int32))) (32 : Int32)) = wm9)) dX12_skin_86 cvX12_265 okX12_of rfl (Nat.le_of_ble_eq_true rfl) BS_248 (Nat.le_of_ble_eq_true rfl) (Nat.le_of_ble_eq_true rfl) hci_12 (Nat.le_of_ble_eq_true rfl) (Nat.le_of_ble_eq_true rfl) (pX12_of  ((x2 / (2 : Int32))) (((1 : Int32) - (x2 - x2 / (2 : Int32) * (2 : Int32)))) o14 ⟨rfl, rfl⟩) (fun zv9 wm9 hq9 => ?_)
      obtain ⟨rfl, rfl⟩ := hq9
      obtain ⟨o3, h⟩ := h
      refine JS_lald dX12_skin_89 BS_253 (Nat.le_of_ble_eq_true rfl) (Nat.le_of_ble_eq_true rfl) o3 ?_
      refine JS_callVV (M' := MX12_putName) (d' := 1) (As := [.long (gL (mX12_put (mX12_put s1 (if (x2 - x2 / (2 : Int32) * (2 : Int32)) = 0 then (43 : Int32) else (45 : Int32))) (32 : Int32)) 253 ((vX12_of (mX12_put (mX12_put s1 (if (x2 - x2 / (2 : Int32) * (2 : Int32)) = 0 then (43 : Int32) else (45 : Int32))) (32 : Int32)) (x2 / (2 : Int32)) ((1 : Int32) - (x2 - x2 / (2 : Int32) * (2 : Int32))))).toNatClampNeg)]) (rest := []) dX12_skin_90 cvX12_394 okX12_putName rfl (Nat.le_of_ble_eq_true rfl) BS_248 (Nat.le_of_ble_eq_true rfl) (Nat.le_of_ble_eq_true rfl) hci_12 (Nat.le_of_ble_eq_true rfl) (Nat.le_of_ble_eq_true rfl) h (fun s4 h => ?_)
      refine JT_aload_n (q := 2) dX12_skin_93 rfl rfl ?_
      refine JT_bipush (v := 32) dX12_skin_94 bp_32 ?_
      obtain ⟨o13, h⟩ := h
      refine JS_callVV (M' := MX12_put) (d' := 0) (As := [.int (32 : Int32)]) (rest := []) (P := (fun wm9 => (mX12_put s4 (32 : Int32)) = wm9)) dX12_skin_96 cvX12_391 okX12_put rfl (Nat.le_of_ble_eq_true rfl) BS_248 (Nat.le_of_ble_eq_true rfl) (Nat.le_of_ble_eq_true rfl) hci_12 (Nat.le_of_ble_eq_true rfl) (Nat.le_of_ble_eq_true rfl) (pX12_put  ((32 : Int32)) o13 rfl) (fun wm9 hq9 => ?_)
      subst hq9
      refine JT_aload_n (q := 2) dX12_skin_99 rfl rfl ?_
      refine JT_iload (q := 0) dX12_skin_100 rfl ?_
      refine JT_bipush (v := 8) dX12_skin_102 bp_8 ?_
      obtain ⟨o12, h⟩ := h
      refine JS_callVI (M' := MX12_of) (d' := 0) (As := [.int (x2 / (2 : Int32)), .int (8 : Int32)]) (rest := []) (P := (fun zv9 wm9 => (vX12_of (mX12_put s4 (32 : Int32)) (x2 / (2 : Int32)) (8 : Int32)) = zv9 ∧ (mX12_put s4 (32 : Int32)) = wm9)) dX12_skin_104 cvX12_265 okX12_of rfl (Nat.le_of_ble_eq_true rfl) BS_248 (Nat.le_of_ble_eq_true rfl) (Nat.le_of_ble_eq_true rfl) hci_12 (Nat.le_of_ble_eq_true rfl) (Nat.le_of_ble_eq_true rfl) (pX12_of  ((x2 / (2 : Int32))) ((8 : Int32)) o12 ⟨rfl, rfl⟩) (fun zv9 wm9 hq9 => ?_)
      obtain ⟨rfl, rfl⟩ := hq9
      refine JT_iload (q := 1) dX12_skin_107 rfl ?_
      refine JT_iconst (v := 2) dX12_skin_109 ic_2 ?_
      refine JT_irem dX12_skin_110 (by decide) ?_
      refine JS_callSI (M' := MX12_has) (d' := 0) (As := [.int (vX12_of (mX12_put s4 (32 : Int32)) (x2 / (2 : Int32)) (8 : Int32)), .int (x2 - x2 / (2 : Int32) * (2 : Int32))]) (rest := []) (P := (fun zv9 wm9 => (vX12_has (mX12_put s4 (32 : Int32)) (vX12_of (mX12_put s4 (32 : Int32)) (x2 / (2 : Int32)) (8 : Int32)) (x2 - x2 / (2 : Int32) * (2 : Int32))) = zv9 ∧ (mX12_put s4 (32 : Int32)) = wm9)) dX12_skin_111 cvX12_259 okX12_has rfl (Nat.le_of_ble_eq_true rfl) (Nat.le_of_ble_eq_true rfl) (Nat.le_of_ble_eq_true rfl) (pX12_has  ((vX12_of (mX12_put s4 (32 : Int32)) (x2 / (2 : Int32)) (8 : Int32))) ((x2 - x2 / (2 : Int32) * (2 : Int32)))  ⟨rfl, rfl⟩) (fun zv9 wm9 hq9 => ?_)
      obtain ⟨rfl, rfl⟩ := hq9
      refine JT_if_eq (tgt := 126) dX12_skin_114 (by decide) (fun hc10 => ?_) (fun hc10 => ?_)
      · have h := h.1 hc10
        refine JT_aload_n (q := 2) dX12_skin_126 rfl rfl ?_
        refine JT_aload_n (q := 2) dX12_skin_127 rfl rfl ?_
        refine JT_iload (q := 0) dX12_skin_128 rfl ?_
        refine JT_iconst (v := 2) dX12_skin_130 ic_2 ?_
        obtain ⟨o8, h⟩ := h
        refine JS_callVI (M' := MX12_of) (d' := 0) (As := [.int (x2 / (2 : Int32)), .int (2 : Int32)]) (rest := [.ref 248]) (P := (fun zv9 wm9 => (vX12_of (mX12_put s4 (32 : Int32)) (x2 / (2 : Int32)) (2 : Int32)) = zv9 ∧ (mX12_put s4 (32 : Int32)) = wm9)) dX12_skin_131 cvX12_265 okX12_of rfl (Nat.le_of_ble_eq_true rfl) BS_248 (Nat.le_of_ble_eq_true rfl) (Nat.le_of_ble_eq_true rfl) hci_12 (Nat.le_of_ble_eq_true rfl) (Nat.le_of_ble_eq_true rfl) (pX12_of  ((x2 / (2 : Int32))) ((2 : Int32)) o8 ⟨rfl, rfl⟩) (fun zv9 wm9 hq9 => ?_)
        obtain ⟨rfl, rfl⟩ := hq9
        refine JS_callVV (M' := MX12_putNumber) (d' := 1) (As := [.int (vX12_of (mX12_put s4 (32 : Int32)) (x2 / (2 : Int32)) (2 : Int32))]) (rest := []) dX12_skin_134 cvX12_398 okX12_putNumber rfl (Nat.le_of_ble_eq_true rfl) BS_248 (Nat.le_of_ble_eq_true rfl) (Nat.le_of_ble_eq_true rfl) hci_12 (Nat.le_of_ble_eq_true rfl) (Nat.le_of_ble_eq_true rfl) h (fun s6 h => ?_)
        exact JT_sub [2, 3, 4, 5, 1, 0] rfl h
      · have h := h.2 hc10
        refine JT_aload_n (q := 2) dX12_skin_117 rfl rfl ?_
        refine JT_bipush (v := 63) dX12_skin_118 bp_63 ?_
        obtain ⟨o9, h⟩ := h
        refine JS_callVV (M' := MX12_put) (d' := 0) (As := [.int (63 : Int32)]) (rest := []) (P := (fun wm9 => (mX12_put (mX12_put s4 (32 : Int32)) (63 : Int32)) = wm9)) dX12_skin_120 cvX12_391 okX12_put rfl (Nat.le_of_ble_eq_true rfl) BS_248 (Nat.le_of_ble_eq_true rfl) (Nat.le_of_ble_eq_true rfl) hci_12 (Nat.le_of_ble_eq_true rfl) (Nat.le_of_ble_eq_true rfl) (pX12_put  ((63 : Int32)) o9 rfl) (fun wm9 hq9 => ?_)
        subst hq9
        refine JT_goto (tgt := 137) dX12_skin_123 (by decide) ?_
        exact JT_sub [2, 3, 4, 5, 1, 0] rfl h
    refine JT_if_ne (tgt := 61) dX12_skin_53 (by decide) (fun hc18 => ?_) (fun hc18 => ?_)
    · refine JT_bipush (v := 45) dX12_skin_61 bp_45 ?_
      exact hj17 _ (by rw [if_neg hc18])
    · refine JT_bipush (v := 43) dX12_skin_56 bp_43 ?_
      refine JT_goto (tgt := 63) dX12_skin_58 (by decide) ?_
      exact hj17 _ (by rw [if_pos hc18])
set_option maxRecDepth 20000 in
theorem bX12_skin_137 (a1 : Int32) (a2 : Int32) (a3 : Int32) (a4 : Int32) (a5 : Int32) {s : SM} {Q : Int32 → SM → Prop} (h : rX12_put s (32 : Int32) ∧ rX12_of (mX12_put s (32 : Int32)) a5 (3 : Int32) ∧ vp_in ((9 : Int32) + (vX12_of (mX12_put s (32 : Int32)) a5 (3 : Int32))) 30 ∧ KV MX12_putName 1 [.ref 248, .long (gL (mX12_put s (32 : Int32)) 253 (((9 : Int32) + (vX12_of (mX12_put s (32 : Int32)) a5 (3 : Int32)))).toNatClampNeg)] (mX12_put s (32 : Int32)) (fun s2 => rX12_of s2 a5 (5 : Int32) ∧ (((vX12_of s2 a5 (5 : Int32)) ≤ 0 → rX12_put s2 (59 : Int32) ∧ BI MX12_skin 2 29 [(0, .ref 248), (1, .int a1), (2, .int a2), (3, .int (a3 + 1))] (mX12_put s2 (59 : Int32)) Q) ∧ (¬ (vX12_of s2 a5 (5 : Int32)) ≤ 0 → rX12_of s2 a5 (5 : Int32) ∧ rX12_put s2 (if (vX12_of s2 a5 (5 : Int32)) = (1 : Int32) then (120 : Int32) else (111 : Int32)) ∧ rX12_put (mX12_put s2 (if (vX12_of s2 a5 (5 : Int32)) = (1 : Int32) then (120 : Int32) else (111 : Int32))) (59 : Int32) ∧ (∀ s5, s5 = (mX12_put (mX12_put s2 (if (vX12_of s2 a5 (5 : Int32)) = (1 : Int32) then (120 : Int32) else (111 : Int32))) (59 : Int32)) → BI MX12_skin 2 29 [(0, .ref 248), (1, .int a1), (2, .int a2), (3, .int (a3 + 1))] s5 Q))))) : BI MX12_skin 2 137 [(0, .ref 248), (1, .int a1), (2, .int a2), (3, .int a3), (4, .int a4), (5, .int a5)] s Q := by
  refine JT_aload_n (q := 0) dX12_skin_137 rfl rfl ?_
  refine JT_bipush (v := 32) dX12_skin_138 bp_32 ?_
  obtain ⟨o14, h⟩ := h
  refine JS_callVV (M' := MX12_put) (d' := 0) (As := [.int (32 : Int32)]) (rest := []) (P := (fun wm9 => (mX12_put s (32 : Int32)) = wm9)) dX12_skin_140 cvX12_391 okX12_put rfl (Nat.le_of_ble_eq_true rfl) BS_248 (Nat.le_of_ble_eq_true rfl) (Nat.le_of_ble_eq_true rfl) hci_12 (Nat.le_of_ble_eq_true rfl) (Nat.le_of_ble_eq_true rfl) (pX12_put  ((32 : Int32)) o14 rfl) (fun wm9 hq9 => ?_)
  subst hq9
  refine JT_aload_n (q := 0) dX12_skin_143 rfl rfl ?_
  refine JT_aload_n (q := 0) dX12_skin_144 rfl rfl ?_
  refine JS_getR (x := 253) dX12_skin_145 flX12_43 BS_248 (Nat.le_of_ble_eq_true rfl) (Nat.le_of_ble_eq_true rfl) (Or.inr ⟨_, ct_12_9⟩) RF_248_9 ?_
  refine JT_bipush (v := 9) dX12_skin_148 bp_9 ?_
  refine JT_aload_n (q := 0) dX12_skin_150 rfl rfl ?_
  refine JT_iload (q := 5) dX12_skin_151 rfl ?_
  refine JT_iconst (v := 3) dX12_skin_153 ic_3 ?_
  obtain ⟨o13, h⟩ := h
  refine JS_callVI (M' := MX12_of) (d' := 0) (As := [.int a5, .int (3 : Int32)]) (rest := [.int (9 : Int32), .ref 253, .ref 248]) (P := (fun zv9 wm9 => (vX12_of (mX12_put s (32 : Int32)) a5 (3 : Int32)) = zv9 ∧ (mX12_put s (32 : Int32)) = wm9)) dX12_skin_154 cvX12_265 okX12_of rfl (Nat.le_of_ble_eq_true rfl) BS_248 (Nat.le_of_ble_eq_true rfl) (Nat.le_of_ble_eq_true rfl) hci_12 (Nat.le_of_ble_eq_true rfl) (Nat.le_of_ble_eq_true rfl) (pX12_of  (a5) ((3 : Int32)) o13 ⟨rfl, rfl⟩) (fun zv9 wm9 hq9 => ?_)
  obtain ⟨rfl, rfl⟩ := hq9
  refine JT_iadd dX12_skin_157 ?_
  obtain ⟨o1, h⟩ := h
  refine JS_lald dX12_skin_158 BS_253 (Nat.le_of_ble_eq_true rfl) (Nat.le_of_ble_eq_true rfl) o1 ?_
  refine JS_callVV (M' := MX12_putName) (d' := 1) (As := [.long (gL (mX12_put s (32 : Int32)) 253 (((9 : Int32) + (vX12_of (mX12_put s (32 : Int32)) a5 (3 : Int32)))).toNatClampNeg)]) (rest := []) dX12_skin_159 cvX12_394 okX12_putName rfl (Nat.le_of_ble_eq_true rfl) BS_248 (Nat.le_of_ble_eq_true rfl) (Nat.le_of_ble_eq_true rfl) hci_12 (Nat.le_of_ble_eq_true rfl) (Nat.le_of_ble_eq_true rfl) h (fun s2 h => ?_)
  refine JT_aload_n (q := 0) dX12_skin_162 rfl rfl ?_
  refine JT_iload (q := 5) dX12_skin_163 rfl ?_
  refine JT_iconst (v := 5) dX12_skin_165 ic_5 ?_
  obtain ⟨o12, h⟩ := h
  refine JS_callVI (M' := MX12_of) (d' := 0) (As := [.int a5, .int (5 : Int32)]) (rest := []) (P := (fun zv9 wm9 => (vX12_of s2 a5 (5 : Int32)) = zv9 ∧ s2 = wm9)) dX12_skin_166 cvX12_265 okX12_of rfl (Nat.le_of_ble_eq_true rfl) BS_248 (Nat.le_of_ble_eq_true rfl) (Nat.le_of_ble_eq_true rfl) hci_12 (Nat.le_of_ble_eq_true rfl) (Nat.le_of_ble_eq_true rfl) (pX12_of  (a5) ((5 : Int32)) o12 ⟨rfl, rfl⟩) (fun zv9 wm9 hq9 => ?_)
  obtain ⟨rfl, rfl⟩ := hq9
  refine JT_if_le (tgt := 194) dX12_skin_169 (by decide) (fun hc11 => ?_) (fun hc11 => ?_)
  · have h := h.1 hc11
    refine JT_aload_n (q := 0) dX12_skin_194 rfl rfl ?_
    refine JT_bipush (v := 59) dX12_skin_195 bp_59 ?_
    obtain ⟨o4, h⟩ := h
    refine JS_callVV (M' := MX12_put) (d' := 0) (As := [.int (59 : Int32)]) (rest := []) (P := (fun wm9 => (mX12_put s2 (59 : Int32)) = wm9)) dX12_skin_197 cvX12_391 okX12_put rfl (Nat.le_of_ble_eq_true rfl) BS_248 (Nat.le_of_ble_eq_true rfl) (Nat.le_of_ble_eq_true rfl) hci_12 (Nat.le_of_ble_eq_true rfl) (Nat.le_of_ble_eq_true rfl) (pX12_put  ((59 : Int32)) o4 rfl) (fun wm9 hq9 => ?_)
    subst hq9
    refine JT_iinc (q := 3) (v := (a3 + 1)) (lv' := [(3, .int (a3 + 1)), (0, .ref 248), (1, .int a1), (2, .int a2), (4, .int a4), (5, .int a5)]) dX12_skin_200 rfl (by rfl) (Nat.le_of_ble_eq_true rfl) rfl ?_
    refine JT_goto (tgt := 29) dX12_skin_203 (by decide) ?_
    exact JT_sub [1, 2, 3, 0] rfl h
  · have h := h.2 hc11
    refine JT_aload_n (q := 0) dX12_skin_172 rfl rfl ?_
    refine JT_aload_n (q := 0) dX12_skin_173 rfl rfl ?_
    refine JT_iload (q := 5) dX12_skin_174 rfl ?_
    refine JT_iconst (v := 5) dX12_skin_176 ic_5 ?_
    obtain ⟨o10, h⟩ := h
    refine JS_callVI (M' := MX12_of) (d' := 0) (As := [.int a5, .int (5 : Int32)]) (rest := [.ref 248]) (P := (fun zv9 wm9 => (vX12_of s2 a5 (5 : Int32)) = zv9 ∧ s2 = wm9)) dX12_skin_177 cvX12_265 okX12_of rfl (Nat.le_of_ble_eq_true rfl) BS_248 (Nat.le_of_ble_eq_true rfl) (Nat.le_of_ble_eq_true rfl) hci_12 (Nat.le_of_ble_eq_true rfl) (Nat.le_of_ble_eq_true rfl) (pX12_of  (a5) ((5 : Int32)) o10 ⟨rfl, rfl⟩) (fun zv9 wm9 hq9 => ?_)
    obtain ⟨rfl, rfl⟩ := hq9
    refine JT_iconst (v := 1) dX12_skin_180 ic_1 ?_
    have hj8 : ∀ v : Int32, v = (if (vX12_of s2 a5 (5 : Int32)) = (1 : Int32) then (120 : Int32) else (111 : Int32)) → JT MX12_skin 2 0 0 191 [(0, .ref 248), (1, .int a1), (2, .int a2), (3, .int a3), (4, .int a4), (5, .int a5)] [.int v, .ref 248] (std s2) (KQ Q) := by
      intro v hv
      subst hv
      obtain ⟨o7, h⟩ := h
      refine JS_callVV (M' := MX12_put) (d' := 0) (As := [.int (if (vX12_of s2 a5 (5 : Int32)) = (1 : Int32) then (120 : Int32) else (111 : Int32))]) (rest := []) (P := (fun wm9 => (mX12_put s2 (if (vX12_of s2 a5 (5 : Int32)) = (1 : Int32) then (120 : Int32) else (111 : Int32))) = wm9)) dX12_skin_191 cvX12_391 okX12_put rfl (Nat.le_of_ble_eq_true rfl) BS_248 (Nat.le_of_ble_eq_true rfl) (Nat.le_of_ble_eq_true rfl) hci_12 (Nat.le_of_ble_eq_true rfl) (Nat.le_of_ble_eq_true rfl) (pX12_put  ((if (vX12_of s2 a5 (5 : Int32)) = (1 : Int32) then (120 : Int32) else (111 : Int32))) o7 rfl) (fun wm9 hq9 => ?_)
      subst hq9
      refine JT_aload_n (q := 0) dX12_skin_194 rfl rfl ?_
      refine JT_bipush (v := 59) dX12_skin_195 bp_59 ?_
      obtain ⟨o6, h⟩ := h
      refine JS_callVV (M' := MX12_put) (d' := 0) (As := [.int (59 : Int32)]) (rest := []) (P := (fun wm9 => (mX12_put (mX12_put s2 (if (vX12_of s2 a5 (5 : Int32)) = (1 : Int32) then (120 : Int32) else (111 : Int32))) (59 : Int32)) = wm9)) dX12_skin_197 cvX12_391 okX12_put rfl (Nat.le_of_ble_eq_true rfl) BS_248 (Nat.le_of_ble_eq_true rfl) (Nat.le_of_ble_eq_true rfl) hci_12 (Nat.le_of_ble_eq_true rfl) (Nat.le_of_ble_eq_true rfl) (pX12_put  ((59 : Int32)) o6 rfl) (fun wm9 hq9 => ?_)
      subst hq9
      obtain ⟨s5, hs5⟩ : ∃ z, z = (mX12_put (mX12_put s2 (if (vX12_of s2 a5 (5 : Int32)) = (1 : Int32) then (120 : Int32) else (111 : Int32))) (59 : Int32)) := ⟨_, rfl⟩
      replace h := h s5 hs5
      rw [← hs5]
      refine JT_iinc (q := 3) (v := (a3 + 1)) (lv' := [(3, .int (a3 + 1)), (0, .ref 248), (1, .int a1), (2, .int a2), (4, .int a4), (5, .int a5)]) dX12_skin_200 rfl (by rfl) (Nat.le_of_ble_eq_true rfl) rfl ?_
      refine JT_goto (tgt := 29) dX12_skin_203 (by decide) ?_
      exact JT_sub [1, 2, 3, 0] rfl h
    refine JT_icmp_ne (tgt := 189) dX12_skin_181 (by decide) (fun hc9 => ?_) (fun hc9 => ?_)
    · refine JT_bipush (v := 111) dX12_skin_189 bp_111 ?_
      exact hj8 _ (by rw [if_neg hc9])
    · refine JT_bipush (v := 120) dX12_skin_184 bp_120 ?_
      refine JT_goto (tgt := 191) dX12_skin_186 (by decide) ?_
      exact hj8 _ (by rw [if_pos hc9])
set_option maxRecDepth 20000 in
theorem bX12_skin (a1 : Int32) {s : SM} {Q : Int32 → SM → Prop} (h : ((¬ (vX12_isBody (pI s 248 0 (0 : Int32)) a1) = 0 → KI MX12_markOf 1 [.ref 248, .int a1, .int (-1 : Int32)] (pI (pI s 248 0 (0 : Int32)) 248 35 (0 : Int32)) (fun x2 s1 => BI MX12_skin 2 29 [(0, .ref 248), (1, .int a1), (2, .int x2), (3, .int (0 : Int32))] s1 Q)) ∧ ((vX12_isBody (pI s 248 0 (0 : Int32)) a1) = 0 → Q (-1 : Int32) (pI s 248 0 (0 : Int32))))) : KI MX12_skin 2 [.ref 248, .int a1] s Q := by
  show BI MX12_skin 2 0 [(0, .ref 248), (1, .int a1)] s Q
  refine JT_aload_n (q := 0) dX12_skin_0 rfl rfl ?_
  refine JT_iconst (v := 0) dX12_skin_1 ic_0 ?_
  refine JS_putI dX12_skin_2 flX12_1 BS_248 (Nat.le_of_ble_eq_true rfl) (Nat.le_of_ble_eq_true rfl) ct_12_0 ?_
  refine JT_aload_n (q := 0) dX12_skin_5 rfl rfl ?_
  refine JT_iload_n (q := 1) dX12_skin_6 rfl rfl ?_
  refine JS_callVI (M' := MX12_isBody) (d' := 1) (As := [.int a1]) (rest := []) (P := (fun zv9 wm9 => (vX12_isBody (pI s 248 0 (0 : Int32)) a1) = zv9 ∧ (pI s 248 0 (0 : Int32)) = wm9)) dX12_skin_7 cvX12_287 okX12_isBody rfl (Nat.le_of_ble_eq_true rfl) BS_248 (Nat.le_of_ble_eq_true rfl) (Nat.le_of_ble_eq_true rfl) hci_12 (Nat.le_of_ble_eq_true rfl) (Nat.le_of_ble_eq_true rfl) (pX12_isBody  (a1)  ⟨rfl, rfl⟩) (fun zv9 wm9 hq9 => ?_)
  obtain ⟨rfl, rfl⟩ := hq9
  refine JT_if_ne (tgt := 15) dX12_skin_10 (by decide) (fun hc3 => ?_) (fun hc3 => ?_)
  · have h := h.1 hc3
    refine JT_aload_n (q := 0) dX12_skin_15 rfl rfl ?_
    refine JT_iconst (v := 0) dX12_skin_16 ic_0 ?_
    refine JS_putI dX12_skin_17 flX12_386 BS_248 (Nat.le_of_ble_eq_true rfl) (Nat.le_of_ble_eq_true rfl) ct_12_35 ?_
    refine JT_aload_n (q := 0) dX12_skin_20 rfl rfl ?_
    refine JT_iload_n (q := 1) dX12_skin_21 rfl rfl ?_
    refine JT_iconst (v := -1) dX12_skin_22 ic_m1 ?_
    refine JS_callVI (M' := MX12_markOf) (d' := 1) (As := [.int a1, .int (-1 : Int32)]) (rest := []) dX12_skin_23 cvX12_315 okX12_markOf rfl (Nat.le_of_ble_eq_true rfl) BS_248 (Nat.le_of_ble_eq_true rfl) (Nat.le_of_ble_eq_true rfl) hci_12 (Nat.le_of_ble_eq_true rfl) (Nat.le_of_ble_eq_true rfl) h (fun x2 s1 h => ?_)
    refine JT_istore_n (lv' := [(2, .int x2), (0, .ref 248), (1, .int a1)]) dX12_skin_26 rfl (Nat.le_of_ble_eq_true rfl) rfl ?_
    refine JT_iconst (v := 0) dX12_skin_27 ic_0 ?_
    refine JT_istore_n (lv' := [(3, .int (0 : Int32)), (2, .int x2), (0, .ref 248), (1, .int a1)]) dX12_skin_28 rfl (Nat.le_of_ble_eq_true rfl) rfl ?_
    exact JT_sub [2, 3, 1, 0] rfl h
  · have h := h.2 hc3
    refine JT_iconst (v := -1) dX12_skin_13 ic_m1 ?_
    exact JS_iret dX12_skin_14 rfl rfl h
set_option maxRecDepth 20000 in
theorem bX12_strikes_2 (a1 : Int32) (a2 : Int32) {s : SM} {Q : SM → Prop} (h : (((2 : Int32) ≤ a2 → rX12_set s a1 (5 : Int32) (1 : Int32) ∧ Q (mX12_set s a1 (5 : Int32) (1 : Int32))) ∧ (¬ (2 : Int32) ≤ a2 → rX12_of s a1 ((6 : Int32) + a2) ∧ (((vX12_isLiving s (vX12_of s a1 ((6 : Int32) + a2))) = 0 → BV MX12_strikes 2 2 [(0, .ref 248), (1, .int a1), (2, .int (a2 + 1))] s Q) ∧ (¬ (vX12_isLiving s (vX12_of s a1 ((6 : Int32) + a2))) = 0 → rX12_of s a1 ((6 : Int32) + a2) ∧ vp_in ((37 : Int32) + (vX12_of s a1 ((6 : Int32) + a2))) 787 ∧ vp_in ((37 : Int32) + (vX12_of s a1 ((6 : Int32) + a2))) 787 ∧ (∀ s4, s4 = (pI s 250 (((37 : Int32) + (vX12_of s a1 ((6 : Int32) + a2)))).toNatClampNeg ((gI s 250 (((37 : Int32) + (vX12_of s a1 ((6 : Int32) + a2)))).toNatClampNeg) + (gI s 250 ((2 : Int32)).toNatClampNeg))) → BV MX12_strikes 2 2 [(0, .ref 248), (1, .int a1), (2, .int (a2 + 1))] s4 Q)))))) : BV MX12_strikes 2 2 [(0, .ref 248), (1, .int a1), (2, .int a2)] s Q := by
  refine JT_iload_n (q := 2) dX12_strikes_2 rfl rfl ?_
  refine JT_iconst (v := 2) dX12_strikes_3 ic_2 ?_
  refine JT_icmp_ge (tgt := 55) dX12_strikes_4 (by decide) (fun hc9 => ?_) (fun hc9 => ?_)
  · have h := h.1 hc9
    refine JT_aload_n (q := 0) dX12_strikes_55 rfl rfl ?_
    refine JT_iload_n (q := 1) dX12_strikes_56 rfl rfl ?_
    refine JT_iconst (v := 5) dX12_strikes_57 ic_5 ?_
    refine JT_iconst (v := 1) dX12_strikes_58 ic_1 ?_
    obtain ⟨o1, h⟩ := h
    refine JS_callVV (M' := MX12_set) (d' := 0) (As := [.int a1, .int (5 : Int32), .int (1 : Int32)]) (rest := []) (P := (fun wm9 => (mX12_set s a1 (5 : Int32) (1 : Int32)) = wm9)) dX12_strikes_59 cvX12_322 okX12_set rfl (Nat.le_of_ble_eq_true rfl) BS_248 (Nat.le_of_ble_eq_true rfl) (Nat.le_of_ble_eq_true rfl) hci_12 (Nat.le_of_ble_eq_true rfl) (Nat.le_of_ble_eq_true rfl) (pX12_set  (a1) ((5 : Int32)) ((1 : Int32)) o1 rfl) (fun wm9 hq9 => ?_)
    subst hq9
    exact JS_vret dX12_strikes_62 rfl h
  · have h := h.2 hc9
    refine JT_aload_n (q := 0) dX12_strikes_7 rfl rfl ?_
    refine JT_aload_n (q := 0) dX12_strikes_8 rfl rfl ?_
    refine JT_iload_n (q := 1) dX12_strikes_9 rfl rfl ?_
    refine JT_bipush (v := 6) dX12_strikes_10 bp_6 ?_
    refine JT_iload_n (q := 2) dX12_strikes_12 rfl rfl ?_
    refine JT_iadd dX12_strikes_13 ?_
    obtain ⟨o8, h⟩ := h
    refine JS_callVI (M' := MX12_of) (d' := 0) (As := [.int a1, .int ((6 : Int32) + a2)]) (rest := [.ref 248]) (P := (fun zv9 wm9 => (vX12_of s a1 ((6 : Int32) + a2)) = zv9 ∧ s = wm9)) dX12_strikes_14 cvX12_265 okX12_of rfl (Nat.le_of_ble_eq_true rfl) BS_248 (Nat.le_of_ble_eq_true rfl) (Nat.le_of_ble_eq_true rfl) hci_12 (Nat.le_of_ble_eq_true rfl) (Nat.le_of_ble_eq_true rfl) (pX12_of  (a1) (((6 : Int32) + a2)) o8 ⟨rfl, rfl⟩) (fun zv9 wm9 hq9 => ?_)
    obtain ⟨rfl, rfl⟩ := hq9
    refine JS_callVI (M' := MX12_isLiving) (d' := 1) (As := [.int (vX12_of s a1 ((6 : Int32) + a2))]) (rest := []) (P := (fun zv9 wm9 => (vX12_isLiving s (vX12_of s a1 ((6 : Int32) + a2))) = zv9 ∧ s = wm9)) dX12_strikes_17 cvX12_294 okX12_isLiving rfl (Nat.le_of_ble_eq_true rfl) BS_248 (Nat.le_of_ble_eq_true rfl) (Nat.le_of_ble_eq_true rfl) hci_12 (Nat.le_of_ble_eq_true rfl) (Nat.le_of_ble_eq_true rfl) (pX12_isLiving  ((vX12_of s a1 ((6 : Int32) + a2)))  ⟨rfl, rfl⟩) (fun zv9 wm9 hq9 => ?_)
    obtain ⟨rfl, rfl⟩ := hq9
    refine JT_if_eq (tgt := 49) dX12_strikes_20 (by decide) (fun hc6 => ?_) (fun hc6 => ?_)
    · have h := h.1 hc6
      refine JT_iinc (q := 2) (v := (a2 + 1)) (lv' := [(2, .int (a2 + 1)), (0, .ref 248), (1, .int a1)]) dX12_strikes_49 rfl (by rfl) (Nat.le_of_ble_eq_true rfl) rfl ?_
      refine JT_goto (tgt := 2) dX12_strikes_52 (by decide) ?_
      exact JT_sub [1, 2, 0] rfl h
    · have h := h.2 hc6
      refine JT_aload_n (q := 0) dX12_strikes_23 rfl rfl ?_
      refine JS_getR (x := 250) dX12_strikes_24 flX12_33 BS_248 (Nat.le_of_ble_eq_true rfl) (Nat.le_of_ble_eq_true rfl) (Or.inr ⟨_, ct_12_6⟩) RF_248_6 ?_
      refine JT_bipush (v := 37) dX12_strikes_27 bp_37 ?_
      refine JT_aload_n (q := 0) dX12_strikes_29 rfl rfl ?_
      refine JT_iload_n (q := 1) dX12_strikes_30 rfl rfl ?_
      refine JT_bipush (v := 6) dX12_strikes_31 bp_6 ?_
      refine JT_iload_n (q := 2) dX12_strikes_33 rfl rfl ?_
      refine JT_iadd dX12_strikes_34 ?_
      obtain ⟨o5, h⟩ := h
      refine JS_callVI (M' := MX12_of) (d' := 0) (As := [.int a1, .int ((6 : Int32) + a2)]) (rest := [.int (37 : Int32), .ref 250]) (P := (fun zv9 wm9 => (vX12_of s a1 ((6 : Int32) + a2)) = zv9 ∧ s = wm9)) dX12_strikes_35 cvX12_265 okX12_of rfl (Nat.le_of_ble_eq_true rfl) BS_248 (Nat.le_of_ble_eq_true rfl) (Nat.le_of_ble_eq_true rfl) hci_12 (Nat.le_of_ble_eq_true rfl) (Nat.le_of_ble_eq_true rfl) (pX12_of  (a1) (((6 : Int32) + a2)) o5 ⟨rfl, rfl⟩) (fun zv9 wm9 hq9 => ?_)
      obtain ⟨rfl, rfl⟩ := hq9
      refine JT_iadd dX12_strikes_38 ?_
      refine JT_dup2 dX12_strikes_39 rfl rfl ?_
      obtain ⟨o2, h⟩ := h
      refine JS_iald dX12_strikes_40 BS_250 (Nat.le_of_ble_eq_true rfl) (Nat.le_of_ble_eq_true rfl) o2 ?_
      refine JT_aload_n (q := 0) dX12_strikes_41 rfl rfl ?_
      refine JS_getR (x := 250) dX12_strikes_42 flX12_33 BS_248 (Nat.le_of_ble_eq_true rfl) (Nat.le_of_ble_eq_true rfl) (Or.inr ⟨_, ct_12_6⟩) RF_248_6 ?_
      refine JT_iconst (v := 2) dX12_strikes_45 ic_2 ?_
      refine JS_iald dX12_strikes_46 BS_250 (Nat.le_of_ble_eq_true rfl) (Nat.le_of_ble_eq_true rfl) (by unfold vp_in; decide) ?_
      refine JT_iadd dX12_strikes_47 ?_
      obtain ⟨o3, h⟩ := h
      refine JS_iast dX12_strikes_48 BS_250 (Nat.le_of_ble_eq_true rfl) (Nat.le_of_ble_eq_true rfl) o3 ?_
      obtain ⟨s4, hs4⟩ : ∃ z, z = (pI s 250 (((37 : Int32) + (vX12_of s a1 ((6 : Int32) + a2)))).toNatClampNeg ((gI s 250 (((37 : Int32) + (vX12_of s a1 ((6 : Int32) + a2)))).toNatClampNeg) + (gI s 250 ((2 : Int32)).toNatClampNeg))) := ⟨_, rfl⟩
      replace h := h s4 hs4
      rw [← hs4]
      refine JT_iinc (q := 2) (v := (a2 + 1)) (lv' := [(2, .int (a2 + 1)), (0, .ref 248), (1, .int a1)]) dX12_strikes_49 rfl (by rfl) (Nat.le_of_ble_eq_true rfl) rfl ?_
      refine JT_goto (tgt := 2) dX12_strikes_52 (by decide) ?_
      exact JT_sub [1, 2, 0] rfl h
set_option maxRecDepth 20000 in
theorem bX12_strikes (a1 : Int32) {s : SM} {Q : SM → Prop} (h : BV MX12_strikes 2 2 [(0, .ref 248), (1, .int a1), (2, .int (0 : Int32))] s Q) : KV MX12_strikes 2 [.ref 248, .int a1] s Q := by
  show BV MX12_strikes 2 0 [(0, .ref 248), (1, .int a1)] s Q
  refine JT_iconst (v := 0) dX12_strikes_0 ic_0 ?_
  refine JT_istore_n (lv' := [(2, .int (0 : Int32)), (0, .ref 248), (1, .int a1)]) dX12_strikes_1 rfl (Nat.le_of_ble_eq_true rfl) rfl ?_
  exact JT_sub [1, 2, 0] rfl h
set_option maxRecDepth 20000 in
theorem bX12_takes (a1 : Int32) (a2 : Int32) {s : SM} {Q : Int32 → SM → Prop} (h : (((gI s 248 11) = (2 : Int32) → ((¬ (vX12_isIn s (gI s 248 14) a1 a2) = 0 → KV MX12_next 1 [.ref 248] (pI s 248 18 (gI s 248 14)) (fun s1 => Q (1 : Int32) s1)) ∧ ((vX12_isIn s (gI s 248 14) a1 a2) = 0 → Q (vX12_bad s (2 : Int32)) (mX12_bad s (2 : Int32))))) ∧ (¬ (gI s 248 11) = (2 : Int32) → Q (vX12_bad s (1 : Int32)) (mX12_bad s (1 : Int32))))) : KI MX12_takes 2 [.ref 248, .int a1, .int a2] s Q := by
  show BI MX12_takes 2 0 [(0, .ref 248), (1, .int a1), (2, .int a2)] s Q
  refine JT_aload_n (q := 0) dX12_takes_0 rfl rfl ?_
  refine JS_getI dX12_takes_1 flX12_170 BS_248 (Nat.le_of_ble_eq_true rfl) (Nat.le_of_ble_eq_true rfl) (Or.inl ct_12_11) ?_
  refine JT_iconst (v := 2) dX12_takes_4 ic_2 ?_
  refine JT_icmp_eq (tgt := 14) dX12_takes_5 (by decide) (fun hc7 => ?_) (fun hc7 => ?_)
  · have h := h.1 hc7
    refine JT_aload_n (q := 0) dX12_takes_14 rfl rfl ?_
    refine JS_getI dX12_takes_15 flX12_180 BS_248 (Nat.le_of_ble_eq_true rfl) (Nat.le_of_ble_eq_true rfl) (Or.inl ct_12_14) ?_
    refine JT_iload_n (q := 1) dX12_takes_18 rfl rfl ?_
    refine JT_iload_n (q := 2) dX12_takes_19 rfl rfl ?_
    refine JS_callSI (M' := MX12_isIn) (d' := 0) (As := [.int (gI s 248 14), .int a1, .int a2]) (rest := []) (P := (fun zv9 wm9 => (vX12_isIn s (gI s 248 14) a1 a2) = zv9 ∧ s = wm9)) dX12_takes_20 cvX12_202 okX12_isIn rfl (Nat.le_of_ble_eq_true rfl) (Nat.le_of_ble_eq_true rfl) (Nat.le_of_ble_eq_true rfl) (pX12_isIn  ((gI s 248 14)) (a1) (a2)  ⟨rfl, rfl⟩) (fun zv9 wm9 hq9 => ?_)
    obtain ⟨rfl, rfl⟩ := hq9
    refine JT_if_ne (tgt := 32) dX12_takes_23 (by decide) (fun hc4 => ?_) (fun hc4 => ?_)
    · have h := h.1 hc4
      refine JT_aload_n (q := 0) dX12_takes_32 rfl rfl ?_
      refine JT_aload_n (q := 0) dX12_takes_33 rfl rfl ?_
      refine JS_getI dX12_takes_34 flX12_180 BS_248 (Nat.le_of_ble_eq_true rfl) (Nat.le_of_ble_eq_true rfl) (Or.inl ct_12_14) ?_
      refine JS_putI dX12_takes_37 flX12_206 BS_248 (Nat.le_of_ble_eq_true rfl) (Nat.le_of_ble_eq_true rfl) ct_12_18 ?_
      refine JT_aload_n (q := 0) dX12_takes_40 rfl rfl ?_
      refine JS_callVV (M' := MX12_next) (d' := 1) (As := []) (rest := []) dX12_takes_41 cvX12_199 okX12_next rfl (Nat.le_of_ble_eq_true rfl) BS_248 (Nat.le_of_ble_eq_true rfl) (Nat.le_of_ble_eq_true rfl) hci_12 (Nat.le_of_ble_eq_true rfl) (Nat.le_of_ble_eq_true rfl) h (fun s1 h => ?_)
      refine JT_iconst (v := 1) dX12_takes_44 ic_1 ?_
      exact JS_iret dX12_takes_45 rfl (n01 (Or.inr rfl)) h
    · have h := h.2 hc4
      refine JT_aload_n (q := 0) dX12_takes_26 rfl rfl ?_
      refine JT_iconst (v := 2) dX12_takes_27 ic_2 ?_
      refine JS_callVI (M' := MX12_bad) (d' := 0) (As := [.int (2 : Int32)]) (rest := []) (P := (fun zv9 wm9 => (vX12_bad s (2 : Int32)) = zv9 ∧ (mX12_bad s (2 : Int32)) = wm9)) dX12_takes_28 cvX12_196 okX12_bad rfl (Nat.le_of_ble_eq_true rfl) BS_248 (Nat.le_of_ble_eq_true rfl) (Nat.le_of_ble_eq_true rfl) hci_12 (Nat.le_of_ble_eq_true rfl) (Nat.le_of_ble_eq_true rfl) (pX12_bad  ((2 : Int32))  ⟨rfl, rfl⟩) (fun zv9 wm9 hq9 => ?_)
      obtain ⟨rfl, rfl⟩ := hq9
      exact JS_iret dX12_takes_31 rfl (n01 (zX12_bad s (2 : Int32))) h
  · have h := h.2 hc7
    refine JT_aload_n (q := 0) dX12_takes_8 rfl rfl ?_
    refine JT_iconst (v := 1) dX12_takes_9 ic_1 ?_
    refine JS_callVI (M' := MX12_bad) (d' := 0) (As := [.int (1 : Int32)]) (rest := []) (P := (fun zv9 wm9 => (vX12_bad s (1 : Int32)) = zv9 ∧ (mX12_bad s (1 : Int32)) = wm9)) dX12_takes_10 cvX12_196 okX12_bad rfl (Nat.le_of_ble_eq_true rfl) BS_248 (Nat.le_of_ble_eq_true rfl) (Nat.le_of_ble_eq_true rfl) hci_12 (Nat.le_of_ble_eq_true rfl) (Nat.le_of_ble_eq_true rfl) (pX12_bad  ((1 : Int32))  ⟨rfl, rfl⟩) (fun zv9 wm9 hq9 => ?_)
    obtain ⟨rfl, rfl⟩ := hq9
    exact JS_iret dX12_takes_13 rfl (n01 (zX12_bad s (1 : Int32))) h
set_option maxRecDepth 20000 in
theorem bX12_takesName (a1 : Int32) (a2 : Int32) {s : SM} {Q : Int32 → SM → Prop} (h : KI MX12_isName 0 [.ref 248] s (fun x2 s1 => ((¬ x2 = 0 → KI MX12_find 0 [.ref 248, .int a1, .int a2] s1 (fun x4 s3 => ((0 ≤ (gI (pI s3 248 18 x4) 248 18) → KV MX12_next 1 [.ref 248] (pI s3 248 18 x4) (fun s5 => Q (1 : Int32) s5)) ∧ (¬ 0 ≤ (gI (pI s3 248 18 x4) 248 18) → Q (vX12_bad (pI s3 248 18 x4) (3 : Int32)) (mX12_bad (pI s3 248 18 x4) (3 : Int32)))))) ∧ (x2 = 0 → Q (vX12_bad s1 (1 : Int32)) (mX12_bad s1 (1 : Int32)))))) : KI MX12_takesName 2 [.ref 248, .int a1, .int a2] s Q := by
  show BI MX12_takesName 2 0 [(0, .ref 248), (1, .int a1), (2, .int a2)] s Q
  refine JT_aload_n (q := 0) dX12_takesName_0 rfl rfl ?_
  refine JS_callVI (M' := MX12_isName) (d' := 0) (As := []) (rest := []) dX12_takesName_1 cvX12_209 okX12_isName rfl (Nat.le_of_ble_eq_true rfl) BS_248 (Nat.le_of_ble_eq_true rfl) (Nat.le_of_ble_eq_true rfl) hci_12 (Nat.le_of_ble_eq_true rfl) (Nat.le_of_ble_eq_true rfl) h (fun x2 s1 h => ?_)
  refine JT_if_ne (tgt := 13) dX12_takesName_4 (by decide) (fun hc10 => ?_) (fun hc10 => ?_)
  · have h := h.1 hc10
    refine JT_aload_n (q := 0) dX12_takesName_13 rfl rfl ?_
    refine JT_aload_n (q := 0) dX12_takesName_14 rfl rfl ?_
    refine JT_iload_n (q := 1) dX12_takesName_15 rfl rfl ?_
    refine JT_iload_n (q := 2) dX12_takesName_16 rfl rfl ?_
    refine JS_callVI (M' := MX12_find) (d' := 0) (As := [.int a1, .int a2]) (rest := [.ref 248]) dX12_takesName_17 cvX12_213 okX12_find rfl (Nat.le_of_ble_eq_true rfl) BS_248 (Nat.le_of_ble_eq_true rfl) (Nat.le_of_ble_eq_true rfl) hci_12 (Nat.le_of_ble_eq_true rfl) (Nat.le_of_ble_eq_true rfl) h (fun x4 s3 h => ?_)
    refine JS_putI dX12_takesName_20 flX12_206 BS_248 (Nat.le_of_ble_eq_true rfl) (Nat.le_of_ble_eq_true rfl) ct_12_18 ?_
    refine JT_aload_n (q := 0) dX12_takesName_23 rfl rfl ?_
    refine JS_getI dX12_takesName_24 flX12_206 BS_248 (Nat.le_of_ble_eq_true rfl) (Nat.le_of_ble_eq_true rfl) (Or.inl ct_12_18) ?_
    refine JT_if_ge (tgt := 36) dX12_takesName_27 (by decide) (fun hc8 => ?_) (fun hc8 => ?_)
    · have h := h.1 hc8
      refine JT_aload_n (q := 0) dX12_takesName_36 rfl rfl ?_
      refine JS_callVV (M' := MX12_next) (d' := 1) (As := []) (rest := []) dX12_takesName_37 cvX12_199 okX12_next rfl (Nat.le_of_ble_eq_true rfl) BS_248 (Nat.le_of_ble_eq_true rfl) (Nat.le_of_ble_eq_true rfl) hci_12 (Nat.le_of_ble_eq_true rfl) (Nat.le_of_ble_eq_true rfl) h (fun s5 h => ?_)
      refine JT_iconst (v := 1) dX12_takesName_40 ic_1 ?_
      exact JS_iret dX12_takesName_41 rfl (n01 (Or.inr rfl)) h
    · have h := h.2 hc8
      refine JT_aload_n (q := 0) dX12_takesName_30 rfl rfl ?_
      refine JT_iconst (v := 3) dX12_takesName_31 ic_3 ?_
      refine JS_callVI (M' := MX12_bad) (d' := 0) (As := [.int (3 : Int32)]) (rest := []) (P := (fun zv9 wm9 => (vX12_bad (pI s3 248 18 x4) (3 : Int32)) = zv9 ∧ (mX12_bad (pI s3 248 18 x4) (3 : Int32)) = wm9)) dX12_takesName_32 cvX12_196 okX12_bad rfl (Nat.le_of_ble_eq_true rfl) BS_248 (Nat.le_of_ble_eq_true rfl) (Nat.le_of_ble_eq_true rfl) hci_12 (Nat.le_of_ble_eq_true rfl) (Nat.le_of_ble_eq_true rfl) (pX12_bad  ((3 : Int32))  ⟨rfl, rfl⟩) (fun zv9 wm9 hq9 => ?_)
      obtain ⟨rfl, rfl⟩ := hq9
      exact JS_iret dX12_takesName_35 rfl (n01 (zX12_bad (pI s3 248 18 x4) (3 : Int32))) h
  · have h := h.2 hc10
    refine JT_aload_n (q := 0) dX12_takesName_7 rfl rfl ?_
    refine JT_iconst (v := 1) dX12_takesName_8 ic_1 ?_
    refine JS_callVI (M' := MX12_bad) (d' := 0) (As := [.int (1 : Int32)]) (rest := []) (P := (fun zv9 wm9 => (vX12_bad s1 (1 : Int32)) = zv9 ∧ (mX12_bad s1 (1 : Int32)) = wm9)) dX12_takesName_9 cvX12_196 okX12_bad rfl (Nat.le_of_ble_eq_true rfl) BS_248 (Nat.le_of_ble_eq_true rfl) (Nat.le_of_ble_eq_true rfl) hci_12 (Nat.le_of_ble_eq_true rfl) (Nat.le_of_ble_eq_true rfl) (pX12_bad  ((1 : Int32))  ⟨rfl, rfl⟩) (fun zv9 wm9 hq9 => ?_)
    obtain ⟨rfl, rfl⟩ := hq9
    exact JS_iret dX12_takesName_12 rfl (n01 (zX12_bad s1 (1 : Int32))) h
set_option maxRecDepth 20000 in
theorem bX12_valueOf (a1 : Int32) {s : SM} {Q : Int32 → SM → Prop} (h : rX12_of s a1 (2 : Int32) ∧ rX12_sortOf s a1 ∧ Q (vX12_valueBy s (vX12_of s a1 (2 : Int32)) (vX12_sortOf s a1)) s) : KI MX12_valueOf 2 [.ref 248, .int a1] s Q := by
  show BI MX12_valueOf 2 0 [(0, .ref 248), (1, .int a1)] s Q
  refine JT_aload_n (q := 0) dX12_valueOf_0 rfl rfl ?_
  refine JT_aload_n (q := 0) dX12_valueOf_1 rfl rfl ?_
  refine JT_iload_n (q := 1) dX12_valueOf_2 rfl rfl ?_
  refine JT_iconst (v := 2) dX12_valueOf_3 ic_2 ?_
  obtain ⟨o3, h⟩ := h
  refine JS_callVI (M' := MX12_of) (d' := 0) (As := [.int a1, .int (2 : Int32)]) (rest := [.ref 248]) (P := (fun zv9 wm9 => (vX12_of s a1 (2 : Int32)) = zv9 ∧ s = wm9)) dX12_valueOf_4 cvX12_265 okX12_of rfl (Nat.le_of_ble_eq_true rfl) BS_248 (Nat.le_of_ble_eq_true rfl) (Nat.le_of_ble_eq_true rfl) hci_12 (Nat.le_of_ble_eq_true rfl) (Nat.le_of_ble_eq_true rfl) (pX12_of  (a1) ((2 : Int32)) o3 ⟨rfl, rfl⟩) (fun zv9 wm9 hq9 => ?_)
  obtain ⟨rfl, rfl⟩ := hq9
  refine JT_aload_n (q := 0) dX12_valueOf_7 rfl rfl ?_
  refine JT_iload_n (q := 1) dX12_valueOf_8 rfl rfl ?_
  obtain ⟨o2, h⟩ := h
  refine JS_callVI (M' := MX12_sortOf) (d' := 1) (As := [.int a1]) (rest := [.int (vX12_of s a1 (2 : Int32)), .ref 248]) (P := (fun zv9 wm9 => (vX12_sortOf s a1) = zv9 ∧ s = wm9)) dX12_valueOf_9 cvX12_272 okX12_sortOf rfl (Nat.le_of_ble_eq_true rfl) BS_248 (Nat.le_of_ble_eq_true rfl) (Nat.le_of_ble_eq_true rfl) hci_12 (Nat.le_of_ble_eq_true rfl) (Nat.le_of_ble_eq_true rfl) (pX12_sortOf  (a1) o2 ⟨rfl, rfl⟩) (fun zv9 wm9 hq9 => ?_)
  obtain ⟨rfl, rfl⟩ := hq9
  refine JS_callVI (M' := MX12_valueBy) (d' := 0) (As := [.int (vX12_of s a1 (2 : Int32)), .int (vX12_sortOf s a1)]) (rest := []) (P := (fun zv9 wm9 => (vX12_valueBy s (vX12_of s a1 (2 : Int32)) (vX12_sortOf s a1)) = zv9 ∧ s = wm9)) dX12_valueOf_12 cvX12_275 okX12_valueBy rfl (Nat.le_of_ble_eq_true rfl) BS_248 (Nat.le_of_ble_eq_true rfl) (Nat.le_of_ble_eq_true rfl) hci_12 (Nat.le_of_ble_eq_true rfl) (Nat.le_of_ble_eq_true rfl) (pX12_valueBy  ((vX12_of s a1 (2 : Int32))) ((vX12_sortOf s a1))  ⟨rfl, rfl⟩) (fun zv9 wm9 hq9 => ?_)
  obtain ⟨rfl, rfl⟩ := hq9
  exact JS_iret dX12_valueOf_15 rfl rfl h
set_option maxRecDepth 20000 in
def vX12_valueOf (s : SM) (a1 : Int32) : Int32 := (vX12_valueBy s (vX12_of s a1 (2 : Int32)) (vX12_sortOf s a1))
set_option maxRecDepth 20000 in
def rX12_valueOf (s : SM) (a1 : Int32) : Prop := rX12_of s a1 (2 : Int32) ∧ rX12_sortOf s a1
set_option maxRecDepth 20000 in
theorem pX12_valueOf (a1 : Int32) {s : SM} {Q : Int32 → SM → Prop} (hr : rX12_valueOf s a1) (h : Q (vX12_valueOf s a1) s) : KI MX12_valueOf 2 [.ref 248, .int a1] s Q := by
  refine bX12_valueOf a1 ?_
  unfold rX12_valueOf at hr
  unfold vX12_valueOf at h
  refine ⟨hr.1, ?_⟩
  replace hr := hr.2
  refine ⟨hr, ?_⟩
  first | exact h | contradiction
set_option maxRecDepth 20000 in
theorem bX12_whyDies (a1 : Int32) (a2 : Int32) {s : SM} {Q : Int32 → SM → Prop} (h : ((a1 = a2 → Q (1 : Int32) s) ∧ (¬ a1 = a2 → (((vX12_isLiving s a1) = 0 → Q (1 : Int32) s) ∧ (¬ (vX12_isLiving s a1) = 0 → Q (if (vX12_isLiving s a2) = 0 then (1 : Int32) else (0 : Int32)) s))))) : KI MX12_whyDies 2 [.ref 248, .int a1, .int a2] s Q := by
  show BI MX12_whyDies 2 0 [(0, .ref 248), (1, .int a1), (2, .int a2)] s Q
  refine JT_iload_n (q := 1) dX12_whyDies_0 rfl rfl ?_
  refine JT_iload_n (q := 2) dX12_whyDies_1 rfl rfl ?_
  refine JT_icmp_eq (tgt := 21) dX12_whyDies_2 (by decide) (fun hc6 => ?_) (fun hc6 => ?_)
  · have h := h.1 hc6
    refine JT_iconst (v := 1) dX12_whyDies_21 ic_1 ?_
    refine JT_goto (tgt := 26) dX12_whyDies_22 (by decide) ?_
    exact JS_iret dX12_whyDies_26 rfl rfl h
  · have h := h.2 hc6
    refine JT_aload_n (q := 0) dX12_whyDies_5 rfl rfl ?_
    refine JT_iload_n (q := 1) dX12_whyDies_6 rfl rfl ?_
    refine JS_callVI (M' := MX12_isLiving) (d' := 1) (As := [.int a1]) (rest := []) (P := (fun zv9 wm9 => (vX12_isLiving s a1) = zv9 ∧ s = wm9)) dX12_whyDies_7 cvX12_294 okX12_isLiving rfl (Nat.le_of_ble_eq_true rfl) BS_248 (Nat.le_of_ble_eq_true rfl) (Nat.le_of_ble_eq_true rfl) hci_12 (Nat.le_of_ble_eq_true rfl) (Nat.le_of_ble_eq_true rfl) (pX12_isLiving  (a1)  ⟨rfl, rfl⟩) (fun zv9 wm9 hq9 => ?_)
    obtain ⟨rfl, rfl⟩ := hq9
    refine JT_if_eq (tgt := 21) dX12_whyDies_10 (by decide) (fun hc4 => ?_) (fun hc4 => ?_)
    · have h := h.1 hc4
      refine JT_iconst (v := 1) dX12_whyDies_21 ic_1 ?_
      refine JT_goto (tgt := 26) dX12_whyDies_22 (by decide) ?_
      exact JS_iret dX12_whyDies_26 rfl rfl h
    · have h := h.2 hc4
      refine JT_aload_n (q := 0) dX12_whyDies_13 rfl rfl ?_
      refine JT_iload_n (q := 2) dX12_whyDies_14 rfl rfl ?_
      refine JS_callVI (M' := MX12_isLiving) (d' := 1) (As := [.int a2]) (rest := []) (P := (fun zv9 wm9 => (vX12_isLiving s a2) = zv9 ∧ s = wm9)) dX12_whyDies_15 cvX12_294 okX12_isLiving rfl (Nat.le_of_ble_eq_true rfl) BS_248 (Nat.le_of_ble_eq_true rfl) (Nat.le_of_ble_eq_true rfl) hci_12 (Nat.le_of_ble_eq_true rfl) (Nat.le_of_ble_eq_true rfl) (pX12_isLiving  (a2)  ⟨rfl, rfl⟩) (fun zv9 wm9 hq9 => ?_)
      obtain ⟨rfl, rfl⟩ := hq9
      have hj1 : ∀ v : Int32, v = (if (vX12_isLiving s a2) = 0 then (1 : Int32) else (0 : Int32)) → JT MX12_whyDies 2 0 0 26 [(0, .ref 248), (1, .int a1), (2, .int a2)] [.int v] (std s) (KQ Q) := by
        intro v hv
        subst hv
        exact JS_iret dX12_whyDies_26 rfl rfl h
      refine JT_if_ne (tgt := 25) dX12_whyDies_18 (by decide) (fun hc2 => ?_) (fun hc2 => ?_)
      · refine JT_iconst (v := 0) dX12_whyDies_25 ic_0 ?_
        exact hj1 _ (by rw [if_neg hc2])
      · refine JT_iconst (v := 1) dX12_whyDies_21 ic_1 ?_
        refine JT_goto (tgt := 26) dX12_whyDies_22 (by decide) ?_
        exact hj1 _ (by rw [if_pos hc2])
set_option maxRecDepth 20000 in
def vX12_whyDies (s : SM) (a1 : Int32) (a2 : Int32) : Int32 := (if a1 = a2 then (1 : Int32) else (if (vX12_isLiving s a1) = 0 then (1 : Int32) else (if (vX12_isLiving s a2) = 0 then (1 : Int32) else (0 : Int32))))
set_option maxRecDepth 20000 in
theorem pX12_whyDies (a1 : Int32) (a2 : Int32) {s : SM} {Q : Int32 → SM → Prop} (h : Q (vX12_whyDies s a1 a2) s) : KI MX12_whyDies 2 [.ref 248, .int a1, .int a2] s Q := by
  refine bX12_whyDies a1 a2 ?_
  unfold vX12_whyDies at h
  refine ⟨fun c => ?_, fun c => ?_⟩
  · try simp only [if_pos c] at h
    first | exact h | contradiction
  · try simp only [if_neg c] at h
    refine ⟨fun c => ?_, fun c => ?_⟩
    · try simp only [if_pos c] at h
      first | exact h | contradiction
    · try simp only [if_neg c] at h
      first | exact h | contradiction
set_option maxRecDepth 20000 in
theorem bX2_note {L1 P1 : Nat} (hL1 : (L1, P1) ∈ LX) {s : SM} {Q : SM → Prop} (h : vp_in (gI s 55 1) 9 ∧ ∃ Lx1 Px1, RF 56 ((gI s 55 1)).toNatClampNeg = some Lx1 ∧ (Lx1, Px1) ∈ LX ∧ rX4_copyFrom s Lx1 Px1 L1 P1 ∧ Q (mX4_copyFrom s Lx1 Px1 L1 P1)) : KV MX2_note 2 [.ref 55, .ref L1] s Q := by
  show BV MX2_note 2 0 [(0, .ref 55), (1, .ref L1)] s Q
  refine JT_aload_n (q := 0) dX2_note_0 rfl rfl ?_
  refine JS_getR (x := 56) dX2_note_1 flX2_11 BS_55 (Nat.le_of_ble_eq_true rfl) (Nat.le_of_ble_eq_true rfl) (Or.inr ⟨_, ct_2_0⟩) RF_55_0 ?_
  refine JT_aload_n (q := 0) dX2_note_4 rfl rfl ?_
  refine JS_getI dX2_note_5 flX2_24 BS_55 (Nat.le_of_ble_eq_true rfl) (Nat.le_of_ble_eq_true rfl) (Or.inl ct_2_1) ?_
  obtain ⟨o2, Lx1, Px1, hr3, hLx1, h⟩ := h
  refine JS_aald dX2_note_8 BS_56 (Nat.le_of_ble_eq_true rfl) (Nat.le_of_ble_eq_true rfl) o2 (by rw [RFd_arr (Or.inr rfl)]; exact hr3) ?_
  refine JT_aload_n (q := 1) dX2_note_9 rfl rfl ?_
  obtain ⟨o4, h⟩ := h
  refine JS_callVV (M' := MX4_copyFrom) (d' := 1) (As := [.ref L1]) (rest := []) (P := (fun wm9 => (mX4_copyFrom s Lx1 Px1 L1 P1) = wm9)) dX2_note_10 cvX2_27 okX4_copyFrom rfl (Nat.le_of_ble_eq_true rfl) (lxB hLx1) (lx2 hLx1) (lxN hLx1) hci_4 (Nat.le_of_ble_eq_true rfl) (Nat.le_of_ble_eq_true rfl) (pX4_copyFrom hLx1 hL1  o4 rfl) (fun wm9 hq9 => ?_)
  subst hq9
  exact JS_vret dX2_note_13 rfl h
set_option maxRecDepth 20000 in
theorem bX2_takeBack {L1 P1 : Nat} (hL1 : (L1, P1) ∈ LX) {s : SM} {Q : Int32 → SM → Prop} (h : ((¬ (gI s 55 2) = 0 → (∀ s1, s1 = (pI s 55 1 ((((gI s 55 1) + (9 : Int32)) - (1 : Int32)) - (((gI s 55 1) + (9 : Int32)) - (1 : Int32)) / (9 : Int32) * (9 : Int32))) → vp_in (gI (pI s1 55 2 ((gI s1 55 2) - (1 : Int32))) 55 1) 9 ∧ ∃ Lx2 Px2, RF 56 ((gI (pI s1 55 2 ((gI s1 55 2) - (1 : Int32))) 55 1)).toNatClampNeg = some Lx2 ∧ (Lx2, Px2) ∈ LX ∧ rX4_copyFrom (pI s1 55 2 ((gI s1 55 2) - (1 : Int32))) L1 P1 Lx2 Px2 ∧ Q (gI (mX4_copyFrom (pI s1 55 2 ((gI s1 55 2) - (1 : Int32))) L1 P1 Lx2 Px2) 55 2) (mX4_copyFrom (pI s1 55 2 ((gI s1 55 2) - (1 : Int32))) L1 P1 Lx2 Px2))) ∧ ((gI s 55 2) = 0 → Q (-1 : Int32) s))) : KI MX2_takeBack 2 [.ref 55, .ref L1] s Q := by
  show BI MX2_takeBack 2 0 [(0, .ref 55), (1, .ref L1)] s Q
  refine JT_aload_n (q := 0) dX2_takeBack_0 rfl rfl ?_
  refine JS_getI dX2_takeBack_1 flX2_20 BS_55 (Nat.le_of_ble_eq_true rfl) (Nat.le_of_ble_eq_true rfl) (Or.inl ct_2_2) ?_
  refine JT_if_ne (tgt := 9) dX2_takeBack_4 (by decide) (fun hc6 => ?_) (fun hc6 => ?_)
  · have h := h.1 hc6
    refine JT_aload_n (q := 0) dX2_takeBack_9 rfl rfl ?_
    refine JT_aload_n (q := 0) dX2_takeBack_10 rfl rfl ?_
    refine JS_getI dX2_takeBack_11 flX2_24 BS_55 (Nat.le_of_ble_eq_true rfl) (Nat.le_of_ble_eq_true rfl) (Or.inl ct_2_1) ?_
    refine JT_aload_n (q := 0) dX2_takeBack_14 rfl rfl ?_
    refine JS_getR (x := 56) dX2_takeBack_15 flX2_11 BS_55 (Nat.le_of_ble_eq_true rfl) (Nat.le_of_ble_eq_true rfl) (Or.inr ⟨_, ct_2_0⟩) RF_55_0 ?_
    refine JT_alen (v := 9) dX2_takeBack_18 BS_56 (Nat.le_of_ble_eq_true rfl) (Nat.le_of_ble_eq_true rfl) (by decide) ?_
    refine JT_iadd dX2_takeBack_19 ?_
    refine JT_iconst (v := 1) dX2_takeBack_20 ic_1 ?_
    refine JT_isub dX2_takeBack_21 ?_
    refine JT_aload_n (q := 0) dX2_takeBack_22 rfl rfl ?_
    refine JS_getR (x := 56) dX2_takeBack_23 flX2_11 BS_55 (Nat.le_of_ble_eq_true rfl) (Nat.le_of_ble_eq_true rfl) (Or.inr ⟨_, ct_2_0⟩) RF_55_0 ?_
    refine JT_alen (v := 9) dX2_takeBack_26 BS_56 (Nat.le_of_ble_eq_true rfl) (Nat.le_of_ble_eq_true rfl) (by decide) ?_
    refine JT_irem dX2_takeBack_27 (by decide) ?_
    refine JS_putI dX2_takeBack_28 flX2_24 BS_55 (Nat.le_of_ble_eq_true rfl) (Nat.le_of_ble_eq_true rfl) ct_2_1 ?_
    obtain ⟨s1, hs1⟩ : ∃ z, z = (pI s 55 1 ((((gI s 55 1) + (9 : Int32)) - (1 : Int32)) - (((gI s 55 1) + (9 : Int32)) - (1 : Int32)) / (9 : Int32) * (9 : Int32))) := ⟨_, rfl⟩
    replace h := h s1 hs1
    rw [← hs1]
    refine JT_aload_n (q := 0) dX2_takeBack_31 rfl rfl ?_
    refine JT_dup dX2_takeBack_32 rfl ?_
    refine JS_getI dX2_takeBack_33 flX2_20 BS_55 (Nat.le_of_ble_eq_true rfl) (Nat.le_of_ble_eq_true rfl) (Or.inl ct_2_2) ?_
    refine JT_iconst (v := 1) dX2_takeBack_36 ic_1 ?_
    refine JT_isub dX2_takeBack_37 ?_
    refine JS_putI dX2_takeBack_38 flX2_20 BS_55 (Nat.le_of_ble_eq_true rfl) (Nat.le_of_ble_eq_true rfl) ct_2_2 ?_
    refine JT_aload_n (q := 1) dX2_takeBack_41 rfl rfl ?_
    refine JT_aload_n (q := 0) dX2_takeBack_42 rfl rfl ?_
    refine JS_getR (x := 56) dX2_takeBack_43 flX2_11 BS_55 (Nat.le_of_ble_eq_true rfl) (Nat.le_of_ble_eq_true rfl) (Or.inr ⟨_, ct_2_0⟩) RF_55_0 ?_
    refine JT_aload_n (q := 0) dX2_takeBack_46 rfl rfl ?_
    refine JS_getI dX2_takeBack_47 flX2_24 BS_55 (Nat.le_of_ble_eq_true rfl) (Nat.le_of_ble_eq_true rfl) (Or.inl ct_2_1) ?_
    obtain ⟨o3, Lx2, Px2, hr4, hLx2, h⟩ := h
    refine JS_aald dX2_takeBack_50 BS_56 (Nat.le_of_ble_eq_true rfl) (Nat.le_of_ble_eq_true rfl) o3 (by rw [RFd_arr (Or.inr rfl)]; exact hr4) ?_
    obtain ⟨o5, h⟩ := h
    refine JS_callVV (M' := MX4_copyFrom) (d' := 1) (As := [.ref Lx2]) (rest := []) (P := (fun wm9 => (mX4_copyFrom (pI s1 55 2 ((gI s1 55 2) - (1 : Int32))) L1 P1 Lx2 Px2) = wm9)) dX2_takeBack_51 cvX2_27 okX4_copyFrom rfl (Nat.le_of_ble_eq_true rfl) (lxB hL1) (lx2 hL1) (lxN hL1) hci_4 (Nat.le_of_ble_eq_true rfl) (Nat.le_of_ble_eq_true rfl) (pX4_copyFrom hL1 hLx2  o5 rfl) (fun wm9 hq9 => ?_)
    subst hq9
    refine JT_aload_n (q := 0) dX2_takeBack_54 rfl rfl ?_
    refine JS_getI dX2_takeBack_55 flX2_20 BS_55 (Nat.le_of_ble_eq_true rfl) (Nat.le_of_ble_eq_true rfl) (Or.inl ct_2_2) ?_
    exact JS_iret dX2_takeBack_58 rfl rfl h
  · have h := h.2 hc6
    refine JT_iconst (v := -1) dX2_takeBack_7 ic_m1 ?_
    exact JS_iret dX2_takeBack_8 rfl rfl h
set_option maxRecDepth 20000 in
theorem bX3_bringBack {I0 P0 L0 B0 : Nat} (hi0 : (I0, P0, L0, B0) ∈ IX) {p1 : Nat} (hp1 : p1 ∈ PX) {L2 P2 : Nat} (hL2 : (L2, P2) ∈ LX) {k3 : Nat} (hk3 : k3 ∈ BX) {s : SM} {Q : SM → Prop} (h : rX4_copyFrom (mX6_copyFrom s p1 P0) L2 P2 L0 P0 ∧ Q (mX0_copyFrom (mX4_copyFrom (mX6_copyFrom s p1 P0) L2 P2 L0 P0) k3 B0)) : KV MX3_bringBack 2 [.ref I0, .ref p1, .ref L2, .ref k3] s Q := by
  show BV MX3_bringBack 2 0 [(0, .ref I0), (1, .ref p1), (2, .ref L2), (3, .ref k3)] s Q
  refine JT_aload_n (q := 1) dX3_bringBack_0 rfl rfl ?_
  refine JT_aload_n (q := 0) dX3_bringBack_1 rfl rfl ?_
  refine JS_getR (x := P0) dX3_bringBack_2 flX3_10 (ixB hi0) (ix2 hi0) (ixN hi0) (Or.inl ⟨_, ct_3_1⟩) (ixR1 hi0) ?_
  refine JS_callVV (M' := MX6_copyFrom) (d' := 1) (As := [.ref P0]) (rest := []) (P := (fun wm9 => (mX6_copyFrom s p1 P0) = wm9)) dX3_bringBack_5 cvX3_32 okX6_copyFrom rfl (Nat.le_of_ble_eq_true rfl) (pxB hp1) (px2 hp1) (pxN hp1) hci_6 (Nat.le_of_ble_eq_true rfl) (Nat.le_of_ble_eq_true rfl) (pX6_copyFrom hp1 (ixP hi0)   rfl) (fun wm9 hq9 => ?_)
  subst hq9
  refine JT_aload_n (q := 2) dX3_bringBack_8 rfl rfl ?_
  refine JT_aload_n (q := 0) dX3_bringBack_9 rfl rfl ?_
  refine JS_getR (x := L0) dX3_bringBack_10 flX3_21 (ixB hi0) (ix2 hi0) (ixN hi0) (Or.inl ⟨_, ct_3_2⟩) (ixR2 hi0) ?_
  obtain ⟨o2, h⟩ := h
  refine JS_callVV (M' := MX4_copyFrom) (d' := 1) (As := [.ref L0]) (rest := []) (P := (fun wm9 => (mX4_copyFrom (mX6_copyFrom s p1 P0) L2 P2 L0 P0) = wm9)) dX3_bringBack_13 cvX3_35 okX4_copyFrom rfl (Nat.le_of_ble_eq_true rfl) (lxB hL2) (lx2 hL2) (lxN hL2) hci_4 (Nat.le_of_ble_eq_true rfl) (Nat.le_of_ble_eq_true rfl) (pX4_copyFrom hL2 (ixL hi0)  o2 rfl) (fun wm9 hq9 => ?_)
  subst hq9
  refine JT_aload_n (q := 3) dX3_bringBack_16 rfl rfl ?_
  refine JT_aload_n (q := 0) dX3_bringBack_17 rfl rfl ?_
  refine JS_getR (x := B0) dX3_bringBack_18 flX3_28 (ixB hi0) (ix2 hi0) (ixN hi0) (Or.inl ⟨_, ct_3_3⟩) (ixR3 hi0) ?_
  refine JS_callVV (M' := MX0_copyFrom) (d' := 1) (As := [.ref B0]) (rest := []) (P := (fun wm9 => (mX0_copyFrom (mX4_copyFrom (mX6_copyFrom s p1 P0) L2 P2 L0 P0) k3 B0) = wm9)) dX3_bringBack_21 cvX3_38 okX0_copyFrom rfl (Nat.le_of_ble_eq_true rfl) (bxB hk3) (bx2 hk3) (bxN hk3) hci_0 (Nat.le_of_ble_eq_true rfl) (Nat.le_of_ble_eq_true rfl) (pX0_copyFrom hk3 (ixBk hi0)   rfl) (fun wm9 hq9 => ?_)
  subst hq9
  exact JS_vret dX3_bringBack_24 rfl h
set_option maxRecDepth 20000 in
def mX3_bringBack (s : SM) (I0 P0 L0 B0 : Nat) (p1 : Nat) (L2 P2 : Nat) (k3 : Nat) : SM := (mX0_copyFrom (mX4_copyFrom (mX6_copyFrom s p1 P0) L2 P2 L0 P0) k3 B0)
set_option maxRecDepth 20000 in
def rX3_bringBack (s : SM) (I0 P0 L0 B0 : Nat) (p1 : Nat) (L2 P2 : Nat) (k3 : Nat) : Prop := rX4_copyFrom (mX6_copyFrom s p1 P0) L2 P2 L0 P0
set_option maxRecDepth 20000 in
theorem pX3_bringBack {I0 P0 L0 B0 : Nat} (hi0 : (I0, P0, L0, B0) ∈ IX) {p1 : Nat} (hp1 : p1 ∈ PX) {L2 P2 : Nat} (hL2 : (L2, P2) ∈ LX) {k3 : Nat} (hk3 : k3 ∈ BX) {s : SM} {Q : SM → Prop} (hr : rX3_bringBack s I0 P0 L0 B0 p1 L2 P2 k3) (h : Q (mX3_bringBack s I0 P0 L0 B0 p1 L2 P2 k3)) : KV MX3_bringBack 2 [.ref I0, .ref p1, .ref L2, .ref k3] s Q := by
  refine bX3_bringBack hi0 hp1 hL2 hk3 ?_
  unfold rX3_bringBack at hr
  unfold mX3_bringBack at h
  refine ⟨hr, ?_⟩
  first | exact h | contradiction
set_option maxRecDepth 20000 in
theorem bX3_keep {I0 P0 L0 B0 : Nat} (hi0 : (I0, P0, L0, B0) ∈ IX) {p1 : Nat} (hp1 : p1 ∈ PX) {L2 P2 : Nat} (hL2 : (L2, P2) ∈ LX) {k3 : Nat} (hk3 : k3 ∈ BX) {s : SM} {Q : SM → Prop} (h : rX4_copyFrom (mX6_copyFrom s P0 p1) L0 P0 L2 P2 ∧ Q (pI (mX0_copyFrom (mX4_copyFrom (mX6_copyFrom s P0 p1) L0 P0 L2 P2) B0 k3) I0 0 (1 : Int32))) : KV MX3_keep 2 [.ref I0, .ref p1, .ref L2, .ref k3] s Q := by
  show BV MX3_keep 2 0 [(0, .ref I0), (1, .ref p1), (2, .ref L2), (3, .ref k3)] s Q
  refine JT_aload_n (q := 0) dX3_keep_0 rfl rfl ?_
  refine JS_getR (x := P0) dX3_keep_1 flX3_10 (ixB hi0) (ix2 hi0) (ixN hi0) (Or.inl ⟨_, ct_3_1⟩) (ixR1 hi0) ?_
  refine JT_aload_n (q := 1) dX3_keep_4 rfl rfl ?_
  refine JS_callVV (M' := MX6_copyFrom) (d' := 1) (As := [.ref p1]) (rest := []) (P := (fun wm9 => (mX6_copyFrom s P0 p1) = wm9)) dX3_keep_5 cvX3_32 okX6_copyFrom rfl (Nat.le_of_ble_eq_true rfl) (pxB (ixP hi0)) (px2 (ixP hi0)) (pxN (ixP hi0)) hci_6 (Nat.le_of_ble_eq_true rfl) (Nat.le_of_ble_eq_true rfl) (pX6_copyFrom (ixP hi0) hp1   rfl) (fun wm9 hq9 => ?_)
  subst hq9
  refine JT_aload_n (q := 0) dX3_keep_8 rfl rfl ?_
  refine JS_getR (x := L0) dX3_keep_9 flX3_21 (ixB hi0) (ix2 hi0) (ixN hi0) (Or.inl ⟨_, ct_3_2⟩) (ixR2 hi0) ?_
  refine JT_aload_n (q := 2) dX3_keep_12 rfl rfl ?_
  obtain ⟨o2, h⟩ := h
  refine JS_callVV (M' := MX4_copyFrom) (d' := 1) (As := [.ref L2]) (rest := []) (P := (fun wm9 => (mX4_copyFrom (mX6_copyFrom s P0 p1) L0 P0 L2 P2) = wm9)) dX3_keep_13 cvX3_35 okX4_copyFrom rfl (Nat.le_of_ble_eq_true rfl) (lxB (ixL hi0)) (lx2 (ixL hi0)) (lxN (ixL hi0)) hci_4 (Nat.le_of_ble_eq_true rfl) (Nat.le_of_ble_eq_true rfl) (pX4_copyFrom (ixL hi0) hL2  o2 rfl) (fun wm9 hq9 => ?_)
  subst hq9
  refine JT_aload_n (q := 0) dX3_keep_16 rfl rfl ?_
  refine JS_getR (x := B0) dX3_keep_17 flX3_28 (ixB hi0) (ix2 hi0) (ixN hi0) (Or.inl ⟨_, ct_3_3⟩) (ixR3 hi0) ?_
  refine JT_aload_n (q := 3) dX3_keep_20 rfl rfl ?_
  refine JS_callVV (M' := MX0_copyFrom) (d' := 1) (As := [.ref k3]) (rest := []) (P := (fun wm9 => (mX0_copyFrom (mX4_copyFrom (mX6_copyFrom s P0 p1) L0 P0 L2 P2) B0 k3) = wm9)) dX3_keep_21 cvX3_38 okX0_copyFrom rfl (Nat.le_of_ble_eq_true rfl) (bxB (ixBk hi0)) (bx2 (ixBk hi0)) (bxN (ixBk hi0)) hci_0 (Nat.le_of_ble_eq_true rfl) (Nat.le_of_ble_eq_true rfl) (pX0_copyFrom (ixBk hi0) hk3   rfl) (fun wm9 hq9 => ?_)
  subst hq9
  refine JT_aload_n (q := 0) dX3_keep_24 rfl rfl ?_
  refine JT_iconst (v := 1) dX3_keep_25 ic_1 ?_
  refine JS_putZ dX3_keep_26 flX3_41 (ixB hi0) (ix2 hi0) (ixN hi0) ct_3_0 (Or.inr rfl) ?_
  exact JS_vret dX3_keep_29 rfl h
set_option maxRecDepth 20000 in
def mX3_keep (s : SM) (I0 P0 L0 B0 : Nat) (p1 : Nat) (L2 P2 : Nat) (k3 : Nat) : SM := (pI (mX0_copyFrom (mX4_copyFrom (mX6_copyFrom s P0 p1) L0 P0 L2 P2) B0 k3) I0 0 (1 : Int32))
set_option maxRecDepth 20000 in
def rX3_keep (s : SM) (I0 P0 L0 B0 : Nat) (p1 : Nat) (L2 P2 : Nat) (k3 : Nat) : Prop := rX4_copyFrom (mX6_copyFrom s P0 p1) L0 P0 L2 P2
set_option maxRecDepth 20000 in
theorem pX3_keep {I0 P0 L0 B0 : Nat} (hi0 : (I0, P0, L0, B0) ∈ IX) {p1 : Nat} (hp1 : p1 ∈ PX) {L2 P2 : Nat} (hL2 : (L2, P2) ∈ LX) {k3 : Nat} (hk3 : k3 ∈ BX) {s : SM} {Q : SM → Prop} (hr : rX3_keep s I0 P0 L0 B0 p1 L2 P2 k3) (h : Q (mX3_keep s I0 P0 L0 B0 p1 L2 P2 k3)) : KV MX3_keep 2 [.ref I0, .ref p1, .ref L2, .ref k3] s Q := by
  refine bX3_keep hi0 hp1 hL2 hk3 ?_
  unfold rX3_keep at hr
  unfold mX3_keep at h
  refine ⟨hr, ?_⟩
  first | exact h | contradiction
set_option maxRecDepth 20000 in
theorem bX4_debtBearerFor {L0 P0 : Nat} (hL0 : (L0, P0) ∈ LX) (a1 : Int32) (a2 : Int32) (a3 : Int32) {s : SM} {Q : Int32 → SM → Prop} (h : vp_in a3 9 ∧ vp_in a3 9 ∧ rX4_bearerFor (pI s (L0 + 7) (a3).toNatClampNeg ((gI s (L0 + 7) (a3).toNatClampNeg) - a2)) L0 P0 a1 a2 ∧ vp_in a3 9 ∧ vp_in a3 9 ∧ (∀ s5, s5 = (pI (pI s (L0 + 7) (a3).toNatClampNeg ((gI s (L0 + 7) (a3).toNatClampNeg) - a2)) (L0 + 7) (a3).toNatClampNeg ((gI (pI s (L0 + 7) (a3).toNatClampNeg ((gI s (L0 + 7) (a3).toNatClampNeg) - a2)) (L0 + 7) (a3).toNatClampNeg) + a2)) → Q (vX4_bearerFor (pI s (L0 + 7) (a3).toNatClampNeg ((gI s (L0 + 7) (a3).toNatClampNeg) - a2)) L0 P0 a1 a2) s5)) : KI MX4_debtBearerFor 2 [.ref L0, .int a1, .int a2, .int a3] s Q := by
  show BI MX4_debtBearerFor 2 0 [(0, .ref L0), (1, .int a1), (2, .int a2), (3, .int a3)] s Q
  refine JT_aload_n (q := 0) dX4_debtBearerFor_0 rfl rfl ?_
  refine JS_getR (x := (L0 + 7)) dX4_debtBearerFor_1 flX4_30 (lxB hL0) (lx2 hL0) (lxN hL0) (Or.inr ⟨_, ct_4_6⟩) (lxR6 hL0) ?_
  refine JT_iload_n (q := 3) dX4_debtBearerFor_4 rfl rfl ?_
  refine JT_dup2 dX4_debtBearerFor_5 rfl rfl ?_
  obtain ⟨o1, h⟩ := h
  refine JS_iald dX4_debtBearerFor_6 (lxB7 hL0) (lx2k hL0 _) (lxNk hL0 (Nat.le_of_ble_eq_true rfl)) o1 ?_
  refine JT_iload_n (q := 2) dX4_debtBearerFor_7 rfl rfl ?_
  refine JT_isub dX4_debtBearerFor_8 ?_
  obtain ⟨o2, h⟩ := h
  refine JS_iast dX4_debtBearerFor_9 (lxB7 hL0) (lx2k hL0 _) (lxNk hL0 (Nat.le_of_ble_eq_true rfl)) o2 ?_
  refine JT_aload_n (q := 0) dX4_debtBearerFor_10 rfl rfl ?_
  refine JT_iload_n (q := 1) dX4_debtBearerFor_11 rfl rfl ?_
  refine JT_iload_n (q := 2) dX4_debtBearerFor_12 rfl rfl ?_
  obtain ⟨o6, h⟩ := h
  refine JS_callVI (M' := MX4_bearerFor) (d' := 1) (As := [.int a1, .int a2]) (rest := []) (P := (fun zv9 wm9 => (vX4_bearerFor (pI s (L0 + 7) (a3).toNatClampNeg ((gI s (L0 + 7) (a3).toNatClampNeg) - a2)) L0 P0 a1 a2) = zv9 ∧ (pI s (L0 + 7) (a3).toNatClampNeg ((gI s (L0 + 7) (a3).toNatClampNeg) - a2)) = wm9)) dX4_debtBearerFor_13 cvX4_125 okX4_bearerFor rfl (Nat.le_of_ble_eq_true rfl) (lxB hL0) (lx2 hL0) (lxN hL0) hci_4 (Nat.le_of_ble_eq_true rfl) (Nat.le_of_ble_eq_true rfl) (pX4_bearerFor hL0 (a1) (a2) o6 ⟨rfl, rfl⟩) (fun zv9 wm9 hq9 => ?_)
  obtain ⟨rfl, rfl⟩ := hq9
  refine JT_istore (lv' := [(4, .int (vX4_bearerFor (pI s (L0 + 7) (a3).toNatClampNeg ((gI s (L0 + 7) (a3).toNatClampNeg) - a2)) L0 P0 a1 a2)), (0, .ref L0), (1, .int a1), (2, .int a2), (3, .int a3)]) dX4_debtBearerFor_16 (Nat.le_of_ble_eq_true rfl) rfl ?_
  refine JT_aload_n (q := 1) dX4_debtBearerFor_18 rfl rfl ?_
  refine JS_getR (x := (L0 + 7)) dX4_debtBearerFor_19 flX4_30 (lxB hL0) (lx2 hL0) (lxN hL0) (Or.inr ⟨_, ct_4_6⟩) (lxR6 hL0) ?_
  refine JT_iload_n (q := 4) dX4_debtBearerFor_22 rfl rfl ?_
  refine JT_dup2 dX4_debtBearerFor_23 rfl rfl ?_
  obtain ⟨o3, h⟩ := h
  refine JS_iald dX4_debtBearerFor_24 (lxB7 hL0) (lx2k hL0 _) (lxNk hL0 (Nat.le_of_ble_eq_true rfl)) o3 ?_
  refine JT_iload_n (q := 3) dX4_debtBearerFor_25 rfl rfl ?_
  refine JT_iadd dX4_debtBearerFor_26 ?_
  obtain ⟨o4, h⟩ := h
  refine JS_iast dX4_debtBearerFor_27 (lxB7 hL0) (lx2k hL0 _) (lxNk hL0 (Nat.le_of_ble_eq_true rfl)) o4 ?_
  obtain ⟨s5, hs5⟩ : ∃ z, z = (pI (pI s (L0 + 7) (a3).toNatClampNeg ((gI s (L0 + 7) (a3).toNatClampNeg) - a2)) (L0 + 7) (a3).toNatClampNeg ((gI (pI s (L0 + 7) (a3).toNatClampNeg ((gI s (L0 + 7) (a3).toNatClampNeg) - a2)) (L0 + 7) (a3).toNatClampNeg) + a2)) := ⟨_, rfl⟩
  replace h := h s5 hs5
  rw [← hs5]
  refine JT_iload (q := 0) dX4_debtBearerFor_28 rfl ?_
  exact JS_iret dX4_debtBearerFor_30 rfl rfl h
set_option maxRecDepth 20000 in
def vX4_debtBearerFor (s : SM) (L0 P0 : Nat) (a1 : Int32) (a2 : Int32) (a3 : Int32) : Int32 := (vX4_bearerFor (pI s (L0 + 7) (a3).toNatClampNeg ((gI s (L0 + 7) (a3).toNatClampNeg) - a2)) L0 P0 a1 a2)
set_option maxRecDepth 20000 in
def mX4_debtBearerFor (s : SM) (L0 P0 : Nat) (a1 : Int32) (a2 : Int32) (a3 : Int32) : SM := ((fun (s5 : SM) => s5) (pI (pI s (L0 + 7) (a3).toNatClampNeg ((gI s (L0 + 7) (a3).toNatClampNeg) - a2)) (L0 + 7) (a3).toNatClampNeg ((gI (pI s (L0 + 7) (a3).toNatClampNeg ((gI s (L0 + 7) (a3).toNatClampNeg) - a2)) (L0 + 7) (a3).toNatClampNeg) + a2)))
set_option maxRecDepth 20000 in
def rX4_debtBearerFor (s : SM) (L0 P0 : Nat) (a1 : Int32) (a2 : Int32) (a3 : Int32) : Prop := vp_in a3 9 ∧ vp_in a3 9 ∧ rX4_bearerFor (pI s (L0 + 7) (a3).toNatClampNeg ((gI s (L0 + 7) (a3).toNatClampNeg) - a2)) L0 P0 a1 a2 ∧ vp_in a3 9 ∧ vp_in a3 9
set_option maxRecDepth 20000 in
theorem pX4_debtBearerFor {L0 P0 : Nat} (hL0 : (L0, P0) ∈ LX) (a1 : Int32) (a2 : Int32) (a3 : Int32) {s : SM} {Q : Int32 → SM → Prop} (hr : rX4_debtBearerFor s L0 P0 a1 a2 a3) (h : Q (vX4_debtBearerFor s L0 P0 a1 a2 a3) (mX4_debtBearerFor s L0 P0 a1 a2 a3)) : KI MX4_debtBearerFor 2 [.ref L0, .int a1, .int a2, .int a3] s Q := by
  refine bX4_debtBearerFor hL0 a1 a2 a3 ?_
  unfold rX4_debtBearerFor at hr
  unfold vX4_debtBearerFor mX4_debtBearerFor at h
  refine ⟨hr.1, ?_⟩
  replace hr := hr.2
  refine ⟨hr.1, ?_⟩
  replace hr := hr.2
  refine ⟨hr.1, ?_⟩
  replace hr := hr.2
  refine ⟨hr.1, ?_⟩
  replace hr := hr.2
  refine ⟨hr, ?_⟩
  intro s5 e9
  subst e9
  first | exact h | contradiction
set_option maxRecDepth 20000 in
theorem bX4_freedBy_4 {L0 P0 : Nat} (hL0 : (L0, P0) ∈ LX) (a1 : Int32) (a2 : Int32) (a3 : Int32) {s : SM} {Q : Int32 → SM → Prop} (h : (((1 : Int32) < a3 → Q a2 s) ∧ (¬ (1 : Int32) < a3 → rX4_bearer s L0 P0 a1 a3 ∧ ((¬ (vX4_isBuried s L0 P0 (vX4_bearer s L0 P0 a1 a3)) = 0 → BI MX4_freedBy 2 4 [(0, .ref L0), (1, .int a1), (2, .int a2), (3, .int (a3 + 1))] s Q) ∧ ((vX4_isBuried s L0 P0 (vX4_bearer s L0 P0 a1 a3)) = 0 → vp_in a1 60 ∧ vp_in (gI s (L0 + 4) (a1).toNatClampNeg) 6 ∧ vp_in a1 60 ∧ rX6_dotOn s P0 (gI s (L0 + 4) (a1).toNatClampNeg) ∧ BI MX4_freedBy 2 4 [(0, .ref L0), (1, .int a1), (2, .int (a2 + ((gI s (P0 + 5) ((gI s (L0 + 4) (a1).toNatClampNeg)).toNatClampNeg) - (vX6_dotOn s P0 (gI s (L0 + 4) (a1).toNatClampNeg))))), (3, .int (a3 + 1))] s Q))))) : BI MX4_freedBy 2 4 [(0, .ref L0), (1, .int a1), (2, .int a2), (3, .int a3)] s Q := by
  refine JT_iload_n (q := 3) dX4_freedBy_4 rfl rfl ?_
  refine JT_iconst (v := 1) dX4_freedBy_5 ic_1 ?_
  refine JT_icmp_gt (tgt := 59) dX4_freedBy_6 (by decide) (fun hc8 => ?_) (fun hc8 => ?_)
  · have h := h.1 hc8
    refine JT_iload_n (q := 2) dX4_freedBy_59 rfl rfl ?_
    exact JS_iret dX4_freedBy_60 rfl rfl h
  · have h := h.2 hc8
    refine JT_aload_n (q := 0) dX4_freedBy_9 rfl rfl ?_
    refine JT_aload_n (q := 0) dX4_freedBy_10 rfl rfl ?_
    refine JT_iload_n (q := 1) dX4_freedBy_11 rfl rfl ?_
    refine JT_iload_n (q := 3) dX4_freedBy_12 rfl rfl ?_
    obtain ⟨o7, h⟩ := h
    refine JS_callVI (M' := MX4_bearer) (d' := 0) (As := [.int a1, .int a3]) (rest := [.ref L0]) (P := (fun zv9 wm9 => (vX4_bearer s L0 P0 a1 a3) = zv9 ∧ s = wm9)) dX4_freedBy_13 cvX4_78 okX4_bearer rfl (Nat.le_of_ble_eq_true rfl) (lxB hL0) (lx2 hL0) (lxN hL0) hci_4 (Nat.le_of_ble_eq_true rfl) (Nat.le_of_ble_eq_true rfl) (pX4_bearer hL0 (a1) (a3) o7 ⟨rfl, rfl⟩) (fun zv9 wm9 hq9 => ?_)
    obtain ⟨rfl, rfl⟩ := hq9
    refine JS_callVI (M' := MX4_isBuried) (d' := 1) (As := [.int (vX4_bearer s L0 P0 a1 a3)]) (rest := []) (P := (fun zv9 wm9 => (vX4_isBuried s L0 P0 (vX4_bearer s L0 P0 a1 a3)) = zv9 ∧ s = wm9)) dX4_freedBy_16 cvX4_141 okX4_isBuried rfl (Nat.le_of_ble_eq_true rfl) (lxB hL0) (lx2 hL0) (lxN hL0) hci_4 (Nat.le_of_ble_eq_true rfl) (Nat.le_of_ble_eq_true rfl) (pX4_isBuried hL0 ((vX4_bearer s L0 P0 a1 a3))  ⟨rfl, rfl⟩) (fun zv9 wm9 hq9 => ?_)
    obtain ⟨rfl, rfl⟩ := hq9
    refine JT_if_ne (tgt := 53) dX4_freedBy_19 (by decide) (fun hc5 => ?_) (fun hc5 => ?_)
    · have h := h.1 hc5
      refine JT_iinc (q := 3) (v := (a3 + 1)) (lv' := [(3, .int (a3 + 1)), (0, .ref L0), (1, .int a1), (2, .int a2)]) dX4_freedBy_53 rfl (by rfl) (Nat.le_of_ble_eq_true rfl) rfl ?_
      refine JT_goto (tgt := 4) dX4_freedBy_56 (by decide) ?_
      exact JT_sub [1, 2, 3, 0] rfl h
    · have h := h.2 hc5
      refine JT_iload_n (q := 2) dX4_freedBy_22 rfl rfl ?_
      refine JT_aload_n (q := 0) dX4_freedBy_23 rfl rfl ?_
      refine JS_getR (x := P0) dX4_freedBy_24 flX4_45 (lxB hL0) (lx2 hL0) (lxN hL0) (Or.inl ⟨_, ct_4_8⟩) (lxR8 hL0) ?_
      refine JS_getR (x := (P0 + 5)) dX4_freedBy_27 flX4_128 (pxB (lxP hL0)) (px2 (lxP hL0)) (pxN (lxP hL0)) (Or.inr ⟨_, ct_6_4⟩) (pxR4 (lxP hL0)) ?_
      refine JT_aload_n (q := 0) dX4_freedBy_30 rfl rfl ?_
      refine JS_getR (x := (L0 + 4)) dX4_freedBy_31 flX4_21 (lxB hL0) (lx2 hL0) (lxN hL0) (Or.inr ⟨_, ct_4_3⟩) (lxR3 hL0) ?_
      refine JT_iload_n (q := 1) dX4_freedBy_34 rfl rfl ?_
      obtain ⟨o1, h⟩ := h
      refine JS_iald dX4_freedBy_35 (lxB4 hL0) (lx2k hL0 _) (lxNk hL0 (Nat.le_of_ble_eq_true rfl)) o1 ?_
      obtain ⟨o2, h⟩ := h
      refine JS_iald dX4_freedBy_36 (pxB5 (lxP hL0)) (px2k (lxP hL0) _) (pxNk (lxP hL0) (Nat.le_of_ble_eq_true rfl)) o2 ?_
      refine JT_aload_n (q := 0) dX4_freedBy_37 rfl rfl ?_
      refine JS_getR (x := P0) dX4_freedBy_38 flX4_45 (lxB hL0) (lx2 hL0) (lxN hL0) (Or.inl ⟨_, ct_4_8⟩) (lxR8 hL0) ?_
      refine JT_aload_n (q := 0) dX4_freedBy_41 rfl rfl ?_
      refine JS_getR (x := (L0 + 4)) dX4_freedBy_42 flX4_21 (lxB hL0) (lx2 hL0) (lxN hL0) (Or.inr ⟨_, ct_4_3⟩) (lxR3 hL0) ?_
      refine JT_iload_n (q := 1) dX4_freedBy_45 rfl rfl ?_
      obtain ⟨o3, h⟩ := h
      refine JS_iald dX4_freedBy_46 (lxB4 hL0) (lx2k hL0 _) (lxNk hL0 (Nat.le_of_ble_eq_true rfl)) o3 ?_
      obtain ⟨o4, h⟩ := h
      refine JS_callVI (M' := MX6_dotOn) (d' := 1) (As := [.int (gI s (L0 + 4) (a1).toNatClampNeg)]) (rest := [.int (gI s (P0 + 5) ((gI s (L0 + 4) (a1).toNatClampNeg)).toNatClampNeg), .int a2]) (P := (fun zv9 wm9 => (vX6_dotOn s P0 (gI s (L0 + 4) (a1).toNatClampNeg)) = zv9 ∧ s = wm9)) dX4_freedBy_47 cvX4_151 okX6_dotOn rfl (Nat.le_of_ble_eq_true rfl) (pxB (lxP hL0)) (px2 (lxP hL0)) (pxN (lxP hL0)) hci_6 (Nat.le_of_ble_eq_true rfl) (Nat.le_of_ble_eq_true rfl) (pX6_dotOn (lxP hL0) ((gI s (L0 + 4) (a1).toNatClampNeg)) o4 ⟨rfl, rfl⟩) (fun zv9 wm9 hq9 => ?_)
      obtain ⟨rfl, rfl⟩ := hq9
      refine JT_isub dX4_freedBy_50 ?_
      refine JT_iadd dX4_freedBy_51 ?_
      refine JT_istore_n (lv' := [(2, .int (a2 + ((gI s (P0 + 5) ((gI s (L0 + 4) (a1).toNatClampNeg)).toNatClampNeg) - (vX6_dotOn s P0 (gI s (L0 + 4) (a1).toNatClampNeg))))), (0, .ref L0), (1, .int a1), (3, .int a3)]) dX4_freedBy_52 rfl (Nat.le_of_ble_eq_true rfl) rfl ?_
      refine JT_iinc (q := 3) (v := (a3 + 1)) (lv' := [(3, .int (a3 + 1)), (2, .int (a2 + ((gI s (P0 + 5) ((gI s (L0 + 4) (a1).toNatClampNeg)).toNatClampNeg) - (vX6_dotOn s P0 (gI s (L0 + 4) (a1).toNatClampNeg))))), (0, .ref L0), (1, .int a1)]) dX4_freedBy_53 rfl (by rfl) (Nat.le_of_ble_eq_true rfl) rfl ?_
      refine JT_goto (tgt := 4) dX4_freedBy_56 (by decide) ?_
      exact JT_sub [2, 3, 1, 0] rfl h
set_option maxRecDepth 20000 in
theorem bX4_freedBy {L0 P0 : Nat} (hL0 : (L0, P0) ∈ LX) (a1 : Int32) {s : SM} {Q : Int32 → SM → Prop} (h : BI MX4_freedBy 2 4 [(0, .ref L0), (1, .int a1), (2, .int (0 : Int32)), (3, .int (0 : Int32))] s Q) : KI MX4_freedBy 2 [.ref L0, .int a1] s Q := by
  show BI MX4_freedBy 2 0 [(0, .ref L0), (1, .int a1)] s Q
  refine JT_iconst (v := 0) dX4_freedBy_0 ic_0 ?_
  refine JT_istore_n (lv' := [(2, .int (0 : Int32)), (0, .ref L0), (1, .int a1)]) dX4_freedBy_1 rfl (Nat.le_of_ble_eq_true rfl) rfl ?_
  refine JT_iconst (v := 0) dX4_freedBy_2 ic_0 ?_
  refine JT_istore_n (lv' := [(3, .int (0 : Int32)), (2, .int (0 : Int32)), (0, .ref L0), (1, .int a1)]) dX4_freedBy_3 rfl (Nat.le_of_ble_eq_true rfl) rfl ?_
  exact JT_sub [2, 3, 1, 0] rfl h
set_option maxRecDepth 20000 in
theorem bX4_hasRoomForLines_43 {L0 P0 : Nat} (hL0 : (L0, P0) ∈ LX) (a1 : Int32) (a2 : Int32) (a3 : Int32) {s : SM} {Q : Int32 → SM → Prop} (h : ((¬ (vX4_isBuried s L0 P0 a2) = 0 → Q (1 : Int32) s) ∧ ((vX4_isBuried s L0 P0 a2) = 0 → vp_in a2 9 ∧ Q (if (gI s (L0 + 7) (a2).toNatClampNeg) < a3 then (0 : Int32) else (1 : Int32)) s))) : BI MX4_hasRoomForLines 2 43 [(0, .ref L0), (1, .int a1), (2, .int a2), (3, .int a3)] s Q := by
  refine JT_aload_n (q := 0) dX4_hasRoomForLines_43 rfl rfl ?_
  refine JT_iload_n (q := 2) dX4_hasRoomForLines_44 rfl rfl ?_
  refine JS_callVI (M' := MX4_isBuried) (d' := 1) (As := [.int a2]) (rest := []) (P := (fun zv9 wm9 => (vX4_isBuried s L0 P0 a2) = zv9 ∧ s = wm9)) dX4_hasRoomForLines_45 cvX4_141 okX4_isBuried rfl (Nat.le_of_ble_eq_true rfl) (lxB hL0) (lx2 hL0) (lxN hL0) hci_4 (Nat.le_of_ble_eq_true rfl) (Nat.le_of_ble_eq_true rfl) (pX4_isBuried hL0 (a2)  ⟨rfl, rfl⟩) (fun zv9 wm9 hq9 => ?_)
  obtain ⟨rfl, rfl⟩ := hq9
  refine JT_if_ne (tgt := 61) dX4_hasRoomForLines_48 (by decide) (fun hc4 => ?_) (fun hc4 => ?_)
  · have h := h.1 hc4
    refine JT_iconst (v := 1) dX4_hasRoomForLines_61 ic_1 ?_
    refine JT_goto (tgt := 66) dX4_hasRoomForLines_62 (by decide) ?_
    exact JS_iret dX4_hasRoomForLines_66 rfl (n01 (Or.inr rfl)) h
  · have h := h.2 hc4
    refine JT_aload_n (q := 0) dX4_hasRoomForLines_51 rfl rfl ?_
    refine JS_getR (x := (L0 + 7)) dX4_hasRoomForLines_52 flX4_30 (lxB hL0) (lx2 hL0) (lxN hL0) (Or.inr ⟨_, ct_4_6⟩) (lxR6 hL0) ?_
    refine JT_iload_n (q := 2) dX4_hasRoomForLines_55 rfl rfl ?_
    obtain ⟨o1, h⟩ := h
    refine JS_iald dX4_hasRoomForLines_56 (lxB7 hL0) (lx2k hL0 _) (lxNk hL0 (Nat.le_of_ble_eq_true rfl)) o1 ?_
    refine JT_iload_n (q := 3) dX4_hasRoomForLines_57 rfl rfl ?_
    have hj2 : ∀ v : Int32, v = (if (gI s (L0 + 7) (a2).toNatClampNeg) < a3 then (0 : Int32) else (1 : Int32)) → JT MX4_hasRoomForLines 2 0 0 66 [(0, .ref L0), (1, .int a1), (2, .int a2), (3, .int a3)] [.int v] (std s) (KQ Q) := by
      intro v hv
      subst hv
      exact JS_iret dX4_hasRoomForLines_66 rfl (n01 (i01 (Or.inl rfl) (Or.inr rfl))) h
    refine JT_icmp_lt (tgt := 65) dX4_hasRoomForLines_58 (by decide) (fun hc3 => ?_) (fun hc3 => ?_)
    · refine JT_iconst (v := 0) dX4_hasRoomForLines_65 ic_0 ?_
      exact hj2 _ (by rw [if_pos hc3])
    · refine JT_iconst (v := 1) dX4_hasRoomForLines_61 ic_1 ?_
      refine JT_goto (tgt := 66) dX4_hasRoomForLines_62 (by decide) ?_
      exact hj2 _ (by rw [if_neg hc3])
set_option maxRecDepth 20000 in
theorem bX4_hasRoomForLines {L0 P0 : Nat} (hL0 : (L0, P0) ∈ LX) (a1 : Int32) (a2 : Int32) {s : SM} {Q : Int32 → SM → Prop} (h : ((¬ a1 = a2 → ((¬ (vX4_isBuried s L0 P0 a1) = 0 → BI MX4_hasRoomForLines 2 43 [(0, .ref L0), (1, .int a1), (2, .int a2), (3, .int (gI s P0 8))] s Q) ∧ ((vX4_isBuried s L0 P0 a1) = 0 → vp_in a1 9 ∧ (((gI s (L0 + 7) (a1).toNatClampNeg) < (gI s P0 8) → Q (0 : Int32) s) ∧ (¬ (gI s (L0 + 7) (a1).toNatClampNeg) < (gI s P0 8) → BI MX4_hasRoomForLines 2 43 [(0, .ref L0), (1, .int a1), (2, .int a2), (3, .int (gI s P0 8))] s Q))))) ∧ (a1 = a2 → ((¬ (vX4_isBuried s L0 P0 a1) = 0 → BI MX4_hasRoomForLines 2 43 [(0, .ref L0), (1, .int a1), (2, .int a2), (3, .int ((2 : Int32) * (gI s P0 8)))] s Q) ∧ ((vX4_isBuried s L0 P0 a1) = 0 → vp_in a1 9 ∧ (((gI s (L0 + 7) (a1).toNatClampNeg) < ((2 : Int32) * (gI s P0 8)) → Q (0 : Int32) s) ∧ (¬ (gI s (L0 + 7) (a1).toNatClampNeg) < ((2 : Int32) * (gI s P0 8)) → BI MX4_hasRoomForLines 2 43 [(0, .ref L0), (1, .int a1), (2, .int a2), (3, .int ((2 : Int32) * (gI s P0 8)))] s Q))))))) : KI MX4_hasRoomForLines 2 [.ref L0, .int a1, .int a2] s Q := by
  show BI MX4_hasRoomForLines 2 0 [(0, .ref L0), (1, .int a1), (2, .int a2)] s Q
  refine JT_iload_n (q := 1) dX4_hasRoomForLines_0 rfl rfl ?_
  refine JT_iload_n (q := 2) dX4_hasRoomForLines_1 rfl rfl ?_
  refine JT_icmp_ne (tgt := 17) dX4_hasRoomForLines_2 (by decide) (fun hc9 => ?_) (fun hc9 => ?_)
  · have h := h.1 hc9
    refine JT_aload_n (q := 0) dX4_hasRoomForLines_17 rfl rfl ?_
    refine JS_getR (x := P0) dX4_hasRoomForLines_18 flX4_45 (lxB hL0) (lx2 hL0) (lxN hL0) (Or.inl ⟨_, ct_4_8⟩) (lxR8 hL0) ?_
    refine JS_getI dX4_hasRoomForLines_21 flX4_138 (pxB (lxP hL0)) (px2 (lxP hL0)) (pxN (lxP hL0)) (Or.inl ct_6_8) ?_
    refine JT_istore_n (lv' := [(3, .int (gI s P0 8)), (0, .ref L0), (1, .int a1), (2, .int a2)]) dX4_hasRoomForLines_24 rfl (Nat.le_of_ble_eq_true rfl) rfl ?_
    refine JT_aload_n (q := 1) dX4_hasRoomForLines_25 rfl rfl ?_
    refine JT_iload_n (q := 2) dX4_hasRoomForLines_26 rfl rfl ?_
    refine JS_callVI (M' := MX4_isBuried) (d' := 1) (As := [.int a1]) (rest := []) (P := (fun zv9 wm9 => (vX4_isBuried s L0 P0 a1) = zv9 ∧ s = wm9)) dX4_hasRoomForLines_27 cvX4_141 okX4_isBuried rfl (Nat.le_of_ble_eq_true rfl) (lxB hL0) (lx2 hL0) (lxN hL0) hci_4 (Nat.le_of_ble_eq_true rfl) (Nat.le_of_ble_eq_true rfl) (pX4_isBuried hL0 (a1)  ⟨rfl, rfl⟩) (fun zv9 wm9 hq9 => ?_)
    obtain ⟨rfl, rfl⟩ := hq9
    refine JT_if_ne (tgt := 43) dX4_hasRoomForLines_30 (by decide) (fun hc3 => ?_) (fun hc3 => ?_)
    · have h := h.1 hc3
      exact JT_sub [1, 2, 3, 0] rfl h
    · have h := h.2 hc3
      refine JT_aload_n (q := 1) dX4_hasRoomForLines_33 rfl rfl ?_
      refine JS_getR (x := (L0 + 7)) dX4_hasRoomForLines_34 flX4_30 (lxB hL0) (lx2 hL0) (lxN hL0) (Or.inr ⟨_, ct_4_6⟩) (lxR6 hL0) ?_
      refine JT_iload_n (q := 2) dX4_hasRoomForLines_37 rfl rfl ?_
      obtain ⟨o1, h⟩ := h
      refine JS_iald dX4_hasRoomForLines_38 (lxB7 hL0) (lx2k hL0 _) (lxNk hL0 (Nat.le_of_ble_eq_true rfl)) o1 ?_
      refine JT_iload_n (q := 0) dX4_hasRoomForLines_39 rfl rfl ?_
      refine JT_icmp_lt (tgt := 65) dX4_hasRoomForLines_40 (by decide) (fun hc2 => ?_) (fun hc2 => ?_)
      · have h := h.1 hc2
        refine JT_iconst (v := 0) dX4_hasRoomForLines_65 ic_0 ?_
        exact JS_iret dX4_hasRoomForLines_66 rfl (n01 (Or.inl rfl)) h
      · have h := h.2 hc2
        exact JT_sub [1, 2, 3, 0] rfl h
  · have h := h.2 hc9
    refine JT_iconst (v := 2) dX4_hasRoomForLines_5 ic_2 ?_
    refine JT_aload_n (q := 0) dX4_hasRoomForLines_6 rfl rfl ?_
    refine JS_getR (x := P0) dX4_hasRoomForLines_7 flX4_45 (lxB hL0) (lx2 hL0) (lxN hL0) (Or.inl ⟨_, ct_4_8⟩) (lxR8 hL0) ?_
    refine JS_getI dX4_hasRoomForLines_10 flX4_138 (pxB (lxP hL0)) (px2 (lxP hL0)) (pxN (lxP hL0)) (Or.inl ct_6_8) ?_
    refine JT_imul dX4_hasRoomForLines_13 ?_
    refine JT_goto (tgt := 24) dX4_hasRoomForLines_14 (by decide) ?_
    refine JT_istore_n (lv' := [(3, .int ((2 : Int32) * (gI s P0 8))), (0, .ref L0), (1, .int a1), (2, .int a2)]) dX4_hasRoomForLines_24 rfl (Nat.le_of_ble_eq_true rfl) rfl ?_
    refine JT_aload_n (q := 1) dX4_hasRoomForLines_25 rfl rfl ?_
    refine JT_iload_n (q := 2) dX4_hasRoomForLines_26 rfl rfl ?_
    refine JS_callVI (M' := MX4_isBuried) (d' := 1) (As := [.int a1]) (rest := []) (P := (fun zv9 wm9 => (vX4_isBuried s L0 P0 a1) = zv9 ∧ s = wm9)) dX4_hasRoomForLines_27 cvX4_141 okX4_isBuried rfl (Nat.le_of_ble_eq_true rfl) (lxB hL0) (lx2 hL0) (lxN hL0) hci_4 (Nat.le_of_ble_eq_true rfl) (Nat.le_of_ble_eq_true rfl) (pX4_isBuried hL0 (a1)  ⟨rfl, rfl⟩) (fun zv9 wm9 hq9 => ?_)
    obtain ⟨rfl, rfl⟩ := hq9
    refine JT_if_ne (tgt := 43) dX4_hasRoomForLines_30 (by decide) (fun hc7 => ?_) (fun hc7 => ?_)
    · have h := h.1 hc7
      exact JT_sub [1, 2, 3, 0] rfl h
    · have h := h.2 hc7
      refine JT_aload_n (q := 1) dX4_hasRoomForLines_33 rfl rfl ?_
      refine JS_getR (x := (L0 + 7)) dX4_hasRoomForLines_34 flX4_30 (lxB hL0) (lx2 hL0) (lxN hL0) (Or.inr ⟨_, ct_4_6⟩) (lxR6 hL0) ?_
      refine JT_iload_n (q := 2) dX4_hasRoomForLines_37 rfl rfl ?_
      obtain ⟨o5, h⟩ := h
      refine JS_iald dX4_hasRoomForLines_38 (lxB7 hL0) (lx2k hL0 _) (lxNk hL0 (Nat.le_of_ble_eq_true rfl)) o5 ?_
      refine JT_iload_n (q := 0) dX4_hasRoomForLines_39 rfl rfl ?_
      refine JT_icmp_lt (tgt := 65) dX4_hasRoomForLines_40 (by decide) (fun hc6 => ?_) (fun hc6 => ?_)
      · have h := h.1 hc6
        refine JT_iconst (v := 0) dX4_hasRoomForLines_65 ic_0 ?_
        exact JS_iret dX4_hasRoomForLines_66 rfl (n01 (Or.inl rfl)) h
      · have h := h.2 hc6
        exact JT_sub [1, 2, 3, 0] rfl h
set_option maxRecDepth 20000 in
theorem bX4_isReadable {L0 P0 : Nat} (hL0 : (L0, P0) ∈ LX) (a1 : Int32) (a2 : Int32) {s : SM} {Q : Int32 → SM → Prop} (h : rX4_unscarredBearer s L0 P0 a1 a2 ∧ (((vX4_unscarredBearer s L0 P0 a1 a2) = (-1 : Int32) → Q (0 : Int32) s) ∧ (¬ (vX4_unscarredBearer s L0 P0 a1 a2) = (-1 : Int32) → Q (if (vX4_lives s L0 P0 (vX4_unscarredBearer s L0 P0 a1 a2)) = 0 then (0 : Int32) else (1 : Int32)) s))) : KI MX4_isReadable 2 [.ref L0, .int a1, .int a2] s Q := by
  show BI MX4_isReadable 2 0 [(0, .ref L0), (1, .int a1), (2, .int a2)] s Q
  refine JT_aload_n (q := 0) dX4_isReadable_0 rfl rfl ?_
  refine JT_iload_n (q := 1) dX4_isReadable_1 rfl rfl ?_
  refine JT_iload_n (q := 2) dX4_isReadable_2 rfl rfl ?_
  obtain ⟨o5, h⟩ := h
  refine JS_callVI (M' := MX4_unscarredBearer) (d' := 1) (As := [.int a1, .int a2]) (rest := []) (P := (fun zv9 wm9 => (vX4_unscarredBearer s L0 P0 a1 a2) = zv9 ∧ s = wm9)) dX4_isReadable_3 cvX4_82 okX4_unscarredBearer rfl (Nat.le_of_ble_eq_true rfl) (lxB hL0) (lx2 hL0) (lxN hL0) hci_4 (Nat.le_of_ble_eq_true rfl) (Nat.le_of_ble_eq_true rfl) (pX4_unscarredBearer hL0 (a1) (a2) o5 ⟨rfl, rfl⟩) (fun zv9 wm9 hq9 => ?_)
  obtain ⟨rfl, rfl⟩ := hq9
  refine JT_istore_n (lv' := [(3, .int (vX4_unscarredBearer s L0 P0 a1 a2)), (0, .ref L0), (1, .int a1), (2, .int a2)]) dX4_isReadable_6 rfl (Nat.le_of_ble_eq_true rfl) rfl ?_
  refine JT_iload_n (q := 0) dX4_isReadable_7 rfl rfl ?_
  refine JT_iconst (v := -1) dX4_isReadable_8 ic_m1 ?_
  refine JT_icmp_eq (tgt := 24) dX4_isReadable_9 (by decide) (fun hc4 => ?_) (fun hc4 => ?_)
  · have h := h.1 hc4
    refine JT_iconst (v := 0) dX4_isReadable_24 ic_0 ?_
    exact JS_iret dX4_isReadable_25 rfl (n01 (Or.inl rfl)) h
  · have h := h.2 hc4
    refine JT_aload_n (q := 1) dX4_isReadable_12 rfl rfl ?_
    refine JT_iload_n (q := 0) dX4_isReadable_13 rfl rfl ?_
    refine JS_callVI (M' := MX4_lives) (d' := 0) (As := [.int (vX4_unscarredBearer s L0 P0 a1 a2)]) (rest := []) (P := (fun zv9 wm9 => (vX4_lives s L0 P0 (vX4_unscarredBearer s L0 P0 a1 a2)) = zv9 ∧ s = wm9)) dX4_isReadable_14 cvX4_85 okX4_lives rfl (Nat.le_of_ble_eq_true rfl) (lxB hL0) (lx2 hL0) (lxN hL0) hci_4 (Nat.le_of_ble_eq_true rfl) (Nat.le_of_ble_eq_true rfl) (pX4_lives hL0 ((vX4_unscarredBearer s L0 P0 a1 a2))  ⟨rfl, rfl⟩) (fun zv9 wm9 hq9 => ?_)
    obtain ⟨rfl, rfl⟩ := hq9
    have hj1 : ∀ v : Int32, v = (if (vX4_lives s L0 P0 (vX4_unscarredBearer s L0 P0 a1 a2)) = 0 then (0 : Int32) else (1 : Int32)) → JT MX4_isReadable 2 0 0 25 [(3, .int (vX4_unscarredBearer s L0 P0 a1 a2)), (0, .ref L0), (1, .int a1), (2, .int a2)] [.int v] (std s) (KQ Q) := by
      intro v hv
      subst hv
      exact JS_iret dX4_isReadable_25 rfl (n01 (i01 (Or.inl rfl) (Or.inr rfl))) h
    refine JT_if_eq (tgt := 24) dX4_isReadable_17 (by decide) (fun hc2 => ?_) (fun hc2 => ?_)
    · refine JT_iconst (v := 0) dX4_isReadable_24 ic_0 ?_
      exact hj1 _ (by rw [if_pos hc2])
    · refine JT_iconst (v := 1) dX4_isReadable_20 ic_1 ?_
      refine JT_goto (tgt := 25) dX4_isReadable_21 (by decide) ?_
      exact hj1 _ (by rw [if_neg hc2])
set_option maxRecDepth 20000 in
def vX4_isReadable (s : SM) (L0 P0 : Nat) (a1 : Int32) (a2 : Int32) : Int32 := (if (vX4_unscarredBearer s L0 P0 a1 a2) = (-1 : Int32) then (0 : Int32) else (if (vX4_lives s L0 P0 (vX4_unscarredBearer s L0 P0 a1 a2)) = 0 then (0 : Int32) else (1 : Int32)))
set_option maxRecDepth 20000 in
def rX4_isReadable (s : SM) (L0 P0 : Nat) (a1 : Int32) (a2 : Int32) : Prop := rX4_unscarredBearer s L0 P0 a1 a2
set_option maxRecDepth 20000 in
theorem zX4_isReadable (s : SM) (L0 P0 : Nat) (a1 : Int32) (a2 : Int32) : vX4_isReadable s L0 P0 a1 a2 = 0 ∨ vX4_isReadable s L0 P0 a1 a2 = 1 := (i01 (Or.inl rfl) (i01 (Or.inl rfl) (Or.inr rfl)))
set_option maxRecDepth 20000 in
theorem pX4_isReadable {L0 P0 : Nat} (hL0 : (L0, P0) ∈ LX) (a1 : Int32) (a2 : Int32) {s : SM} {Q : Int32 → SM → Prop} (hr : rX4_isReadable s L0 P0 a1 a2) (h : Q (vX4_isReadable s L0 P0 a1 a2) s) : KI MX4_isReadable 2 [.ref L0, .int a1, .int a2] s Q := by
  refine bX4_isReadable hL0 a1 a2 ?_
  unfold rX4_isReadable at hr
  unfold vX4_isReadable at h
  refine ⟨hr, ?_⟩
  refine ⟨fun c => ?_, fun c => ?_⟩
  · try simp only [if_pos c] at h
    first | exact h | contradiction
  · try simp only [if_neg c] at h
    first | exact h | contradiction
set_option maxRecDepth 20000 in
theorem bX4_isToldBy {L0 P0 : Nat} (hL0 : (L0, P0) ∈ LX) (a1 : Int32) (a2 : Int32) (a3 : Int32) {s : SM} {Q : Int32 → SM → Prop} (h : rX4_unscarredBearer s L0 P0 a1 a2 ∧ (((vX4_unscarredBearer s L0 P0 a1 a2) = (-1 : Int32) → Q (0 : Int32) s) ∧ (¬ (vX4_unscarredBearer s L0 P0 a1 a2) = (-1 : Int32) → Q (if (vX11_isIn s (vX4_unscarredBearer s L0 P0 a1 a2) a3) = 0 then (0 : Int32) else (1 : Int32)) s))) : KI MX4_isToldBy 2 [.ref L0, .int a1, .int a2, .int a3] s Q := by
  show BI MX4_isToldBy 2 0 [(0, .ref L0), (1, .int a1), (2, .int a2), (3, .int a3)] s Q
  refine JT_aload_n (q := 0) dX4_isToldBy_0 rfl rfl ?_
  refine JT_iload_n (q := 1) dX4_isToldBy_1 rfl rfl ?_
  refine JT_iload_n (q := 2) dX4_isToldBy_2 rfl rfl ?_
  obtain ⟨o5, h⟩ := h
  refine JS_callVI (M' := MX4_unscarredBearer) (d' := 1) (As := [.int a1, .int a2]) (rest := []) (P := (fun zv9 wm9 => (vX4_unscarredBearer s L0 P0 a1 a2) = zv9 ∧ s = wm9)) dX4_isToldBy_3 cvX4_82 okX4_unscarredBearer rfl (Nat.le_of_ble_eq_true rfl) (lxB hL0) (lx2 hL0) (lxN hL0) hci_4 (Nat.le_of_ble_eq_true rfl) (Nat.le_of_ble_eq_true rfl) (pX4_unscarredBearer hL0 (a1) (a2) o5 ⟨rfl, rfl⟩) (fun zv9 wm9 hq9 => ?_)
  obtain ⟨rfl, rfl⟩ := hq9
  refine JT_istore (lv' := [(4, .int (vX4_unscarredBearer s L0 P0 a1 a2)), (0, .ref L0), (1, .int a1), (2, .int a2), (3, .int a3)]) dX4_isToldBy_6 (Nat.le_of_ble_eq_true rfl) rfl ?_
  refine JT_iload (q := 0) dX4_isToldBy_8 rfl ?_
  refine JT_iconst (v := -1) dX4_isToldBy_10 ic_m1 ?_
  refine JT_icmp_eq (tgt := 27) dX4_isToldBy_11 (by decide) (fun hc4 => ?_) (fun hc4 => ?_)
  · have h := h.1 hc4
    refine JT_iconst (v := 0) dX4_isToldBy_27 ic_0 ?_
    exact JS_iret dX4_isToldBy_28 rfl (n01 (Or.inl rfl)) h
  · have h := h.2 hc4
    refine JT_iload (q := 0) dX4_isToldBy_14 rfl ?_
    refine JT_iload_n (q := 4) dX4_isToldBy_16 rfl rfl ?_
    refine JS_callSNI (M' := MX11_isIn) (d' := 0) (As := [.int (vX4_unscarredBearer s L0 P0 a1 a2), .int a3]) (rest := []) (P := (fun zv9 wm9 => (vX11_isIn s (vX4_unscarredBearer s L0 P0 a1 a2) a3) = zv9 ∧ s = wm9)) dX4_isToldBy_17 cvX4_74 okX11_isIn rfl (Nat.le_of_ble_eq_true rfl) (Nat.le_of_ble_eq_true rfl) (Nat.le_of_ble_eq_true rfl) (pX11_isIn  ((vX4_unscarredBearer s L0 P0 a1 a2)) (a3)  ⟨rfl, rfl⟩) (fun zv9 wm9 hq9 => ?_)
    obtain ⟨rfl, rfl⟩ := hq9
    have hj1 : ∀ v : Int32, v = (if (vX11_isIn s (vX4_unscarredBearer s L0 P0 a1 a2) a3) = 0 then (0 : Int32) else (1 : Int32)) → JT MX4_isToldBy 2 0 0 28 [(4, .int (vX4_unscarredBearer s L0 P0 a1 a2)), (0, .ref L0), (1, .int a1), (2, .int a2), (3, .int a3)] [.int v] (std s) (KQ Q) := by
      intro v hv
      subst hv
      exact JS_iret dX4_isToldBy_28 rfl (n01 (i01 (Or.inl rfl) (Or.inr rfl))) h
    refine JT_if_eq (tgt := 27) dX4_isToldBy_20 (by decide) (fun hc2 => ?_) (fun hc2 => ?_)
    · refine JT_iconst (v := 0) dX4_isToldBy_27 ic_0 ?_
      exact hj1 _ (by rw [if_pos hc2])
    · refine JT_iconst (v := 1) dX4_isToldBy_23 ic_1 ?_
      refine JT_goto (tgt := 28) dX4_isToldBy_24 (by decide) ?_
      exact hj1 _ (by rw [if_neg hc2])
set_option maxRecDepth 20000 in
def vX4_isToldBy (s : SM) (L0 P0 : Nat) (a1 : Int32) (a2 : Int32) (a3 : Int32) : Int32 := (if (vX4_unscarredBearer s L0 P0 a1 a2) = (-1 : Int32) then (0 : Int32) else (if (vX11_isIn s (vX4_unscarredBearer s L0 P0 a1 a2) a3) = 0 then (0 : Int32) else (1 : Int32)))
set_option maxRecDepth 20000 in
def rX4_isToldBy (s : SM) (L0 P0 : Nat) (a1 : Int32) (a2 : Int32) (a3 : Int32) : Prop := rX4_unscarredBearer s L0 P0 a1 a2
set_option maxRecDepth 20000 in
theorem zX4_isToldBy (s : SM) (L0 P0 : Nat) (a1 : Int32) (a2 : Int32) (a3 : Int32) : vX4_isToldBy s L0 P0 a1 a2 a3 = 0 ∨ vX4_isToldBy s L0 P0 a1 a2 a3 = 1 := (i01 (Or.inl rfl) (i01 (Or.inl rfl) (Or.inr rfl)))
set_option maxRecDepth 20000 in
theorem pX4_isToldBy {L0 P0 : Nat} (hL0 : (L0, P0) ∈ LX) (a1 : Int32) (a2 : Int32) (a3 : Int32) {s : SM} {Q : Int32 → SM → Prop} (hr : rX4_isToldBy s L0 P0 a1 a2 a3) (h : Q (vX4_isToldBy s L0 P0 a1 a2 a3) s) : KI MX4_isToldBy 2 [.ref L0, .int a1, .int a2, .int a3] s Q := by
  refine bX4_isToldBy hL0 a1 a2 a3 ?_
  unfold rX4_isToldBy at hr
  unfold vX4_isToldBy at h
  refine ⟨hr, ?_⟩
  refine ⟨fun c => ?_, fun c => ?_⟩
  · try simp only [if_pos c] at h
    first | exact h | contradiction
  · try simp only [if_neg c] at h
    first | exact h | contradiction
set_option maxRecDepth 20000 in
theorem bX4_latestOpen_7 {L0 P0 : Nat} (hL0 : (L0, P0) ∈ LX) (a1 : Int32) (a2 : Int32) {s : SM} {Q : Int32 → SM → Prop} (h : ((a2 < a1 → Q (-1 : Int32) s) ∧ (¬ a2 < a1 → rX4_isOpen s L0 P0 a2 ∧ (((vX4_isOpen s L0 P0 a2) = 0 → BI MX4_latestOpen 2 7 [(0, .ref L0), (1, .int a1), (2, .int (a2 + (-1)))] s Q) ∧ (¬ (vX4_isOpen s L0 P0 a2) = 0 → Q a2 s))))) : BI MX4_latestOpen 2 7 [(0, .ref L0), (1, .int a1), (2, .int a2)] s Q := by
  refine JT_iload_n (q := 2) dX4_latestOpen_7 rfl rfl ?_
  refine JT_iload_n (q := 1) dX4_latestOpen_8 rfl rfl ?_
  refine JT_icmp_lt (tgt := 28) dX4_latestOpen_9 (by decide) (fun hc3 => ?_) (fun hc3 => ?_)
  · have h := h.1 hc3
    refine JT_iconst (v := -1) dX4_latestOpen_28 ic_m1 ?_
    exact JS_iret dX4_latestOpen_29 rfl rfl h
  · have h := h.2 hc3
    refine JT_aload_n (q := 0) dX4_latestOpen_12 rfl rfl ?_
    refine JT_iload_n (q := 2) dX4_latestOpen_13 rfl rfl ?_
    obtain ⟨o2, h⟩ := h
    refine JS_callVI (M' := MX4_isOpen) (d' := 1) (As := [.int a2]) (rest := []) (P := (fun zv9 wm9 => (vX4_isOpen s L0 P0 a2) = zv9 ∧ s = wm9)) dX4_latestOpen_14 cvX4_94 okX4_isOpen rfl (Nat.le_of_ble_eq_true rfl) (lxB hL0) (lx2 hL0) (lxN hL0) hci_4 (Nat.le_of_ble_eq_true rfl) (Nat.le_of_ble_eq_true rfl) (pX4_isOpen hL0 (a2) o2 ⟨rfl, rfl⟩) (fun zv9 wm9 hq9 => ?_)
    obtain ⟨rfl, rfl⟩ := hq9
    refine JT_if_eq (tgt := 22) dX4_latestOpen_17 (by decide) (fun hc1 => ?_) (fun hc1 => ?_)
    · have h := h.1 hc1
      refine JT_iinc (q := 2) (v := (a2 + (-1))) (lv' := [(2, .int (a2 + (-1))), (0, .ref L0), (1, .int a1)]) dX4_latestOpen_22 rfl (by rfl) (Nat.le_of_ble_eq_true rfl) rfl ?_
      refine JT_goto (tgt := 7) dX4_latestOpen_25 (by decide) ?_
      exact JT_sub [1, 2, 0] rfl h
    · have h := h.2 hc1
      refine JT_iload_n (q := 2) dX4_latestOpen_20 rfl rfl ?_
      exact JS_iret dX4_latestOpen_21 rfl rfl h
set_option maxRecDepth 20000 in
theorem bX4_latestOpen {L0 P0 : Nat} (hL0 : (L0, P0) ∈ LX) (a1 : Int32) {s : SM} {Q : Int32 → SM → Prop} (h : BI MX4_latestOpen 2 7 [(0, .ref L0), (1, .int a1), (2, .int ((gI s L0 9) - (1 : Int32)))] s Q) : KI MX4_latestOpen 2 [.ref L0, .int a1] s Q := by
  show BI MX4_latestOpen 2 0 [(0, .ref L0), (1, .int a1)] s Q
  refine JT_aload_n (q := 0) dX4_latestOpen_0 rfl rfl ?_
  refine JS_getI dX4_latestOpen_1 flX4_49 (lxB hL0) (lx2 hL0) (lxN hL0) (Or.inl ct_4_9) ?_
  refine JT_iconst (v := 1) dX4_latestOpen_4 ic_1 ?_
  refine JT_isub dX4_latestOpen_5 ?_
  refine JT_istore_n (lv' := [(2, .int ((gI s L0 9) - (1 : Int32))), (0, .ref L0), (1, .int a1)]) dX4_latestOpen_6 rfl (Nat.le_of_ble_eq_true rfl) rfl ?_
  exact JT_sub [1, 2, 0] rfl h
set_option maxRecDepth 20000 in
theorem bX4_lendersTo_4 {L0 P0 : Nat} (hL0 : (L0, P0) ∈ LX) (a1 : Int32) (a2 : Int32) (a3 : Int32) {s : SM} {Q : Int32 → SM → Prop} (h : (((gI s L0 9) ≤ a3 → Q a2 s) ∧ (¬ (gI s L0 9) ≤ a3 → rX4_isOpen s L0 P0 a3 ∧ (((vX4_isOpen s L0 P0 a3) = 0 → BI MX4_lendersTo 2 4 [(0, .ref L0), (1, .int a1), (2, .int a2), (3, .int (a3 + 1))] s Q) ∧ (¬ (vX4_isOpen s L0 P0 a3) = 0 → vp_in a3 60 ∧ (((vX11_isIn s (gI s (L0 + 2) (a3).toNatClampNeg) a1) = 0 → BI MX4_lendersTo 2 4 [(0, .ref L0), (1, .int a1), (2, .int a2), (3, .int (a3 + 1))] s Q) ∧ (¬ (vX11_isIn s (gI s (L0 + 2) (a3).toNatClampNeg) a1) = 0 → vp_in a3 60 ∧ BI MX4_lendersTo 2 4 [(0, .ref L0), (1, .int a1), (2, .int (a2 ||| ((1 : Int32) <<< ((gI s (L0 + 1) (a3).toNatClampNeg) &&& 31)))), (3, .int (a3 + 1))] s Q))))))) : BI MX4_lendersTo 2 4 [(0, .ref L0), (1, .int a1), (2, .int a2), (3, .int a3)] s Q := by
  refine JT_iload_n (q := 3) dX4_lendersTo_4 rfl rfl ?_
  refine JT_aload_n (q := 0) dX4_lendersTo_5 rfl rfl ?_
  refine JS_getI dX4_lendersTo_6 flX4_49 (lxB hL0) (lx2 hL0) (lxN hL0) (Or.inl ct_4_9) ?_
  refine JT_icmp_ge (tgt := 50) dX4_lendersTo_9 (by decide) (fun hc7 => ?_) (fun hc7 => ?_)
  · have h := h.1 hc7
    refine JT_iload_n (q := 2) dX4_lendersTo_50 rfl rfl ?_
    exact JS_iret dX4_lendersTo_51 rfl rfl h
  · have h := h.2 hc7
    refine JT_aload_n (q := 0) dX4_lendersTo_12 rfl rfl ?_
    refine JT_iload_n (q := 3) dX4_lendersTo_13 rfl rfl ?_
    obtain ⟨o6, h⟩ := h
    refine JS_callVI (M' := MX4_isOpen) (d' := 1) (As := [.int a3]) (rest := []) (P := (fun zv9 wm9 => (vX4_isOpen s L0 P0 a3) = zv9 ∧ s = wm9)) dX4_lendersTo_14 cvX4_94 okX4_isOpen rfl (Nat.le_of_ble_eq_true rfl) (lxB hL0) (lx2 hL0) (lxN hL0) hci_4 (Nat.le_of_ble_eq_true rfl) (Nat.le_of_ble_eq_true rfl) (pX4_isOpen hL0 (a3) o6 ⟨rfl, rfl⟩) (fun zv9 wm9 hq9 => ?_)
    obtain ⟨rfl, rfl⟩ := hq9
    refine JT_if_eq (tgt := 44) dX4_lendersTo_17 (by decide) (fun hc5 => ?_) (fun hc5 => ?_)
    · have h := h.1 hc5
      refine JT_iinc (q := 3) (v := (a3 + 1)) (lv' := [(3, .int (a3 + 1)), (0, .ref L0), (1, .int a1), (2, .int a2)]) dX4_lendersTo_44 rfl (by rfl) (Nat.le_of_ble_eq_true rfl) rfl ?_
      refine JT_goto (tgt := 4) dX4_lendersTo_47 (by decide) ?_
      exact JT_sub [1, 2, 3, 0] rfl h
    · have h := h.2 hc5
      refine JT_aload_n (q := 0) dX4_lendersTo_20 rfl rfl ?_
      refine JS_getR (x := (L0 + 2)) dX4_lendersTo_21 flX4_15 (lxB hL0) (lx2 hL0) (lxN hL0) (Or.inr ⟨_, ct_4_1⟩) (lxR1 hL0) ?_
      refine JT_iload_n (q := 3) dX4_lendersTo_24 rfl rfl ?_
      obtain ⟨o1, h⟩ := h
      refine JS_iald dX4_lendersTo_25 (lxB2 hL0) (lx2k hL0 _) (lxNk hL0 (Nat.le_of_ble_eq_true rfl)) o1 ?_
      refine JT_iload_n (q := 1) dX4_lendersTo_26 rfl rfl ?_
      refine JS_callSNI (M' := MX11_isIn) (d' := 0) (As := [.int (gI s (L0 + 2) (a3).toNatClampNeg), .int a1]) (rest := []) (P := (fun zv9 wm9 => (vX11_isIn s (gI s (L0 + 2) (a3).toNatClampNeg) a1) = zv9 ∧ s = wm9)) dX4_lendersTo_27 cvX4_74 okX11_isIn rfl (Nat.le_of_ble_eq_true rfl) (Nat.le_of_ble_eq_true rfl) (Nat.le_of_ble_eq_true rfl) (pX11_isIn  ((gI s (L0 + 2) (a3).toNatClampNeg)) (a1)  ⟨rfl, rfl⟩) (fun zv9 wm9 hq9 => ?_)
      obtain ⟨rfl, rfl⟩ := hq9
      refine JT_if_eq (tgt := 44) dX4_lendersTo_30 (by decide) (fun hc3 => ?_) (fun hc3 => ?_)
      · have h := h.1 hc3
        refine JT_iinc (q := 3) (v := (a3 + 1)) (lv' := [(3, .int (a3 + 1)), (0, .ref L0), (1, .int a1), (2, .int a2)]) dX4_lendersTo_44 rfl (by rfl) (Nat.le_of_ble_eq_true rfl) rfl ?_
        refine JT_goto (tgt := 4) dX4_lendersTo_47 (by decide) ?_
        exact JT_sub [1, 2, 3, 0] rfl h
      · have h := h.2 hc3
        refine JT_iload_n (q := 2) dX4_lendersTo_33 rfl rfl ?_
        refine JT_iconst (v := 1) dX4_lendersTo_34 ic_1 ?_
        refine JT_aload_n (q := 0) dX4_lendersTo_35 rfl rfl ?_
        refine JS_getR (x := (L0 + 1)) dX4_lendersTo_36 flX4_9 (lxB hL0) (lx2 hL0) (lxN hL0) (Or.inr ⟨_, ct_4_0⟩) (lxR0 hL0) ?_
        refine JT_iload_n (q := 3) dX4_lendersTo_39 rfl rfl ?_
        obtain ⟨o2, h⟩ := h
        refine JS_iald dX4_lendersTo_40 (lxB1 hL0) (lx2k hL0 _) (lxNk hL0 (Nat.le_of_ble_eq_true rfl)) o2 ?_
        refine JT_ishl dX4_lendersTo_41 ?_
        refine JT_ior dX4_lendersTo_42 ?_
        refine JT_istore_n (lv' := [(2, .int (a2 ||| ((1 : Int32) <<< ((gI s (L0 + 1) (a3).toNatClampNeg) &&& 31)))), (0, .ref L0), (1, .int a1), (3, .int a3)]) dX4_lendersTo_43 rfl (Nat.le_of_ble_eq_true rfl) rfl ?_
        refine JT_iinc (q := 3) (v := (a3 + 1)) (lv' := [(3, .int (a3 + 1)), (2, .int (a2 ||| ((1 : Int32) <<< ((gI s (L0 + 1) (a3).toNatClampNeg) &&& 31)))), (0, .ref L0), (1, .int a1)]) dX4_lendersTo_44 rfl (by rfl) (Nat.le_of_ble_eq_true rfl) rfl ?_
        refine JT_goto (tgt := 4) dX4_lendersTo_47 (by decide) ?_
        exact JT_sub [2, 3, 1, 0] rfl h
set_option maxRecDepth 20000 in
theorem bX4_lendersTo {L0 P0 : Nat} (hL0 : (L0, P0) ∈ LX) (a1 : Int32) {s : SM} {Q : Int32 → SM → Prop} (h : BI MX4_lendersTo 2 4 [(0, .ref L0), (1, .int a1), (2, .int (0 : Int32)), (3, .int (0 : Int32))] s Q) : KI MX4_lendersTo 2 [.ref L0, .int a1] s Q := by
  show BI MX4_lendersTo 2 0 [(0, .ref L0), (1, .int a1)] s Q
  refine JT_iconst (v := 0) dX4_lendersTo_0 ic_0 ?_
  refine JT_istore_n (lv' := [(2, .int (0 : Int32)), (0, .ref L0), (1, .int a1)]) dX4_lendersTo_1 rfl (Nat.le_of_ble_eq_true rfl) rfl ?_
  refine JT_iconst (v := 0) dX4_lendersTo_2 ic_0 ?_
  refine JT_istore_n (lv' := [(3, .int (0 : Int32)), (2, .int (0 : Int32)), (0, .ref L0), (1, .int a1)]) dX4_lendersTo_3 rfl (Nat.le_of_ble_eq_true rfl) rfl ?_
  exact JT_sub [2, 3, 1, 0] rfl h
set_option maxRecDepth 20000 in
theorem bX4_netOf_4 {L0 P0 : Nat} (hL0 : (L0, P0) ∈ LX) (a1 : Int32) (a2 : Int32) (a3 : Int32) {s : SM} {Q : Int32 → SM → Prop} (h : (((gI s L0 9) ≤ a3 → Q a2 s) ∧ (¬ (gI s L0 9) ≤ a3 → rX4_isOpen s L0 P0 a3 ∧ (((vX4_isOpen s L0 P0 a3) = 0 → BI MX4_netOf 2 4 [(0, .ref L0), (1, .int a1), (2, .int a2), (3, .int (a3 + 1))] s Q) ∧ (¬ (vX4_isOpen s L0 P0 a3) = 0 → vp_in a3 60 ∧ ((¬ (gI s (L0 + 1) (a3).toNatClampNeg) = a1 → vp_in a3 60 ∧ ((¬ (gI s (L0 + 2) (a3).toNatClampNeg) = a1 → BI MX4_netOf 2 4 [(0, .ref L0), (1, .int a1), (2, .int ((a2 + (0 : Int32)) - (0 : Int32))), (3, .int (a3 + 1))] s Q) ∧ ((gI s (L0 + 2) (a3).toNatClampNeg) = a1 → rX4_valueOf s L0 P0 a3 ∧ BI MX4_netOf 2 4 [(0, .ref L0), (1, .int a1), (2, .int ((a2 + (0 : Int32)) - (vX4_valueOf s L0 P0 a3))), (3, .int (a3 + 1))] s Q))) ∧ ((gI s (L0 + 1) (a3).toNatClampNeg) = a1 → rX4_valueOf s L0 P0 a3 ∧ vp_in a3 60 ∧ ((¬ (gI s (L0 + 2) (a3).toNatClampNeg) = a1 → BI MX4_netOf 2 4 [(0, .ref L0), (1, .int a1), (2, .int ((a2 + (vX4_valueOf s L0 P0 a3)) - (0 : Int32))), (3, .int (a3 + 1))] s Q) ∧ ((gI s (L0 + 2) (a3).toNatClampNeg) = a1 → rX4_valueOf s L0 P0 a3 ∧ BI MX4_netOf 2 4 [(0, .ref L0), (1, .int a1), (2, .int ((a2 + (vX4_valueOf s L0 P0 a3)) - (vX4_valueOf s L0 P0 a3))), (3, .int (a3 + 1))] s Q))))))))) : BI MX4_netOf 2 4 [(0, .ref L0), (1, .int a1), (2, .int a2), (3, .int a3)] s Q := by
  refine JT_iload_n (q := 3) dX4_netOf_4 rfl rfl ?_
  refine JT_aload_n (q := 0) dX4_netOf_5 rfl rfl ?_
  refine JS_getI dX4_netOf_6 flX4_49 (lxB hL0) (lx2 hL0) (lxN hL0) (Or.inl ct_4_9) ?_
  refine JT_icmp_ge (tgt := 70) dX4_netOf_9 (by decide) (fun hc12 => ?_) (fun hc12 => ?_)
  · have h := h.1 hc12
    refine JT_iload_n (q := 2) dX4_netOf_70 rfl rfl ?_
    exact JS_iret dX4_netOf_71 rfl rfl h
  · have h := h.2 hc12
    refine JT_aload_n (q := 0) dX4_netOf_12 rfl rfl ?_
    refine JT_iload_n (q := 3) dX4_netOf_13 rfl rfl ?_
    obtain ⟨o11, h⟩ := h
    refine JS_callVI (M' := MX4_isOpen) (d' := 1) (As := [.int a3]) (rest := []) (P := (fun zv9 wm9 => (vX4_isOpen s L0 P0 a3) = zv9 ∧ s = wm9)) dX4_netOf_14 cvX4_94 okX4_isOpen rfl (Nat.le_of_ble_eq_true rfl) (lxB hL0) (lx2 hL0) (lxN hL0) hci_4 (Nat.le_of_ble_eq_true rfl) (Nat.le_of_ble_eq_true rfl) (pX4_isOpen hL0 (a3) o11 ⟨rfl, rfl⟩) (fun zv9 wm9 hq9 => ?_)
    obtain ⟨rfl, rfl⟩ := hq9
    refine JT_if_eq (tgt := 64) dX4_netOf_17 (by decide) (fun hc10 => ?_) (fun hc10 => ?_)
    · have h := h.1 hc10
      refine JT_iinc (q := 3) (v := (a3 + 1)) (lv' := [(3, .int (a3 + 1)), (0, .ref L0), (1, .int a1), (2, .int a2)]) dX4_netOf_64 rfl (by rfl) (Nat.le_of_ble_eq_true rfl) rfl ?_
      refine JT_goto (tgt := 4) dX4_netOf_67 (by decide) ?_
      exact JT_sub [1, 2, 3, 0] rfl h
    · have h := h.2 hc10
      refine JT_iload_n (q := 2) dX4_netOf_20 rfl rfl ?_
      refine JT_aload_n (q := 0) dX4_netOf_21 rfl rfl ?_
      refine JS_getR (x := (L0 + 1)) dX4_netOf_22 flX4_9 (lxB hL0) (lx2 hL0) (lxN hL0) (Or.inr ⟨_, ct_4_0⟩) (lxR0 hL0) ?_
      refine JT_iload_n (q := 3) dX4_netOf_25 rfl rfl ?_
      obtain ⟨o1, h⟩ := h
      refine JS_iald dX4_netOf_26 (lxB1 hL0) (lx2k hL0 _) (lxNk hL0 (Nat.le_of_ble_eq_true rfl)) o1 ?_
      refine JT_iload_n (q := 1) dX4_netOf_27 rfl rfl ?_
      refine JT_icmp_ne (tgt := 39) dX4_netOf_28 (by decide) (fun hc9 => ?_) (fun hc9 => ?_)
      · have h := h.1 hc9
        refine JT_iconst (v := 0) dX4_netOf_39 ic_0 ?_
        refine JT_iadd dX4_netOf_40 ?_
        refine JT_istore_n (lv' := [(2, .int (a2 + (0 : Int32))), (0, .ref L0), (1, .int a1), (3, .int a3)]) dX4_netOf_41 rfl (Nat.le_of_ble_eq_true rfl) rfl ?_
        refine JT_iload_n (q := 0) dX4_netOf_42 rfl rfl ?_
        refine JT_aload_n (q := 1) dX4_netOf_43 rfl rfl ?_
        refine JS_getR (x := (L0 + 2)) dX4_netOf_44 flX4_15 (lxB hL0) (lx2 hL0) (lxN hL0) (Or.inr ⟨_, ct_4_1⟩) (lxR1 hL0) ?_
        refine JT_iload_n (q := 3) dX4_netOf_47 rfl rfl ?_
        obtain ⟨o2, h⟩ := h
        refine JS_iald dX4_netOf_48 (lxB2 hL0) (lx2k hL0 _) (lxNk hL0 (Nat.le_of_ble_eq_true rfl)) o2 ?_
        refine JT_iload_n (q := 2) dX4_netOf_49 rfl rfl ?_
        refine JT_icmp_ne (tgt := 61) dX4_netOf_50 (by decide) (fun hc4 => ?_) (fun hc4 => ?_)
        · have h := h.1 hc4
          refine JT_iconst (v := 0) dX4_netOf_61 ic_0 ?_
          refine JT_isub dX4_netOf_62 ?_
          refine JT_istore_n (lv' := [(2, .int ((a2 + (0 : Int32)) - (0 : Int32))), (0, .ref L0), (1, .int a1), (3, .int a3)]) dX4_netOf_63 rfl (Nat.le_of_ble_eq_true rfl) rfl ?_
          refine JT_iinc (q := 3) (v := (a3 + 1)) (lv' := [(3, .int (a3 + 1)), (2, .int ((a2 + (0 : Int32)) - (0 : Int32))), (0, .ref L0), (1, .int a1)]) dX4_netOf_64 rfl (by rfl) (Nat.le_of_ble_eq_true rfl) rfl ?_
          refine JT_goto (tgt := 4) dX4_netOf_67 (by decide) ?_
          exact JT_sub [2, 3, 1, 0] rfl h
        · have h := h.2 hc4
          refine JT_aload_n (q := 1) dX4_netOf_53 rfl rfl ?_
          refine JT_iload_n (q := 3) dX4_netOf_54 rfl rfl ?_
          obtain ⟨o3, h⟩ := h
          refine JS_callVI (M' := MX4_valueOf) (d' := 1) (As := [.int a3]) (rest := [.int (a2 + (0 : Int32))]) (P := (fun zv9 wm9 => (vX4_valueOf s L0 P0 a3) = zv9 ∧ s = wm9)) dX4_netOf_55 cvX4_103 okX4_valueOf rfl (Nat.le_of_ble_eq_true rfl) (lxB hL0) (lx2 hL0) (lxN hL0) hci_4 (Nat.le_of_ble_eq_true rfl) (Nat.le_of_ble_eq_true rfl) (pX4_valueOf hL0 (a3) o3 ⟨rfl, rfl⟩) (fun zv9 wm9 hq9 => ?_)
          obtain ⟨rfl, rfl⟩ := hq9
          refine JT_goto (tgt := 62) dX4_netOf_58 (by decide) ?_
          refine JT_isub dX4_netOf_62 ?_
          refine JT_istore_n (lv' := [(2, .int ((a2 + (0 : Int32)) - (vX4_valueOf s L0 P0 a3))), (0, .ref L0), (1, .int a1), (3, .int a3)]) dX4_netOf_63 rfl (Nat.le_of_ble_eq_true rfl) rfl ?_
          refine JT_iinc (q := 3) (v := (a3 + 1)) (lv' := [(3, .int (a3 + 1)), (2, .int ((a2 + (0 : Int32)) - (vX4_valueOf s L0 P0 a3))), (0, .ref L0), (1, .int a1)]) dX4_netOf_64 rfl (by rfl) (Nat.le_of_ble_eq_true rfl) rfl ?_
          refine JT_goto (tgt := 4) dX4_netOf_67 (by decide) ?_
          exact JT_sub [2, 3, 1, 0] rfl h
      · have h := h.2 hc9
        refine JT_aload_n (q := 0) dX4_netOf_31 rfl rfl ?_
        refine JT_iload_n (q := 3) dX4_netOf_32 rfl rfl ?_
        obtain ⟨o8, h⟩ := h
        refine JS_callVI (M' := MX4_valueOf) (d' := 1) (As := [.int a3]) (rest := [.int a2]) (P := (fun zv9 wm9 => (vX4_valueOf s L0 P0 a3) = zv9 ∧ s = wm9)) dX4_netOf_33 cvX4_103 okX4_valueOf rfl (Nat.le_of_ble_eq_true rfl) (lxB hL0) (lx2 hL0) (lxN hL0) hci_4 (Nat.le_of_ble_eq_true rfl) (Nat.le_of_ble_eq_true rfl) (pX4_valueOf hL0 (a3) o8 ⟨rfl, rfl⟩) (fun zv9 wm9 hq9 => ?_)
        obtain ⟨rfl, rfl⟩ := hq9
        refine JT_goto (tgt := 40) dX4_netOf_36 (by decide) ?_
        refine JT_iadd dX4_netOf_40 ?_
        refine JT_istore_n (lv' := [(2, .int (a2 + (vX4_valueOf s L0 P0 a3))), (0, .ref L0), (1, .int a1), (3, .int a3)]) dX4_netOf_41 rfl (Nat.le_of_ble_eq_true rfl) rfl ?_
        refine JT_iload_n (q := 0) dX4_netOf_42 rfl rfl ?_
        refine JT_aload_n (q := 1) dX4_netOf_43 rfl rfl ?_
        refine JS_getR (x := (L0 + 2)) dX4_netOf_44 flX4_15 (lxB hL0) (lx2 hL0) (lxN hL0) (Or.inr ⟨_, ct_4_1⟩) (lxR1 hL0) ?_
        refine JT_iload_n (q := 3) dX4_netOf_47 rfl rfl ?_
        obtain ⟨o5, h⟩ := h
        refine JS_iald dX4_netOf_48 (lxB2 hL0) (lx2k hL0 _) (lxNk hL0 (Nat.le_of_ble_eq_true rfl)) o5 ?_
        refine JT_iload_n (q := 2) dX4_netOf_49 rfl rfl ?_
        refine JT_icmp_ne (tgt := 61) dX4_netOf_50 (by decide) (fun hc7 => ?_) (fun hc7 => ?_)
        · have h := h.1 hc7
          refine JT_iconst (v := 0) dX4_netOf_61 ic_0 ?_
          refine JT_isub dX4_netOf_62 ?_
          refine JT_istore_n (lv' := [(2, .int ((a2 + (vX4_valueOf s L0 P0 a3)) - (0 : Int32))), (0, .ref L0), (1, .int a1), (3, .int a3)]) dX4_netOf_63 rfl (Nat.le_of_ble_eq_true rfl) rfl ?_
          refine JT_iinc (q := 3) (v := (a3 + 1)) (lv' := [(3, .int (a3 + 1)), (2, .int ((a2 + (vX4_valueOf s L0 P0 a3)) - (0 : Int32))), (0, .ref L0), (1, .int a1)]) dX4_netOf_64 rfl (by rfl) (Nat.le_of_ble_eq_true rfl) rfl ?_
          refine JT_goto (tgt := 4) dX4_netOf_67 (by decide) ?_
          exact JT_sub [2, 3, 1, 0] rfl h
        · have h := h.2 hc7
          refine JT_aload_n (q := 1) dX4_netOf_53 rfl rfl ?_
          refine JT_iload_n (q := 3) dX4_netOf_54 rfl rfl ?_
          obtain ⟨o6, h⟩ := h
          refine JS_callVI (M' := MX4_valueOf) (d' := 1) (As := [.int a3]) (rest := [.int (a2 + (vX4_valueOf s L0 P0 a3))]) (P := (fun zv9 wm9 => (vX4_valueOf s L0 P0 a3) = zv9 ∧ s = wm9)) dX4_netOf_55 cvX4_103 okX4_valueOf rfl (Nat.le_of_ble_eq_true rfl) (lxB hL0) (lx2 hL0) (lxN hL0) hci_4 (Nat.le_of_ble_eq_true rfl) (Nat.le_of_ble_eq_true rfl) (pX4_valueOf hL0 (a3) o6 ⟨rfl, rfl⟩) (fun zv9 wm9 hq9 => ?_)
          obtain ⟨rfl, rfl⟩ := hq9
          refine JT_goto (tgt := 62) dX4_netOf_58 (by decide) ?_
          refine JT_isub dX4_netOf_62 ?_
          refine JT_istore_n (lv' := [(2, .int ((a2 + (vX4_valueOf s L0 P0 a3)) - (vX4_valueOf s L0 P0 a3))), (0, .ref L0), (1, .int a1), (3, .int a3)]) dX4_netOf_63 rfl (Nat.le_of_ble_eq_true rfl) rfl ?_
          refine JT_iinc (q := 3) (v := (a3 + 1)) (lv' := [(3, .int (a3 + 1)), (2, .int ((a2 + (vX4_valueOf s L0 P0 a3)) - (vX4_valueOf s L0 P0 a3))), (0, .ref L0), (1, .int a1)]) dX4_netOf_64 rfl (by rfl) (Nat.le_of_ble_eq_true rfl) rfl ?_
          refine JT_goto (tgt := 4) dX4_netOf_67 (by decide) ?_
          exact JT_sub [2, 3, 1, 0] rfl h
set_option maxRecDepth 20000 in
theorem bX4_netOf {L0 P0 : Nat} (hL0 : (L0, P0) ∈ LX) (a1 : Int32) {s : SM} {Q : Int32 → SM → Prop} (h : BI MX4_netOf 2 4 [(0, .ref L0), (1, .int a1), (2, .int (0 : Int32)), (3, .int (0 : Int32))] s Q) : KI MX4_netOf 2 [.ref L0, .int a1] s Q := by
  show BI MX4_netOf 2 0 [(0, .ref L0), (1, .int a1)] s Q
  refine JT_iconst (v := 0) dX4_netOf_0 ic_0 ?_
  refine JT_istore_n (lv' := [(2, .int (0 : Int32)), (0, .ref L0), (1, .int a1)]) dX4_netOf_1 rfl (Nat.le_of_ble_eq_true rfl) rfl ?_
  refine JT_iconst (v := 0) dX4_netOf_2 ic_0 ?_
  refine JT_istore_n (lv' := [(3, .int (0 : Int32)), (2, .int (0 : Int32)), (0, .ref L0), (1, .int a1)]) dX4_netOf_3 rfl (Nat.le_of_ble_eq_true rfl) rfl ?_
  exact JT_sub [2, 3, 1, 0] rfl h
set_option maxRecDepth 20000 in
theorem bX4_openAhead_4 {L0 P0 : Nat} (hL0 : (L0, P0) ∈ LX) (a1 : Int32) (a2 : Int32) (a3 : Int32) {s : SM} {Q : Int32 → SM → Prop} (h : (((gI s L0 9) ≤ a3 → Q a2 s) ∧ (¬ (gI s L0 9) ≤ a3 → rX4_isOpen s L0 P0 a3 ∧ (((vX4_isOpen s L0 P0 a3) = 0 → BI MX4_openAhead 2 4 [(0, .ref L0), (1, .int a1), (2, .int a2), (3, .int (a3 + 1))] s Q) ∧ (¬ (vX4_isOpen s L0 P0 a3) = 0 → rX4_valueOf s L0 P0 a3 ∧ rX4_valueOf s L0 P0 a1 ∧ (((vX4_valueOf s L0 P0 a1) < (vX4_valueOf s L0 P0 a3) → BI MX4_openAhead 2 4 [(0, .ref L0), (1, .int a1), (2, .int (a2 + (1 : Int32))), (3, .int (a3 + 1))] s Q) ∧ (¬ (vX4_valueOf s L0 P0 a1) < (vX4_valueOf s L0 P0 a3) → rX4_valueOf s L0 P0 a3 ∧ rX4_valueOf s L0 P0 a1 ∧ BI MX4_openAhead 2 4 [(0, .ref L0), (1, .int a1), (2, .int (a2 + (if (vX4_valueOf s L0 P0 a3) = (vX4_valueOf s L0 P0 a1) then (if a1 ≤ a3 then (0 : Int32) else (1 : Int32)) else (0 : Int32)))), (3, .int (a3 + 1))] s Q))))))) : BI MX4_openAhead 2 4 [(0, .ref L0), (1, .int a1), (2, .int a2), (3, .int a3)] s Q := by
  refine JT_iload_n (q := 3) dX4_openAhead_4 rfl rfl ?_
  refine JT_aload_n (q := 0) dX4_openAhead_5 rfl rfl ?_
  refine JS_getI dX4_openAhead_6 flX4_49 (lxB hL0) (lx2 hL0) (lxN hL0) (Or.inl ct_4_9) ?_
  refine JT_icmp_ge (tgt := 65) dX4_openAhead_9 (by decide) (fun hc11 => ?_) (fun hc11 => ?_)
  · have h := h.1 hc11
    refine JT_iload_n (q := 2) dX4_openAhead_65 rfl rfl ?_
    exact JS_iret dX4_openAhead_66 rfl rfl h
  · have h := h.2 hc11
    refine JT_aload_n (q := 0) dX4_openAhead_12 rfl rfl ?_
    refine JT_iload_n (q := 3) dX4_openAhead_13 rfl rfl ?_
    obtain ⟨o10, h⟩ := h
    refine JS_callVI (M' := MX4_isOpen) (d' := 1) (As := [.int a3]) (rest := []) (P := (fun zv9 wm9 => (vX4_isOpen s L0 P0 a3) = zv9 ∧ s = wm9)) dX4_openAhead_14 cvX4_94 okX4_isOpen rfl (Nat.le_of_ble_eq_true rfl) (lxB hL0) (lx2 hL0) (lxN hL0) hci_4 (Nat.le_of_ble_eq_true rfl) (Nat.le_of_ble_eq_true rfl) (pX4_isOpen hL0 (a3) o10 ⟨rfl, rfl⟩) (fun zv9 wm9 hq9 => ?_)
    obtain ⟨rfl, rfl⟩ := hq9
    refine JT_if_eq (tgt := 59) dX4_openAhead_17 (by decide) (fun hc9 => ?_) (fun hc9 => ?_)
    · have h := h.1 hc9
      refine JT_iinc (q := 3) (v := (a3 + 1)) (lv' := [(3, .int (a3 + 1)), (0, .ref L0), (1, .int a1), (2, .int a2)]) dX4_openAhead_59 rfl (by rfl) (Nat.le_of_ble_eq_true rfl) rfl ?_
      refine JT_goto (tgt := 4) dX4_openAhead_62 (by decide) ?_
      exact JT_sub [1, 2, 3, 0] rfl h
    · have h := h.2 hc9
      refine JT_iload_n (q := 2) dX4_openAhead_20 rfl rfl ?_
      refine JT_aload_n (q := 0) dX4_openAhead_21 rfl rfl ?_
      refine JT_iload_n (q := 3) dX4_openAhead_22 rfl rfl ?_
      obtain ⟨o8, h⟩ := h
      refine JS_callVI (M' := MX4_valueOf) (d' := 1) (As := [.int a3]) (rest := [.int a2]) (P := (fun zv9 wm9 => (vX4_valueOf s L0 P0 a3) = zv9 ∧ s = wm9)) dX4_openAhead_23 cvX4_103 okX4_valueOf rfl (Nat.le_of_ble_eq_true rfl) (lxB hL0) (lx2 hL0) (lxN hL0) hci_4 (Nat.le_of_ble_eq_true rfl) (Nat.le_of_ble_eq_true rfl) (pX4_valueOf hL0 (a3) o8 ⟨rfl, rfl⟩) (fun zv9 wm9 hq9 => ?_)
      obtain ⟨rfl, rfl⟩ := hq9
      refine JT_aload_n (q := 0) dX4_openAhead_26 rfl rfl ?_
      refine JT_iload_n (q := 1) dX4_openAhead_27 rfl rfl ?_
      obtain ⟨o7, h⟩ := h
      refine JS_callVI (M' := MX4_valueOf) (d' := 1) (As := [.int a1]) (rest := [.int (vX4_valueOf s L0 P0 a3), .int a2]) (P := (fun zv9 wm9 => (vX4_valueOf s L0 P0 a1) = zv9 ∧ s = wm9)) dX4_openAhead_28 cvX4_103 okX4_valueOf rfl (Nat.le_of_ble_eq_true rfl) (lxB hL0) (lx2 hL0) (lxN hL0) hci_4 (Nat.le_of_ble_eq_true rfl) (Nat.le_of_ble_eq_true rfl) (pX4_valueOf hL0 (a1) o7 ⟨rfl, rfl⟩) (fun zv9 wm9 hq9 => ?_)
      obtain ⟨rfl, rfl⟩ := hq9
      refine JT_icmp_gt (tgt := 52) dX4_openAhead_31 (by decide) (fun hc6 => ?_) (fun hc6 => ?_)
      · have h := h.1 hc6
        refine JT_iconst (v := 1) dX4_openAhead_52 ic_1 ?_
        refine JT_goto (tgt := 57) dX4_openAhead_53 (by decide) ?_
        refine JT_iadd dX4_openAhead_57 ?_
        refine JT_istore_n (lv' := [(2, .int (a2 + (1 : Int32))), (0, .ref L0), (1, .int a1), (3, .int a3)]) dX4_openAhead_58 rfl (Nat.le_of_ble_eq_true rfl) rfl ?_
        refine JT_iinc (q := 3) (v := (a3 + 1)) (lv' := [(3, .int (a3 + 1)), (2, .int (a2 + (1 : Int32))), (0, .ref L0), (1, .int a1)]) dX4_openAhead_59 rfl (by rfl) (Nat.le_of_ble_eq_true rfl) rfl ?_
        refine JT_goto (tgt := 4) dX4_openAhead_62 (by decide) ?_
        exact JT_sub [2, 3, 1, 0] rfl h
      · have h := h.2 hc6
        refine JT_aload_n (q := 0) dX4_openAhead_34 rfl rfl ?_
        refine JT_iload_n (q := 3) dX4_openAhead_35 rfl rfl ?_
        obtain ⟨o5, h⟩ := h
        refine JS_callVI (M' := MX4_valueOf) (d' := 1) (As := [.int a3]) (rest := [.int a2]) (P := (fun zv9 wm9 => (vX4_valueOf s L0 P0 a3) = zv9 ∧ s = wm9)) dX4_openAhead_36 cvX4_103 okX4_valueOf rfl (Nat.le_of_ble_eq_true rfl) (lxB hL0) (lx2 hL0) (lxN hL0) hci_4 (Nat.le_of_ble_eq_true rfl) (Nat.le_of_ble_eq_true rfl) (pX4_valueOf hL0 (a3) o5 ⟨rfl, rfl⟩) (fun zv9 wm9 hq9 => ?_)
        obtain ⟨rfl, rfl⟩ := hq9
        refine JT_aload_n (q := 0) dX4_openAhead_39 rfl rfl ?_
        refine JT_iload_n (q := 1) dX4_openAhead_40 rfl rfl ?_
        obtain ⟨o4, h⟩ := h
        refine JS_callVI (M' := MX4_valueOf) (d' := 1) (As := [.int a1]) (rest := [.int (vX4_valueOf s L0 P0 a3), .int a2]) (P := (fun zv9 wm9 => (vX4_valueOf s L0 P0 a1) = zv9 ∧ s = wm9)) dX4_openAhead_41 cvX4_103 okX4_valueOf rfl (Nat.le_of_ble_eq_true rfl) (lxB hL0) (lx2 hL0) (lxN hL0) hci_4 (Nat.le_of_ble_eq_true rfl) (Nat.le_of_ble_eq_true rfl) (pX4_valueOf hL0 (a1) o4 ⟨rfl, rfl⟩) (fun zv9 wm9 hq9 => ?_)
        obtain ⟨rfl, rfl⟩ := hq9
        have hj1 : ∀ v : Int32, v = (if (vX4_valueOf s L0 P0 a3) = (vX4_valueOf s L0 P0 a1) then (if a1 ≤ a3 then (0 : Int32) else (1 : Int32)) else (0 : Int32)) → JT MX4_openAhead 2 0 0 57 [(0, .ref L0), (1, .int a1), (2, .int a2), (3, .int a3)] [.int v, .int a2] (std s) (KQ Q) := by
          intro v hv
          subst hv
          refine JT_iadd dX4_openAhead_57 ?_
          refine JT_istore_n (lv' := [(2, .int (a2 + (if (vX4_valueOf s L0 P0 a3) = (vX4_valueOf s L0 P0 a1) then (if a1 ≤ a3 then (0 : Int32) else (1 : Int32)) else (0 : Int32)))), (0, .ref L0), (1, .int a1), (3, .int a3)]) dX4_openAhead_58 rfl (Nat.le_of_ble_eq_true rfl) rfl ?_
          refine JT_iinc (q := 3) (v := (a3 + 1)) (lv' := [(3, .int (a3 + 1)), (2, .int (a2 + (if (vX4_valueOf s L0 P0 a3) = (vX4_valueOf s L0 P0 a1) then (if a1 ≤ a3 then (0 : Int32) else (1 : Int32)) else (0 : Int32)))), (0, .ref L0), (1, .int a1)]) dX4_openAhead_59 rfl (by rfl) (Nat.le_of_ble_eq_true rfl) rfl ?_
          refine JT_goto (tgt := 4) dX4_openAhead_62 (by decide) ?_
          exact JT_sub [2, 3, 1, 0] rfl h
        refine JT_icmp_ne (tgt := 56) dX4_openAhead_44 (by decide) (fun hc2 => ?_) (fun hc2 => ?_)
        · refine JT_iconst (v := 0) dX4_openAhead_56 ic_0 ?_
          exact hj1 _ (by rw [if_neg hc2])
        · refine JT_iload_n (q := 3) dX4_openAhead_47 rfl rfl ?_
          refine JT_iload_n (q := 1) dX4_openAhead_48 rfl rfl ?_
          refine JT_icmp_ge (tgt := 56) dX4_openAhead_49 (by decide) (fun hc3 => ?_) (fun hc3 => ?_)
          · refine JT_iconst (v := 0) dX4_openAhead_56 ic_0 ?_
            exact hj1 _ (by rw [if_pos hc2, if_pos hc3])
          · refine JT_iconst (v := 1) dX4_openAhead_52 ic_1 ?_
            refine JT_goto (tgt := 57) dX4_openAhead_53 (by decide) ?_
            exact hj1 _ (by rw [if_pos hc2, if_neg hc3])
set_option maxRecDepth 20000 in
theorem bX4_openAhead {L0 P0 : Nat} (hL0 : (L0, P0) ∈ LX) (a1 : Int32) {s : SM} {Q : Int32 → SM → Prop} (h : BI MX4_openAhead 2 4 [(0, .ref L0), (1, .int a1), (2, .int (0 : Int32)), (3, .int (0 : Int32))] s Q) : KI MX4_openAhead 2 [.ref L0, .int a1] s Q := by
  show BI MX4_openAhead 2 0 [(0, .ref L0), (1, .int a1)] s Q
  refine JT_iconst (v := 0) dX4_openAhead_0 ic_0 ?_
  refine JT_istore_n (lv' := [(2, .int (0 : Int32)), (0, .ref L0), (1, .int a1)]) dX4_openAhead_1 rfl (Nat.le_of_ble_eq_true rfl) rfl ?_
  refine JT_iconst (v := 0) dX4_openAhead_2 ic_0 ?_
  refine JT_istore_n (lv' := [(3, .int (0 : Int32)), (2, .int (0 : Int32)), (0, .ref L0), (1, .int a1)]) dX4_openAhead_3 rfl (Nat.le_of_ble_eq_true rfl) rfl ?_
  exact JT_sub [2, 3, 1, 0] rfl h
set_option maxRecDepth 20000 in
theorem bX4_openDeals_4 {L0 P0 : Nat} (hL0 : (L0, P0) ∈ LX) (a1 : Int32) (a2 : Int32) {s : SM} {Q : Int32 → SM → Prop} (h : (((gI s L0 9) ≤ a2 → Q a1 s) ∧ (¬ (gI s L0 9) ≤ a2 → rX4_isOpen s L0 P0 a2 ∧ BI MX4_openDeals 2 4 [(0, .ref L0), (1, .int (a1 + (if (vX4_isOpen s L0 P0 a2) = 0 then (0 : Int32) else (1 : Int32)))), (2, .int (a2 + 1))] s Q))) : BI MX4_openDeals 2 4 [(0, .ref L0), (1, .int a1), (2, .int a2)] s Q := by
  refine JT_iload_n (q := 2) dX4_openDeals_4 rfl rfl ?_
  refine JT_aload_n (q := 0) dX4_openDeals_5 rfl rfl ?_
  refine JS_getI dX4_openDeals_6 flX4_49 (lxB hL0) (lx2 hL0) (lxN hL0) (Or.inl ct_4_9) ?_
  refine JT_icmp_ge (tgt := 34) dX4_openDeals_9 (by decide) (fun hc4 => ?_) (fun hc4 => ?_)
  · have h := h.1 hc4
    refine JT_iload_n (q := 1) dX4_openDeals_34 rfl rfl ?_
    exact JS_iret dX4_openDeals_35 rfl rfl h
  · have h := h.2 hc4
    refine JT_iload_n (q := 1) dX4_openDeals_12 rfl rfl ?_
    refine JT_aload_n (q := 0) dX4_openDeals_13 rfl rfl ?_
    refine JT_iload_n (q := 2) dX4_openDeals_14 rfl rfl ?_
    obtain ⟨o3, h⟩ := h
    refine JS_callVI (M' := MX4_isOpen) (d' := 1) (As := [.int a2]) (rest := [.int a1]) (P := (fun zv9 wm9 => (vX4_isOpen s L0 P0 a2) = zv9 ∧ s = wm9)) dX4_openDeals_15 cvX4_94 okX4_isOpen rfl (Nat.le_of_ble_eq_true rfl) (lxB hL0) (lx2 hL0) (lxN hL0) hci_4 (Nat.le_of_ble_eq_true rfl) (Nat.le_of_ble_eq_true rfl) (pX4_isOpen hL0 (a2) o3 ⟨rfl, rfl⟩) (fun zv9 wm9 hq9 => ?_)
    obtain ⟨rfl, rfl⟩ := hq9
    have hj1 : ∀ v : Int32, v = (if (vX4_isOpen s L0 P0 a2) = 0 then (0 : Int32) else (1 : Int32)) → JT MX4_openDeals 2 0 0 26 [(0, .ref L0), (1, .int a1), (2, .int a2)] [.int v, .int a1] (std s) (KQ Q) := by
      intro v hv
      subst hv
      refine JT_iadd dX4_openDeals_26 ?_
      refine JT_istore_n (lv' := [(1, .int (a1 + (if (vX4_isOpen s L0 P0 a2) = 0 then (0 : Int32) else (1 : Int32)))), (0, .ref L0), (2, .int a2)]) dX4_openDeals_27 rfl (Nat.le_of_ble_eq_true rfl) rfl ?_
      refine JT_iinc (q := 2) (v := (a2 + 1)) (lv' := [(2, .int (a2 + 1)), (1, .int (a1 + (if (vX4_isOpen s L0 P0 a2) = 0 then (0 : Int32) else (1 : Int32)))), (0, .ref L0)]) dX4_openDeals_28 rfl (by rfl) (Nat.le_of_ble_eq_true rfl) rfl ?_
      refine JT_goto (tgt := 4) dX4_openDeals_31 (by decide) ?_
      exact JT_sub [2, 1, 0] rfl h
    refine JT_if_eq (tgt := 25) dX4_openDeals_18 (by decide) (fun hc2 => ?_) (fun hc2 => ?_)
    · refine JT_iconst (v := 0) dX4_openDeals_25 ic_0 ?_
      exact hj1 _ (by rw [if_pos hc2])
    · refine JT_iconst (v := 1) dX4_openDeals_21 ic_1 ?_
      refine JT_goto (tgt := 26) dX4_openDeals_22 (by decide) ?_
      exact hj1 _ (by rw [if_neg hc2])
set_option maxRecDepth 20000 in
theorem bX4_openDeals {L0 P0 : Nat} (hL0 : (L0, P0) ∈ LX) {s : SM} {Q : Int32 → SM → Prop} (h : BI MX4_openDeals 2 4 [(0, .ref L0), (1, .int (0 : Int32)), (2, .int (0 : Int32))] s Q) : KI MX4_openDeals 2 [.ref L0] s Q := by
  show BI MX4_openDeals 2 0 [(0, .ref L0)] s Q
  refine JT_iconst (v := 0) dX4_openDeals_0 ic_0 ?_
  refine JT_istore_n (lv' := [(1, .int (0 : Int32)), (0, .ref L0)]) dX4_openDeals_1 rfl (Nat.le_of_ble_eq_true rfl) rfl ?_
  refine JT_iconst (v := 0) dX4_openDeals_2 ic_0 ?_
  refine JT_istore_n (lv' := [(2, .int (0 : Int32)), (1, .int (0 : Int32)), (0, .ref L0)]) dX4_openDeals_3 rfl (Nat.le_of_ble_eq_true rfl) rfl ?_
  exact JT_sub [2, 1, 0] rfl h
set_option maxRecDepth 20000 in
theorem bX4_openFor_5 {L0 P0 : Nat} (hL0 : (L0, P0) ∈ LX) (a1 : Int32) (a2 : Int32) (a3 : Int32) (a4 : Int32) {s : SM} {Q : Int32 → SM → Prop} (h : (((gI s L0 9) ≤ a4 → Q a3 s) ∧ (¬ (gI s L0 9) ≤ a4 → vp_in a4 60 ∧ ((¬ (gI s (L0 + 1) (a4).toNatClampNeg) = a1 → BI MX4_openFor 2 40 [(0, .ref L0), (1, .int a1), (2, .int a2), (3, .int a3), (4, .int a4)] s Q) ∧ ((gI s (L0 + 1) (a4).toNatClampNeg) = a1 → vp_in a4 60 ∧ (((gI s (L0 + 2) (a4).toNatClampNeg) = a2 → BI MX4_openFor 2 40 [(0, .ref L0), (1, .int a1), (2, .int a2), (3, .int a3), (4, .int a4)] s Q) ∧ (¬ (gI s (L0 + 2) (a4).toNatClampNeg) = a2 → vp_in a4 60 ∧ ((¬ (gI s (L0 + 2) (a4).toNatClampNeg) = a1 → BI MX4_openFor 2 69 [(0, .ref L0), (1, .int a1), (2, .int a2), (3, .int a3), (4, .int a4), (5, .int (1 : Int32))] s Q) ∧ ((gI s (L0 + 2) (a4).toNatClampNeg) = a1 → vp_in a4 60 ∧ (((gI s (L0 + 1) (a4).toNatClampNeg) = a2 → BI MX4_openFor 2 69 [(0, .ref L0), (1, .int a1), (2, .int a2), (3, .int a3), (4, .int a4), (5, .int (1 : Int32))] s Q) ∧ (¬ (gI s (L0 + 1) (a4).toNatClampNeg) = a2 → rX4_isOpen s L0 P0 a4 ∧ BI MX4_openFor 2 5 [(0, .ref L0), (1, .int a1), (2, .int a2), (3, .int (a3 + (if (vX4_isOpen s L0 P0 a4) = 0 then (0 : Int32) else (if (1 : Int32) = 0 then (if (1 : Int32) = 0 then (0 : Int32) else (1 : Int32)) else (1 : Int32))))), (4, .int (a4 + 1))] s Q))))))))))) : BI MX4_openFor 2 5 [(0, .ref L0), (1, .int a1), (2, .int a2), (3, .int a3), (4, .int a4)] s Q := by
  refine JT_iload (q := 4) dX4_openFor_5 rfl ?_
  refine JT_aload_n (q := 0) dX4_openFor_7 rfl rfl ?_
  refine JS_getI dX4_openFor_8 flX4_49 (lxB hL0) (lx2 hL0) (lxN hL0) (Or.inl ct_4_9) ?_
  refine JT_icmp_ge (tgt := 105) dX4_openFor_11 (by decide) (fun hc14 => ?_) (fun hc14 => ?_)
  · have h := h.1 hc14
    refine JT_iload_n (q := 3) dX4_openFor_105 rfl rfl ?_
    exact JS_iret dX4_openFor_106 rfl rfl h
  · have h := h.2 hc14
    refine JT_aload_n (q := 0) dX4_openFor_14 rfl rfl ?_
    refine JS_getR (x := (L0 + 1)) dX4_openFor_15 flX4_9 (lxB hL0) (lx2 hL0) (lxN hL0) (Or.inr ⟨_, ct_4_0⟩) (lxR0 hL0) ?_
    refine JT_iload (q := 4) dX4_openFor_18 rfl ?_
    obtain ⟨o1, h⟩ := h
    refine JS_iald dX4_openFor_20 (lxB1 hL0) (lx2k hL0 _) (lxNk hL0 (Nat.le_of_ble_eq_true rfl)) o1 ?_
    refine JT_iload_n (q := 1) dX4_openFor_21 rfl rfl ?_
    refine JT_icmp_ne (tgt := 40) dX4_openFor_22 (by decide) (fun hc13 => ?_) (fun hc13 => ?_)
    · have h := h.1 hc13
      exact JT_sub [0, 1, 2, 3, 4] rfl h
    · have h := h.2 hc13
      refine JT_aload_n (q := 0) dX4_openFor_25 rfl rfl ?_
      refine JS_getR (x := (L0 + 2)) dX4_openFor_26 flX4_15 (lxB hL0) (lx2 hL0) (lxN hL0) (Or.inr ⟨_, ct_4_1⟩) (lxR1 hL0) ?_
      refine JT_iload (q := 4) dX4_openFor_29 rfl ?_
      obtain ⟨o2, h⟩ := h
      refine JS_iald dX4_openFor_31 (lxB2 hL0) (lx2k hL0 _) (lxNk hL0 (Nat.le_of_ble_eq_true rfl)) o2 ?_
      refine JT_iload_n (q := 2) dX4_openFor_32 rfl rfl ?_
      refine JT_icmp_eq (tgt := 40) dX4_openFor_33 (by decide) (fun hc12 => ?_) (fun hc12 => ?_)
      · have h := h.1 hc12
        exact JT_sub [0, 1, 2, 3, 4] rfl h
      · have h := h.2 hc12
        refine JT_iconst (v := 1) dX4_openFor_36 ic_1 ?_
        refine JT_goto (tgt := 41) dX4_openFor_37 (by decide) ?_
        refine JT_istore (lv' := [(5, .int (1 : Int32)), (0, .ref L0), (1, .int a1), (2, .int a2), (3, .int a3), (4, .int a4)]) dX4_openFor_41 (Nat.le_of_ble_eq_true rfl) rfl ?_
        refine JT_aload_n (q := 1) dX4_openFor_43 rfl rfl ?_
        refine JS_getR (x := (L0 + 2)) dX4_openFor_44 flX4_15 (lxB hL0) (lx2 hL0) (lxN hL0) (Or.inr ⟨_, ct_4_1⟩) (lxR1 hL0) ?_
        refine JT_iload (q := 5) dX4_openFor_47 rfl ?_
        obtain ⟨o3, h⟩ := h
        refine JS_iald dX4_openFor_49 (lxB2 hL0) (lx2k hL0 _) (lxNk hL0 (Nat.le_of_ble_eq_true rfl)) o3 ?_
        refine JT_iload_n (q := 2) dX4_openFor_50 rfl rfl ?_
        refine JT_icmp_ne (tgt := 69) dX4_openFor_51 (by decide) (fun hc11 => ?_) (fun hc11 => ?_)
        · have h := h.1 hc11
          exact JT_sub [1, 2, 3, 4, 5, 0] rfl h
        · have h := h.2 hc11
          refine JT_aload_n (q := 1) dX4_openFor_54 rfl rfl ?_
          refine JS_getR (x := (L0 + 1)) dX4_openFor_55 flX4_9 (lxB hL0) (lx2 hL0) (lxN hL0) (Or.inr ⟨_, ct_4_0⟩) (lxR0 hL0) ?_
          refine JT_iload (q := 5) dX4_openFor_58 rfl ?_
          obtain ⟨o4, h⟩ := h
          refine JS_iald dX4_openFor_60 (lxB1 hL0) (lx2k hL0 _) (lxNk hL0 (Nat.le_of_ble_eq_true rfl)) o4 ?_
          refine JT_iload_n (q := 3) dX4_openFor_61 rfl rfl ?_
          refine JT_icmp_eq (tgt := 69) dX4_openFor_62 (by decide) (fun hc10 => ?_) (fun hc10 => ?_)
          · have h := h.1 hc10
            exact JT_sub [1, 2, 3, 4, 5, 0] rfl h
          · have h := h.2 hc10
            refine JT_iconst (v := 1) dX4_openFor_65 ic_1 ?_
            refine JT_goto (tgt := 70) dX4_openFor_66 (by decide) ?_
            refine JT_istore (lv' := [(6, .int (1 : Int32)), (5, .int (1 : Int32)), (0, .ref L0), (1, .int a1), (2, .int a2), (3, .int a3), (4, .int a4)]) dX4_openFor_70 (Nat.le_of_ble_eq_true rfl) rfl ?_
            refine JT_iload_n (q := 5) dX4_openFor_72 rfl rfl ?_
            refine JT_aload_n (q := 2) dX4_openFor_73 rfl rfl ?_
            refine JT_iload (q := 6) dX4_openFor_74 rfl ?_
            obtain ⟨o9, h⟩ := h
            refine JS_callVI (M' := MX4_isOpen) (d' := 1) (As := [.int a4]) (rest := [.int a3]) (P := (fun zv9 wm9 => (vX4_isOpen s L0 P0 a4) = zv9 ∧ s = wm9)) dX4_openFor_76 cvX4_94 okX4_isOpen rfl (Nat.le_of_ble_eq_true rfl) (lxB hL0) (lx2 hL0) (lxN hL0) hci_4 (Nat.le_of_ble_eq_true rfl) (Nat.le_of_ble_eq_true rfl) (pX4_isOpen hL0 (a4) o9 ⟨rfl, rfl⟩) (fun zv9 wm9 hq9 => ?_)
            obtain ⟨rfl, rfl⟩ := hq9
            have hj5 : ∀ v : Int32, v = (if (vX4_isOpen s L0 P0 a4) = 0 then (0 : Int32) else (if (1 : Int32) = 0 then (if (1 : Int32) = 0 then (0 : Int32) else (1 : Int32)) else (1 : Int32))) → JT MX4_openFor 2 0 0 97 [(6, .int (1 : Int32)), (5, .int (1 : Int32)), (0, .ref L0), (1, .int a1), (2, .int a2), (3, .int a3), (4, .int a4)] [.int v, .int a3] (std s) (KQ Q) := by
              intro v hv
              subst hv
              refine JT_iadd dX4_openFor_97 ?_
              refine JT_istore_n (lv' := [(3, .int (a3 + (if (vX4_isOpen s L0 P0 a4) = 0 then (0 : Int32) else (if (1 : Int32) = 0 then (if (1 : Int32) = 0 then (0 : Int32) else (1 : Int32)) else (1 : Int32))))), (6, .int (1 : Int32)), (5, .int (1 : Int32)), (0, .ref L0), (1, .int a1), (2, .int a2), (4, .int a4)]) dX4_openFor_98 rfl (Nat.le_of_ble_eq_true rfl) rfl ?_
              refine JT_iinc (q := 6) (v := (a4 + 1)) (lv' := [(4, .int (a4 + 1)), (3, .int (a3 + (if (vX4_isOpen s L0 P0 a4) = 0 then (0 : Int32) else (if (1 : Int32) = 0 then (if (1 : Int32) = 0 then (0 : Int32) else (1 : Int32)) else (1 : Int32))))), (6, .int (1 : Int32)), (5, .int (1 : Int32)), (0, .ref L0), (1, .int a1), (2, .int a2)]) dX4_openFor_99 rfl (by rfl) (Nat.le_of_ble_eq_true rfl) rfl ?_
              refine JT_goto (tgt := 5) dX4_openFor_102 (by decide) ?_
              exact JT_sub [4, 5, 6, 1, 0] rfl h
            refine JT_if_eq (tgt := 96) dX4_openFor_79 (by decide) (fun hc6 => ?_) (fun hc6 => ?_)
            · refine JT_iconst (v := 0) dX4_openFor_96 ic_0 ?_
              exact hj5 _ (by rw [if_pos hc6])
            · refine JT_iload (q := 1) dX4_openFor_82 rfl ?_
              refine JT_if_ne (tgt := 92) dX4_openFor_84 (by decide) (fun hc7 => ?_) (fun hc7 => ?_)
              · refine JT_iconst (v := 1) dX4_openFor_92 ic_1 ?_
                refine JT_goto (tgt := 97) dX4_openFor_93 (by decide) ?_
                exact hj5 _ (by rw [if_neg hc6, if_neg hc7])
              · refine JT_iload (q := 0) dX4_openFor_87 rfl ?_
                refine JT_if_eq (tgt := 96) dX4_openFor_89 (by decide) (fun hc8 => ?_) (fun hc8 => ?_)
                · refine JT_iconst (v := 0) dX4_openFor_96 ic_0 ?_
                  exact hj5 _ (by rw [if_neg hc6, if_pos hc7, if_pos hc8])
                · refine JT_iconst (v := 1) dX4_openFor_92 ic_1 ?_
                  refine JT_goto (tgt := 97) dX4_openFor_93 (by decide) ?_
                  exact hj5 _ (by rw [if_neg hc6, if_pos hc7, if_neg hc8])
set_option maxRecDepth 20000 in
theorem bX4_openFor_40 {L0 P0 : Nat} (hL0 : (L0, P0) ∈ LX) (a1 : Int32) (a2 : Int32) (a3 : Int32) (a4 : Int32) {s : SM} {Q : Int32 → SM → Prop} (h : vp_in a4 60 ∧ ((¬ (gI s (L0 + 2) (a4).toNatClampNeg) = a1 → BI MX4_openFor 2 69 [(0, .ref L0), (1, .int a1), (2, .int a2), (3, .int a3), (4, .int a4), (5, .int (0 : Int32))] s Q) ∧ ((gI s (L0 + 2) (a4).toNatClampNeg) = a1 → vp_in a4 60 ∧ (((gI s (L0 + 1) (a4).toNatClampNeg) = a2 → BI MX4_openFor 2 69 [(0, .ref L0), (1, .int a1), (2, .int a2), (3, .int a3), (4, .int a4), (5, .int (0 : Int32))] s Q) ∧ (¬ (gI s (L0 + 1) (a4).toNatClampNeg) = a2 → rX4_isOpen s L0 P0 a4 ∧ BI MX4_openFor 2 5 [(0, .ref L0), (1, .int a1), (2, .int a2), (3, .int (a3 + (if (vX4_isOpen s L0 P0 a4) = 0 then (0 : Int32) else (if (0 : Int32) = 0 then (if (1 : Int32) = 0 then (0 : Int32) else (1 : Int32)) else (1 : Int32))))), (4, .int (a4 + 1))] s Q))))) : BI MX4_openFor 2 40 [(0, .ref L0), (1, .int a1), (2, .int a2), (3, .int a3), (4, .int a4)] s Q := by
  refine JT_iconst (v := 0) dX4_openFor_40 ic_0 ?_
  refine JT_istore (lv' := [(5, .int (0 : Int32)), (0, .ref L0), (1, .int a1), (2, .int a2), (3, .int a3), (4, .int a4)]) dX4_openFor_41 (Nat.le_of_ble_eq_true rfl) rfl ?_
  refine JT_aload_n (q := 1) dX4_openFor_43 rfl rfl ?_
  refine JS_getR (x := (L0 + 2)) dX4_openFor_44 flX4_15 (lxB hL0) (lx2 hL0) (lxN hL0) (Or.inr ⟨_, ct_4_1⟩) (lxR1 hL0) ?_
  refine JT_iload (q := 5) dX4_openFor_47 rfl ?_
  obtain ⟨o1, h⟩ := h
  refine JS_iald dX4_openFor_49 (lxB2 hL0) (lx2k hL0 _) (lxNk hL0 (Nat.le_of_ble_eq_true rfl)) o1 ?_
  refine JT_iload_n (q := 2) dX4_openFor_50 rfl rfl ?_
  refine JT_icmp_ne (tgt := 69) dX4_openFor_51 (by decide) (fun hc9 => ?_) (fun hc9 => ?_)
  · have h := h.1 hc9
    exact JT_sub [1, 2, 3, 4, 5, 0] rfl h
  · have h := h.2 hc9
    refine JT_aload_n (q := 1) dX4_openFor_54 rfl rfl ?_
    refine JS_getR (x := (L0 + 1)) dX4_openFor_55 flX4_9 (lxB hL0) (lx2 hL0) (lxN hL0) (Or.inr ⟨_, ct_4_0⟩) (lxR0 hL0) ?_
    refine JT_iload (q := 5) dX4_openFor_58 rfl ?_
    obtain ⟨o2, h⟩ := h
    refine JS_iald dX4_openFor_60 (lxB1 hL0) (lx2k hL0 _) (lxNk hL0 (Nat.le_of_ble_eq_true rfl)) o2 ?_
    refine JT_iload_n (q := 3) dX4_openFor_61 rfl rfl ?_
    refine JT_icmp_eq (tgt := 69) dX4_openFor_62 (by decide) (fun hc8 => ?_) (fun hc8 => ?_)
    · have h := h.1 hc8
      exact JT_sub [1, 2, 3, 4, 5, 0] rfl h
    · have h := h.2 hc8
      refine JT_iconst (v := 1) dX4_openFor_65 ic_1 ?_
      refine JT_goto (tgt := 70) dX4_openFor_66 (by decide) ?_
      refine JT_istore (lv' := [(6, .int (1 : Int32)), (5, .int (0 : Int32)), (0, .ref L0), (1, .int a1), (2, .int a2), (3, .int a3), (4, .int a4)]) dX4_openFor_70 (Nat.le_of_ble_eq_true rfl) rfl ?_
      refine JT_iload_n (q := 5) dX4_openFor_72 rfl rfl ?_
      refine JT_aload_n (q := 2) dX4_openFor_73 rfl rfl ?_
      refine JT_iload (q := 6) dX4_openFor_74 rfl ?_
      obtain ⟨o7, h⟩ := h
      refine JS_callVI (M' := MX4_isOpen) (d' := 1) (As := [.int a4]) (rest := [.int a3]) (P := (fun zv9 wm9 => (vX4_isOpen s L0 P0 a4) = zv9 ∧ s = wm9)) dX4_openFor_76 cvX4_94 okX4_isOpen rfl (Nat.le_of_ble_eq_true rfl) (lxB hL0) (lx2 hL0) (lxN hL0) hci_4 (Nat.le_of_ble_eq_true rfl) (Nat.le_of_ble_eq_true rfl) (pX4_isOpen hL0 (a4) o7 ⟨rfl, rfl⟩) (fun zv9 wm9 hq9 => ?_)
      obtain ⟨rfl, rfl⟩ := hq9
      have hj3 : ∀ v : Int32, v = (if (vX4_isOpen s L0 P0 a4) = 0 then (0 : Int32) else (if (0 : Int32) = 0 then (if (1 : Int32) = 0 then (0 : Int32) else (1 : Int32)) else (1 : Int32))) → JT MX4_openFor 2 0 0 97 [(6, .int (1 : Int32)), (5, .int (0 : Int32)), (0, .ref L0), (1, .int a1), (2, .int a2), (3, .int a3), (4, .int a4)] [.int v, .int a3] (std s) (KQ Q) := by
        intro v hv
        subst hv
        refine JT_iadd dX4_openFor_97 ?_
        refine JT_istore_n (lv' := [(3, .int (a3 + (if (vX4_isOpen s L0 P0 a4) = 0 then (0 : Int32) else (if (0 : Int32) = 0 then (if (1 : Int32) = 0 then (0 : Int32) else (1 : Int32)) else (1 : Int32))))), (6, .int (1 : Int32)), (5, .int (0 : Int32)), (0, .ref L0), (1, .int a1), (2, .int a2), (4, .int a4)]) dX4_openFor_98 rfl (Nat.le_of_ble_eq_true rfl) rfl ?_
        refine JT_iinc (q := 6) (v := (a4 + 1)) (lv' := [(4, .int (a4 + 1)), (3, .int (a3 + (if (vX4_isOpen s L0 P0 a4) = 0 then (0 : Int32) else (if (0 : Int32) = 0 then (if (1 : Int32) = 0 then (0 : Int32) else (1 : Int32)) else (1 : Int32))))), (6, .int (1 : Int32)), (5, .int (0 : Int32)), (0, .ref L0), (1, .int a1), (2, .int a2)]) dX4_openFor_99 rfl (by rfl) (Nat.le_of_ble_eq_true rfl) rfl ?_
        refine JT_goto (tgt := 5) dX4_openFor_102 (by decide) ?_
        exact JT_sub [4, 5, 6, 1, 0] rfl h
      refine JT_if_eq (tgt := 96) dX4_openFor_79 (by decide) (fun hc4 => ?_) (fun hc4 => ?_)
      · refine JT_iconst (v := 0) dX4_openFor_96 ic_0 ?_
        exact hj3 _ (by rw [if_pos hc4])
      · refine JT_iload (q := 1) dX4_openFor_82 rfl ?_
        refine JT_if_ne (tgt := 92) dX4_openFor_84 (by decide) (fun hc5 => ?_) (fun hc5 => ?_)
        · refine JT_iconst (v := 1) dX4_openFor_92 ic_1 ?_
          refine JT_goto (tgt := 97) dX4_openFor_93 (by decide) ?_
          exact hj3 _ (by rw [if_neg hc4, if_neg hc5])
        · refine JT_iload (q := 0) dX4_openFor_87 rfl ?_
          refine JT_if_eq (tgt := 96) dX4_openFor_89 (by decide) (fun hc6 => ?_) (fun hc6 => ?_)
          · refine JT_iconst (v := 0) dX4_openFor_96 ic_0 ?_
            exact hj3 _ (by rw [if_neg hc4, if_pos hc5, if_pos hc6])
          · refine JT_iconst (v := 1) dX4_openFor_92 ic_1 ?_
            refine JT_goto (tgt := 97) dX4_openFor_93 (by decide) ?_
            exact hj3 _ (by rw [if_neg hc4, if_pos hc5, if_neg hc6])
set_option maxRecDepth 20000 in
theorem bX4_openFor_69 {L0 P0 : Nat} (hL0 : (L0, P0) ∈ LX) (a1 : Int32) (a2 : Int32) (a3 : Int32) (a4 : Int32) (a5 : Int32) {s : SM} {Q : Int32 → SM → Prop} (h : rX4_isOpen s L0 P0 a4 ∧ BI MX4_openFor 2 5 [(0, .ref L0), (1, .int a1), (2, .int a2), (3, .int (a3 + (if (vX4_isOpen s L0 P0 a4) = 0 then (0 : Int32) else (if a5 = 0 then (if (0 : Int32) = 0 then (0 : Int32) else (1 : Int32)) else (1 : Int32))))), (4, .int (a4 + 1))] s Q) : BI MX4_openFor 2 69 [(0, .ref L0), (1, .int a1), (2, .int a2), (3, .int a3), (4, .int a4), (5, .int a5)] s Q := by
  refine JT_iconst (v := 0) dX4_openFor_69 ic_0 ?_
  refine JT_istore (lv' := [(6, .int (0 : Int32)), (0, .ref L0), (1, .int a1), (2, .int a2), (3, .int a3), (4, .int a4), (5, .int a5)]) dX4_openFor_70 (Nat.le_of_ble_eq_true rfl) rfl ?_
  refine JT_iload_n (q := 4) dX4_openFor_72 rfl rfl ?_
  refine JT_aload_n (q := 1) dX4_openFor_73 rfl rfl ?_
  refine JT_iload (q := 5) dX4_openFor_74 rfl ?_
  obtain ⟨o5, h⟩ := h
  refine JS_callVI (M' := MX4_isOpen) (d' := 1) (As := [.int a4]) (rest := [.int a3]) (P := (fun zv9 wm9 => (vX4_isOpen s L0 P0 a4) = zv9 ∧ s = wm9)) dX4_openFor_76 cvX4_94 okX4_isOpen rfl (Nat.le_of_ble_eq_true rfl) (lxB hL0) (lx2 hL0) (lxN hL0) hci_4 (Nat.le_of_ble_eq_true rfl) (Nat.le_of_ble_eq_true rfl) (pX4_isOpen hL0 (a4) o5 ⟨rfl, rfl⟩) (fun zv9 wm9 hq9 => ?_)
  obtain ⟨rfl, rfl⟩ := hq9
  have hj1 : ∀ v : Int32, v = (if (vX4_isOpen s L0 P0 a4) = 0 then (0 : Int32) else (if a5 = 0 then (if (0 : Int32) = 0 then (0 : Int32) else (1 : Int32)) else (1 : Int32))) → JT MX4_openFor 2 0 0 97 [(6, .int (0 : Int32)), (0, .ref L0), (1, .int a1), (2, .int a2), (3, .int a3), (4, .int a4), (5, .int a5)] [.int v, .int a3] (std s) (KQ Q) := by
    intro v hv
    subst hv
    refine JT_iadd dX4_openFor_97 ?_
    refine JT_istore_n (lv' := [(3, .int (a3 + (if (vX4_isOpen s L0 P0 a4) = 0 then (0 : Int32) else (if a5 = 0 then (if (0 : Int32) = 0 then (0 : Int32) else (1 : Int32)) else (1 : Int32))))), (6, .int (0 : Int32)), (0, .ref L0), (1, .int a1), (2, .int a2), (4, .int a4), (5, .int a5)]) dX4_openFor_98 rfl (Nat.le_of_ble_eq_true rfl) rfl ?_
    refine JT_iinc (q := 5) (v := (a4 + 1)) (lv' := [(4, .int (a4 + 1)), (3, .int (a3 + (if (vX4_isOpen s L0 P0 a4) = 0 then (0 : Int32) else (if a5 = 0 then (if (0 : Int32) = 0 then (0 : Int32) else (1 : Int32)) else (1 : Int32))))), (6, .int (0 : Int32)), (0, .ref L0), (1, .int a1), (2, .int a2), (5, .int a5)]) dX4_openFor_99 rfl (by rfl) (Nat.le_of_ble_eq_true rfl) rfl ?_
    refine JT_goto (tgt := 5) dX4_openFor_102 (by decide) ?_
    exact JT_sub [3, 4, 5, 1, 0] rfl h
  refine JT_if_eq (tgt := 96) dX4_openFor_79 (by decide) (fun hc2 => ?_) (fun hc2 => ?_)
  · refine JT_iconst (v := 0) dX4_openFor_96 ic_0 ?_
    exact hj1 _ (by rw [if_pos hc2])
  · refine JT_iload (q := 6) dX4_openFor_82 rfl ?_
    refine JT_if_ne (tgt := 92) dX4_openFor_84 (by decide) (fun hc3 => ?_) (fun hc3 => ?_)
    · refine JT_iconst (v := 1) dX4_openFor_92 ic_1 ?_
      refine JT_goto (tgt := 97) dX4_openFor_93 (by decide) ?_
      exact hj1 _ (by rw [if_neg hc2, if_neg hc3])
    · refine JT_iload (q := 0) dX4_openFor_87 rfl ?_
      refine JT_if_eq (tgt := 96) dX4_openFor_89 (by decide) (fun hc4 => ?_) (fun hc4 => ?_)
      · refine JT_iconst (v := 0) dX4_openFor_96 ic_0 ?_
        exact hj1 _ (by rw [if_neg hc2, if_pos hc3, if_pos hc4])
      · refine JT_iconst (v := 1) dX4_openFor_92 ic_1 ?_
        refine JT_goto (tgt := 97) dX4_openFor_93 (by decide) ?_
        exact hj1 _ (by rw [if_neg hc2, if_pos hc3, if_neg hc4])
set_option maxRecDepth 20000 in
theorem bX4_openFor {L0 P0 : Nat} (hL0 : (L0, P0) ∈ LX) (a1 : Int32) (a2 : Int32) {s : SM} {Q : Int32 → SM → Prop} (h : BI MX4_openFor 2 5 [(0, .ref L0), (1, .int a1), (2, .int a2), (3, .int (0 : Int32)), (4, .int (0 : Int32))] s Q) : KI MX4_openFor 2 [.ref L0, .int a1, .int a2] s Q := by
  show BI MX4_openFor 2 0 [(0, .ref L0), (1, .int a1), (2, .int a2)] s Q
  refine JT_iconst (v := 0) dX4_openFor_0 ic_0 ?_
  refine JT_istore_n (lv' := [(3, .int (0 : Int32)), (0, .ref L0), (1, .int a1), (2, .int a2)]) dX4_openFor_1 rfl (Nat.le_of_ble_eq_true rfl) rfl ?_
  refine JT_iconst (v := 0) dX4_openFor_2 ic_0 ?_
  refine JT_istore (lv' := [(4, .int (0 : Int32)), (3, .int (0 : Int32)), (0, .ref L0), (1, .int a1), (2, .int a2)]) dX4_openFor_3 (Nat.le_of_ble_eq_true rfl) rfl ?_
  exact JT_sub [2, 3, 4, 1, 0] rfl h
set_option maxRecDepth 20000 in
theorem bX4_takeOff {L0 P0 : Nat} (hL0 : (L0, P0) ∈ LX) (a1 : Int32) (a2 : Int32) {s : SM} {Q : SM → Prop} (h : ((a2 = (-1 : Int32) → Q s) ∧ (¬ a2 = (-1 : Int32) → vp_in a2 9 ∧ vp_in a1 60 ∧ vp_in (gI s (L0 + 4) (a1).toNatClampNeg) 6 ∧ vp_in a2 9 ∧ (∀ s5, s5 = (pI s (L0 + 7) (a2).toNatClampNeg ((gI s (L0 + 7) (a2).toNatClampNeg) + (gI s (P0 + 5) ((gI s (L0 + 4) (a1).toNatClampNeg)).toNatClampNeg))) → (((vX4_lives s5 L0 P0 a2) = 0 → Q s5) ∧ (¬ (vX4_lives s5 L0 P0 a2) = 0 → vp_in a1 60 ∧ rX6_dotOn s5 P0 (gI s5 (L0 + 4) (a1).toNatClampNeg) ∧ rX4_scratch s5 L0 P0 a2 (vX6_dotOn s5 P0 (gI s5 (L0 + 4) (a1).toNatClampNeg)) ∧ Q (mX4_scratch s5 L0 P0 a2 (vX6_dotOn s5 P0 (gI s5 (L0 + 4) (a1).toNatClampNeg))))))))) : KV MX4_takeOff 2 [.ref L0, .int a1, .int a2] s Q := by
  show BV MX4_takeOff 2 0 [(0, .ref L0), (1, .int a1), (2, .int a2)] s Q
  refine JT_iload_n (q := 2) dX4_takeOff_0 rfl rfl ?_
  refine JT_iconst (v := -1) dX4_takeOff_1 ic_m1 ?_
  refine JT_icmp_eq (tgt := 54) dX4_takeOff_2 (by decide) (fun hc11 => ?_) (fun hc11 => ?_)
  · have h := h.1 hc11
    exact JS_vret dX4_takeOff_54 rfl h
  · have h := h.2 hc11
    refine JT_aload_n (q := 0) dX4_takeOff_5 rfl rfl ?_
    refine JS_getR (x := (L0 + 7)) dX4_takeOff_6 flX4_30 (lxB hL0) (lx2 hL0) (lxN hL0) (Or.inr ⟨_, ct_4_6⟩) (lxR6 hL0) ?_
    refine JT_iload_n (q := 2) dX4_takeOff_9 rfl rfl ?_
    refine JT_dup2 dX4_takeOff_10 rfl rfl ?_
    obtain ⟨o1, h⟩ := h
    refine JS_iald dX4_takeOff_11 (lxB7 hL0) (lx2k hL0 _) (lxNk hL0 (Nat.le_of_ble_eq_true rfl)) o1 ?_
    refine JT_aload_n (q := 0) dX4_takeOff_12 rfl rfl ?_
    refine JS_getR (x := P0) dX4_takeOff_13 flX4_45 (lxB hL0) (lx2 hL0) (lxN hL0) (Or.inl ⟨_, ct_4_8⟩) (lxR8 hL0) ?_
    refine JS_getR (x := (P0 + 5)) dX4_takeOff_16 flX4_128 (pxB (lxP hL0)) (px2 (lxP hL0)) (pxN (lxP hL0)) (Or.inr ⟨_, ct_6_4⟩) (pxR4 (lxP hL0)) ?_
    refine JT_aload_n (q := 0) dX4_takeOff_19 rfl rfl ?_
    refine JS_getR (x := (L0 + 4)) dX4_takeOff_20 flX4_21 (lxB hL0) (lx2 hL0) (lxN hL0) (Or.inr ⟨_, ct_4_3⟩) (lxR3 hL0) ?_
    refine JT_iload_n (q := 1) dX4_takeOff_23 rfl rfl ?_
    obtain ⟨o2, h⟩ := h
    refine JS_iald dX4_takeOff_24 (lxB4 hL0) (lx2k hL0 _) (lxNk hL0 (Nat.le_of_ble_eq_true rfl)) o2 ?_
    obtain ⟨o3, h⟩ := h
    refine JS_iald dX4_takeOff_25 (pxB5 (lxP hL0)) (px2k (lxP hL0) _) (pxNk (lxP hL0) (Nat.le_of_ble_eq_true rfl)) o3 ?_
    refine JT_iadd dX4_takeOff_26 ?_
    obtain ⟨o4, h⟩ := h
    refine JS_iast dX4_takeOff_27 (lxB7 hL0) (lx2k hL0 _) (lxNk hL0 (Nat.le_of_ble_eq_true rfl)) o4 ?_
    obtain ⟨s5, hs5⟩ : ∃ z, z = (pI s (L0 + 7) (a2).toNatClampNeg ((gI s (L0 + 7) (a2).toNatClampNeg) + (gI s (P0 + 5) ((gI s (L0 + 4) (a1).toNatClampNeg)).toNatClampNeg))) := ⟨_, rfl⟩
    replace h := h s5 hs5
    rw [← hs5]
    refine JT_aload_n (q := 0) dX4_takeOff_28 rfl rfl ?_
    refine JT_iload_n (q := 2) dX4_takeOff_29 rfl rfl ?_
    refine JS_callVI (M' := MX4_lives) (d' := 0) (As := [.int a2]) (rest := []) (P := (fun zv9 wm9 => (vX4_lives s5 L0 P0 a2) = zv9 ∧ s5 = wm9)) dX4_takeOff_30 cvX4_85 okX4_lives rfl (Nat.le_of_ble_eq_true rfl) (lxB hL0) (lx2 hL0) (lxN hL0) hci_4 (Nat.le_of_ble_eq_true rfl) (Nat.le_of_ble_eq_true rfl) (pX4_lives hL0 (a2)  ⟨rfl, rfl⟩) (fun zv9 wm9 hq9 => ?_)
    obtain ⟨rfl, rfl⟩ := hq9
    refine JT_if_eq (tgt := 54) dX4_takeOff_33 (by decide) (fun hc9 => ?_) (fun hc9 => ?_)
    · have h := h.1 hc9
      exact JS_vret dX4_takeOff_54 rfl h
    · have h := h.2 hc9
      refine JT_aload_n (q := 0) dX4_takeOff_36 rfl rfl ?_
      refine JT_iload_n (q := 2) dX4_takeOff_37 rfl rfl ?_
      refine JT_aload_n (q := 0) dX4_takeOff_38 rfl rfl ?_
      refine JS_getR (x := P0) dX4_takeOff_39 flX4_45 (lxB hL0) (lx2 hL0) (lxN hL0) (Or.inl ⟨_, ct_4_8⟩) (lxR8 hL0) ?_
      refine JT_aload_n (q := 0) dX4_takeOff_42 rfl rfl ?_
      refine JS_getR (x := (L0 + 4)) dX4_takeOff_43 flX4_21 (lxB hL0) (lx2 hL0) (lxN hL0) (Or.inr ⟨_, ct_4_3⟩) (lxR3 hL0) ?_
      refine JT_iload_n (q := 1) dX4_takeOff_46 rfl rfl ?_
      obtain ⟨o6, h⟩ := h
      refine JS_iald dX4_takeOff_47 (lxB4 hL0) (lx2k hL0 _) (lxNk hL0 (Nat.le_of_ble_eq_true rfl)) o6 ?_
      obtain ⟨o8, h⟩ := h
      refine JS_callVI (M' := MX6_dotOn) (d' := 1) (As := [.int (gI s5 (L0 + 4) (a1).toNatClampNeg)]) (rest := [.int a2, .ref L0]) (P := (fun zv9 wm9 => (vX6_dotOn s5 P0 (gI s5 (L0 + 4) (a1).toNatClampNeg)) = zv9 ∧ s5 = wm9)) dX4_takeOff_48 cvX4_151 okX6_dotOn rfl (Nat.le_of_ble_eq_true rfl) (pxB (lxP hL0)) (px2 (lxP hL0)) (pxN (lxP hL0)) hci_6 (Nat.le_of_ble_eq_true rfl) (Nat.le_of_ble_eq_true rfl) (pX6_dotOn (lxP hL0) ((gI s5 (L0 + 4) (a1).toNatClampNeg)) o8 ⟨rfl, rfl⟩) (fun zv9 wm9 hq9 => ?_)
      obtain ⟨rfl, rfl⟩ := hq9
      obtain ⟨o7, h⟩ := h
      refine JS_callVV (M' := MX4_scratch) (d' := 0) (As := [.int a2, .int (vX6_dotOn s5 P0 (gI s5 (L0 + 4) (a1).toNatClampNeg))]) (rest := []) (P := (fun wm9 => (mX4_scratch s5 L0 P0 a2 (vX6_dotOn s5 P0 (gI s5 (L0 + 4) (a1).toNatClampNeg))) = wm9)) dX4_takeOff_51 cvX4_147 okX4_scratch rfl (Nat.le_of_ble_eq_true rfl) (lxB hL0) (lx2 hL0) (lxN hL0) hci_4 (Nat.le_of_ble_eq_true rfl) (Nat.le_of_ble_eq_true rfl) (pX4_scratch hL0 (a2) ((vX6_dotOn s5 P0 (gI s5 (L0 + 4) (a1).toNatClampNeg))) o7 rfl) (fun wm9 hq9 => ?_)
      subst hq9
      exact JS_vret dX4_takeOff_54 rfl h
set_option maxRecDepth 20000 in
def mX4_takeOff (s : SM) (L0 P0 : Nat) (a1 : Int32) (a2 : Int32) : SM := (if a2 = (-1 : Int32) then s else ((fun (s5 : SM) => (if (vX4_lives s5 L0 P0 a2) = 0 then s5 else (mX4_scratch s5 L0 P0 a2 (vX6_dotOn s5 P0 (gI s5 (L0 + 4) (a1).toNatClampNeg))))) (pI s (L0 + 7) (a2).toNatClampNeg ((gI s (L0 + 7) (a2).toNatClampNeg) + (gI s (P0 + 5) ((gI s (L0 + 4) (a1).toNatClampNeg)).toNatClampNeg)))))
set_option maxRecDepth 20000 in
def rX4_takeOff (s : SM) (L0 P0 : Nat) (a1 : Int32) (a2 : Int32) : Prop := (¬ a2 = (-1 : Int32) → vp_in a2 9 ∧ vp_in a1 60 ∧ vp_in (gI s (L0 + 4) (a1).toNatClampNeg) 6 ∧ vp_in a2 9 ∧ (∀ s5, s5 = (pI s (L0 + 7) (a2).toNatClampNeg ((gI s (L0 + 7) (a2).toNatClampNeg) + (gI s (P0 + 5) ((gI s (L0 + 4) (a1).toNatClampNeg)).toNatClampNeg))) → (¬ (vX4_lives s5 L0 P0 a2) = 0 → vp_in a1 60 ∧ rX6_dotOn s5 P0 (gI s5 (L0 + 4) (a1).toNatClampNeg) ∧ rX4_scratch s5 L0 P0 a2 (vX6_dotOn s5 P0 (gI s5 (L0 + 4) (a1).toNatClampNeg)))))
set_option maxRecDepth 20000 in
theorem pX4_takeOff {L0 P0 : Nat} (hL0 : (L0, P0) ∈ LX) (a1 : Int32) (a2 : Int32) {s : SM} {Q : SM → Prop} (hr : rX4_takeOff s L0 P0 a1 a2) (h : Q (mX4_takeOff s L0 P0 a1 a2)) : KV MX4_takeOff 2 [.ref L0, .int a1, .int a2] s Q := by
  refine bX4_takeOff hL0 a1 a2 ?_
  unfold rX4_takeOff at hr
  unfold mX4_takeOff at h
  refine ⟨fun c => ?_, fun c => ?_⟩
  · try simp only [if_pos c] at h
    first | exact h | contradiction
  · replace hr := hr c
    try simp only [if_neg c] at h
    refine ⟨hr.1, ?_⟩
    replace hr := hr.2
    refine ⟨hr.1, ?_⟩
    replace hr := hr.2
    refine ⟨hr.1, ?_⟩
    replace hr := hr.2
    refine ⟨hr.1, ?_⟩
    replace hr := hr.2
    intro s5 e9
    replace hr := hr s5 e9
    subst e9
    refine ⟨fun c => ?_, fun c => ?_⟩
    · try simp only [if_pos c] at h
      first | exact h | contradiction
    · replace hr := hr c
      try simp only [if_neg c] at h
      refine ⟨hr.1, ?_⟩
      replace hr := hr.2
      refine ⟨hr.1, ?_⟩
      replace hr := hr.2
      refine ⟨hr, ?_⟩
      first | exact h | contradiction
set_option maxRecDepth 20000 in
theorem bX4_tryBury_37 {L0 P0 : Nat} (hL0 : (L0, P0) ∈ LX) (a1 : Int32) (a2 : Int32) (a3 : Int32) {s : SM} {Q : Int32 → SM → Prop} (h : (((gI s L0 9) ≤ a3 → Q (0 : Int32) s) ∧ (¬ (gI s L0 9) ≤ a3 → rX4_isOpen s L0 P0 a3 ∧ (((vX4_isOpen s L0 P0 a3) = 0 → BI MX4_tryBury 2 37 [(0, .ref L0), (1, .int a1), (2, .int a2), (3, .int (a3 + 1))] s Q) ∧ (¬ (vX4_isOpen s L0 P0 a3) = 0 → vp_in a3 60 ∧ ((¬ (gI s (L0 + 1) (a3).toNatClampNeg) = a1 → vp_in a3 60 ∧ vp_in a3 60 ∧ vp_in a3 60 ∧ ((¬ (gI (pI s (L0 + 1) (a3).toNatClampNeg (gI s (L0 + 1) (a3).toNatClampNeg)) (L0 + 2) (a3).toNatClampNeg) = a1 → vp_in a3 60 ∧ vp_in a3 60 ∧ (∀ s7, s7 = (pI (pI s (L0 + 1) (a3).toNatClampNeg (gI s (L0 + 1) (a3).toNatClampNeg)) (L0 + 2) (a3).toNatClampNeg (gI (pI s (L0 + 1) (a3).toNatClampNeg (gI s (L0 + 1) (a3).toNatClampNeg)) (L0 + 2) (a3).toNatClampNeg)) → vp_in a3 60 ∧ vp_in a3 60 ∧ vp_in a3 60 ∧ (∀ s11, s11 = (pI s7 (L0 + 6) (a3).toNatClampNeg (if (gI s7 (L0 + 1) (a3).toNatClampNeg) = (gI s7 (L0 + 2) (a3).toNatClampNeg) then (2 : Int32) else (0 : Int32))) → BI MX4_tryBury 2 37 [(0, .ref L0), (1, .int a1), (2, .int a2), (3, .int (a3 + 1))] s11 Q))) ∧ ((gI (pI s (L0 + 1) (a3).toNatClampNeg (gI s (L0 + 1) (a3).toNatClampNeg)) (L0 + 2) (a3).toNatClampNeg) = a1 → vp_in a3 60 ∧ vp_in a3 60 ∧ vp_in a3 60 ∧ vp_in a3 60 ∧ (∀ s18, s18 = (pI (pI (pI s (L0 + 1) (a3).toNatClampNeg (gI s (L0 + 1) (a3).toNatClampNeg)) (L0 + 2) (a3).toNatClampNeg a2) (L0 + 6) (a3).toNatClampNeg (if (gI (pI (pI s (L0 + 1) (a3).toNatClampNeg (gI s (L0 + 1) (a3).toNatClampNeg)) (L0 + 2) (a3).toNatClampNeg a2) (L0 + 1) (a3).toNatClampNeg) = (gI (pI (pI s (L0 + 1) (a3).toNatClampNeg (gI s (L0 + 1) (a3).toNatClampNeg)) (L0 + 2) (a3).toNatClampNeg a2) (L0 + 2) (a3).toNatClampNeg) then (2 : Int32) else (0 : Int32))) → BI MX4_tryBury 2 37 [(0, .ref L0), (1, .int a1), (2, .int a2), (3, .int (a3 + 1))] s18 Q)))) ∧ ((gI s (L0 + 1) (a3).toNatClampNeg) = a1 → vp_in a3 60 ∧ vp_in a3 60 ∧ ((¬ (gI (pI s (L0 + 1) (a3).toNatClampNeg a2) (L0 + 2) (a3).toNatClampNeg) = a1 → vp_in a3 60 ∧ vp_in a3 60 ∧ (∀ s26, s26 = (pI (pI s (L0 + 1) (a3).toNatClampNeg a2) (L0 + 2) (a3).toNatClampNeg (gI (pI s (L0 + 1) (a3).toNatClampNeg a2) (L0 + 2) (a3).toNatClampNeg)) → vp_in a3 60 ∧ vp_in a3 60 ∧ vp_in a3 60 ∧ (∀ s30, s30 = (pI s26 (L0 + 6) (a3).toNatClampNeg (if (gI s26 (L0 + 1) (a3).toNatClampNeg) = (gI s26 (L0 + 2) (a3).toNatClampNeg) then (2 : Int32) else (0 : Int32))) → BI MX4_tryBury 2 37 [(0, .ref L0), (1, .int a1), (2, .int a2), (3, .int (a3 + 1))] s30 Q))) ∧ ((gI (pI s (L0 + 1) (a3).toNatClampNeg a2) (L0 + 2) (a3).toNatClampNeg) = a1 → vp_in a3 60 ∧ vp_in a3 60 ∧ vp_in a3 60 ∧ vp_in a3 60 ∧ (∀ s37, s37 = (pI (pI (pI s (L0 + 1) (a3).toNatClampNeg a2) (L0 + 2) (a3).toNatClampNeg a2) (L0 + 6) (a3).toNatClampNeg (if (gI (pI (pI s (L0 + 1) (a3).toNatClampNeg a2) (L0 + 2) (a3).toNatClampNeg a2) (L0 + 1) (a3).toNatClampNeg) = (gI (pI (pI s (L0 + 1) (a3).toNatClampNeg a2) (L0 + 2) (a3).toNatClampNeg a2) (L0 + 2) (a3).toNatClampNeg) then (2 : Int32) else (0 : Int32))) → BI MX4_tryBury 2 37 [(0, .ref L0), (1, .int a1), (2, .int a2), (3, .int (a3 + 1))] s37 Q)))))))))) : BI MX4_tryBury 2 37 [(0, .ref L0), (1, .int a1), (2, .int a2), (3, .int a3)] s Q := by
  refine JT_iload_n (q := 3) dX4_tryBury_37 rfl rfl ?_
  refine JT_aload_n (q := 0) dX4_tryBury_38 rfl rfl ?_
  refine JS_getI dX4_tryBury_39 flX4_49 (lxB hL0) (lx2 hL0) (lxN hL0) (Or.inl ct_4_9) ?_
  refine JT_icmp_ge (tgt := 137) dX4_tryBury_42 (by decide) (fun hc44 => ?_) (fun hc44 => ?_)
  · have h := h.1 hc44
    refine JT_iconst (v := 0) dX4_tryBury_137 ic_0 ?_
    exact JS_iret dX4_tryBury_138 rfl rfl h
  · have h := h.2 hc44
    refine JT_aload_n (q := 0) dX4_tryBury_45 rfl rfl ?_
    refine JT_iload_n (q := 3) dX4_tryBury_46 rfl rfl ?_
    obtain ⟨o43, h⟩ := h
    refine JS_callVI (M' := MX4_isOpen) (d' := 1) (As := [.int a3]) (rest := []) (P := (fun zv9 wm9 => (vX4_isOpen s L0 P0 a3) = zv9 ∧ s = wm9)) dX4_tryBury_47 cvX4_94 okX4_isOpen rfl (Nat.le_of_ble_eq_true rfl) (lxB hL0) (lx2 hL0) (lxN hL0) hci_4 (Nat.le_of_ble_eq_true rfl) (Nat.le_of_ble_eq_true rfl) (pX4_isOpen hL0 (a3) o43 ⟨rfl, rfl⟩) (fun zv9 wm9 hq9 => ?_)
    obtain ⟨rfl, rfl⟩ := hq9
    refine JT_if_eq (tgt := 131) dX4_tryBury_50 (by decide) (fun hc42 => ?_) (fun hc42 => ?_)
    · have h := h.1 hc42
      refine JT_iinc (q := 3) (v := (a3 + 1)) (lv' := [(3, .int (a3 + 1)), (0, .ref L0), (1, .int a1), (2, .int a2)]) dX4_tryBury_131 rfl (by rfl) (Nat.le_of_ble_eq_true rfl) rfl ?_
      refine JT_goto (tgt := 37) dX4_tryBury_134 (by decide) ?_
      exact JT_sub [1, 2, 3, 0] rfl h
    · have h := h.2 hc42
      refine JT_aload_n (q := 0) dX4_tryBury_53 rfl rfl ?_
      refine JS_getR (x := (L0 + 1)) dX4_tryBury_54 flX4_9 (lxB hL0) (lx2 hL0) (lxN hL0) (Or.inr ⟨_, ct_4_0⟩) (lxR0 hL0) ?_
      refine JT_iload_n (q := 3) dX4_tryBury_57 rfl rfl ?_
      refine JT_aload_n (q := 0) dX4_tryBury_58 rfl rfl ?_
      refine JS_getR (x := (L0 + 1)) dX4_tryBury_59 flX4_9 (lxB hL0) (lx2 hL0) (lxN hL0) (Or.inr ⟨_, ct_4_0⟩) (lxR0 hL0) ?_
      refine JT_iload_n (q := 3) dX4_tryBury_62 rfl rfl ?_
      obtain ⟨o1, h⟩ := h
      refine JS_iald dX4_tryBury_63 (lxB1 hL0) (lx2k hL0 _) (lxNk hL0 (Nat.le_of_ble_eq_true rfl)) o1 ?_
      refine JT_iload_n (q := 1) dX4_tryBury_64 rfl rfl ?_
      refine JT_icmp_ne (tgt := 72) dX4_tryBury_65 (by decide) (fun hc41 => ?_) (fun hc41 => ?_)
      · have h := h.1 hc41
        refine JT_aload_n (q := 0) dX4_tryBury_72 rfl rfl ?_
        refine JS_getR (x := (L0 + 1)) dX4_tryBury_73 flX4_9 (lxB hL0) (lx2 hL0) (lxN hL0) (Or.inr ⟨_, ct_4_0⟩) (lxR0 hL0) ?_
        refine JT_iload_n (q := 3) dX4_tryBury_76 rfl rfl ?_
        obtain ⟨o2, h⟩ := h
        refine JS_iald dX4_tryBury_77 (lxB1 hL0) (lx2k hL0 _) (lxNk hL0 (Nat.le_of_ble_eq_true rfl)) o2 ?_
        obtain ⟨o3, h⟩ := h
        refine JS_iast dX4_tryBury_78 (lxB1 hL0) (lx2k hL0 _) (lxNk hL0 (Nat.le_of_ble_eq_true rfl)) o3 ?_
        refine JT_aload_n (q := 0) dX4_tryBury_79 rfl rfl ?_
        refine JS_getR (x := (L0 + 2)) dX4_tryBury_80 flX4_15 (lxB hL0) (lx2 hL0) (lxN hL0) (Or.inr ⟨_, ct_4_1⟩) (lxR1 hL0) ?_
        refine JT_iload_n (q := 3) dX4_tryBury_83 rfl rfl ?_
        refine JT_aload_n (q := 0) dX4_tryBury_84 rfl rfl ?_
        refine JS_getR (x := (L0 + 2)) dX4_tryBury_85 flX4_15 (lxB hL0) (lx2 hL0) (lxN hL0) (Or.inr ⟨_, ct_4_1⟩) (lxR1 hL0) ?_
        refine JT_iload_n (q := 3) dX4_tryBury_88 rfl rfl ?_
        obtain ⟨o4, h⟩ := h
        refine JS_iald dX4_tryBury_89 (lxB2 hL0) (lx2k hL0 _) (lxNk hL0 (Nat.le_of_ble_eq_true rfl)) o4 ?_
        refine JT_iload_n (q := 1) dX4_tryBury_90 rfl rfl ?_
        refine JT_icmp_ne (tgt := 98) dX4_tryBury_91 (by decide) (fun hc21 => ?_) (fun hc21 => ?_)
        · have h := h.1 hc21
          refine JT_aload_n (q := 0) dX4_tryBury_98 rfl rfl ?_
          refine JS_getR (x := (L0 + 2)) dX4_tryBury_99 flX4_15 (lxB hL0) (lx2 hL0) (lxN hL0) (Or.inr ⟨_, ct_4_1⟩) (lxR1 hL0) ?_
          refine JT_iload_n (q := 3) dX4_tryBury_102 rfl rfl ?_
          obtain ⟨o5, h⟩ := h
          refine JS_iald dX4_tryBury_103 (lxB2 hL0) (lx2k hL0 _) (lxNk hL0 (Nat.le_of_ble_eq_true rfl)) o5 ?_
          obtain ⟨o6, h⟩ := h
          refine JS_iast dX4_tryBury_104 (lxB2 hL0) (lx2k hL0 _) (lxNk hL0 (Nat.le_of_ble_eq_true rfl)) o6 ?_
          obtain ⟨s7, hs7⟩ : ∃ z, z = (pI (pI s (L0 + 1) (a3).toNatClampNeg (gI s (L0 + 1) (a3).toNatClampNeg)) (L0 + 2) (a3).toNatClampNeg (gI (pI s (L0 + 1) (a3).toNatClampNeg (gI s (L0 + 1) (a3).toNatClampNeg)) (L0 + 2) (a3).toNatClampNeg)) := ⟨_, rfl⟩
          replace h := h s7 hs7
          rw [← hs7]
          refine JT_aload_n (q := 0) dX4_tryBury_105 rfl rfl ?_
          refine JS_getR (x := (L0 + 6)) dX4_tryBury_106 flX4_27 (lxB hL0) (lx2 hL0) (lxN hL0) (Or.inr ⟨_, ct_4_5⟩) (lxR5 hL0) ?_
          refine JT_iload_n (q := 3) dX4_tryBury_109 rfl rfl ?_
          refine JT_aload_n (q := 0) dX4_tryBury_110 rfl rfl ?_
          refine JS_getR (x := (L0 + 1)) dX4_tryBury_111 flX4_9 (lxB hL0) (lx2 hL0) (lxN hL0) (Or.inr ⟨_, ct_4_0⟩) (lxR0 hL0) ?_
          refine JT_iload_n (q := 3) dX4_tryBury_114 rfl rfl ?_
          obtain ⟨o8, h⟩ := h
          refine JS_iald dX4_tryBury_115 (lxB1 hL0) (lx2k hL0 _) (lxNk hL0 (Nat.le_of_ble_eq_true rfl)) o8 ?_
          refine JT_aload_n (q := 0) dX4_tryBury_116 rfl rfl ?_
          refine JS_getR (x := (L0 + 2)) dX4_tryBury_117 flX4_15 (lxB hL0) (lx2 hL0) (lxN hL0) (Or.inr ⟨_, ct_4_1⟩) (lxR1 hL0) ?_
          refine JT_iload_n (q := 3) dX4_tryBury_120 rfl rfl ?_
          obtain ⟨o9, h⟩ := h
          refine JS_iald dX4_tryBury_121 (lxB2 hL0) (lx2k hL0 _) (lxNk hL0 (Nat.le_of_ble_eq_true rfl)) o9 ?_
          have hj12 : ∀ v : Int32, v = (if (gI s7 (L0 + 1) (a3).toNatClampNeg) = (gI s7 (L0 + 2) (a3).toNatClampNeg) then (2 : Int32) else (0 : Int32)) → JT MX4_tryBury 2 0 0 130 [(0, .ref L0), (1, .int a1), (2, .int a2), (3, .int a3)] [.int v, .int a3, .ref (L0 + 6)] (std s7) (KQ Q) := by
            intro v hv
            subst hv
            obtain ⟨o10, h⟩ := h
            refine JS_iast dX4_tryBury_130 (lxB6 hL0) (lx2k hL0 _) (lxNk hL0 (Nat.le_of_ble_eq_true rfl)) o10 ?_
            obtain ⟨s11, hs11⟩ : ∃ z, z = (pI s7 (L0 + 6) (a3).toNatClampNeg (if (gI s7 (L0 + 1) (a3).toNatClampNeg) = (gI s7 (L0 + 2) (a3).toNatClampNeg) then (2 : Int32) else (0 : Int32))) := ⟨_, rfl⟩
            replace h := h s11 hs11
            rw [← hs11]
            refine JT_iinc (q := 3) (v := (a3 + 1)) (lv' := [(3, .int (a3 + 1)), (0, .ref L0), (1, .int a1), (2, .int a2)]) dX4_tryBury_131 rfl (by rfl) (Nat.le_of_ble_eq_true rfl) rfl ?_
            refine JT_goto (tgt := 37) dX4_tryBury_134 (by decide) ?_
            exact JT_sub [1, 2, 3, 0] rfl h
          refine JT_icmp_ne (tgt := 129) dX4_tryBury_122 (by decide) (fun hc13 => ?_) (fun hc13 => ?_)
          · refine JT_iconst (v := 0) dX4_tryBury_129 ic_0 ?_
            exact hj12 _ (by rw [if_neg hc13])
          · refine JT_iconst (v := 2) dX4_tryBury_125 ic_2 ?_
            refine JT_goto (tgt := 130) dX4_tryBury_126 (by decide) ?_
            exact hj12 _ (by rw [if_pos hc13])
        · have h := h.2 hc21
          refine JT_iload_n (q := 2) dX4_tryBury_94 rfl rfl ?_
          refine JT_goto (tgt := 104) dX4_tryBury_95 (by decide) ?_
          obtain ⟨o14, h⟩ := h
          refine JS_iast dX4_tryBury_104 (lxB2 hL0) (lx2k hL0 _) (lxNk hL0 (Nat.le_of_ble_eq_true rfl)) o14 ?_
          refine JT_aload_n (q := 0) dX4_tryBury_105 rfl rfl ?_
          refine JS_getR (x := (L0 + 6)) dX4_tryBury_106 flX4_27 (lxB hL0) (lx2 hL0) (lxN hL0) (Or.inr ⟨_, ct_4_5⟩) (lxR5 hL0) ?_
          refine JT_iload_n (q := 3) dX4_tryBury_109 rfl rfl ?_
          refine JT_aload_n (q := 0) dX4_tryBury_110 rfl rfl ?_
          refine JS_getR (x := (L0 + 1)) dX4_tryBury_111 flX4_9 (lxB hL0) (lx2 hL0) (lxN hL0) (Or.inr ⟨_, ct_4_0⟩) (lxR0 hL0) ?_
          refine JT_iload_n (q := 3) dX4_tryBury_114 rfl rfl ?_
          obtain ⟨o15, h⟩ := h
          refine JS_iald dX4_tryBury_115 (lxB1 hL0) (lx2k hL0 _) (lxNk hL0 (Nat.le_of_ble_eq_true rfl)) o15 ?_
          refine JT_aload_n (q := 0) dX4_tryBury_116 rfl rfl ?_
          refine JS_getR (x := (L0 + 2)) dX4_tryBury_117 flX4_15 (lxB hL0) (lx2 hL0) (lxN hL0) (Or.inr ⟨_, ct_4_1⟩) (lxR1 hL0) ?_
          refine JT_iload_n (q := 3) dX4_tryBury_120 rfl rfl ?_
          obtain ⟨o16, h⟩ := h
          refine JS_iald dX4_tryBury_121 (lxB2 hL0) (lx2k hL0 _) (lxNk hL0 (Nat.le_of_ble_eq_true rfl)) o16 ?_
          have hj19 : ∀ v : Int32, v = (if (gI (pI (pI s (L0 + 1) (a3).toNatClampNeg (gI s (L0 + 1) (a3).toNatClampNeg)) (L0 + 2) (a3).toNatClampNeg a2) (L0 + 1) (a3).toNatClampNeg) = (gI (pI (pI s (L0 + 1) (a3).toNatClampNeg (gI s (L0 + 1) (a3).toNatClampNeg)) (L0 + 2) (a3).toNatClampNeg a2) (L0 + 2) (a3).toNatClampNeg) then (2 : Int32) else (0 : Int32)) → JT MX4_tryBury 2 0 0 130 [(0, .ref L0), (1, .int a1), (2, .int a2), (3, .int a3)] [.int v, .int a3, .ref (L0 + 6)] (std (pI (pI s (L0 + 1) (a3).toNatClampNeg (gI s (L0 + 1) (a3).toNatClampNeg)) (L0 + 2) (a3).toNatClampNeg a2)) (KQ Q) := by
            intro v hv
            subst hv
            obtain ⟨o17, h⟩ := h
            refine JS_iast dX4_tryBury_130 (lxB6 hL0) (lx2k hL0 _) (lxNk hL0 (Nat.le_of_ble_eq_true rfl)) o17 ?_
            obtain ⟨s18, hs18⟩ : ∃ z, z = (pI (pI (pI s (L0 + 1) (a3).toNatClampNeg (gI s (L0 + 1) (a3).toNatClampNeg)) (L0 + 2) (a3).toNatClampNeg a2) (L0 + 6) (a3).toNatClampNeg (if (gI (pI (pI s (L0 + 1) (a3).toNatClampNeg (gI s (L0 + 1) (a3).toNatClampNeg)) (L0 + 2) (a3).toNatClampNeg a2) (L0 + 1) (a3).toNatClampNeg) = (gI (pI (pI s (L0 + 1) (a3).toNatClampNeg (gI s (L0 + 1) (a3).toNatClampNeg)) (L0 + 2) (a3).toNatClampNeg a2) (L0 + 2) (a3).toNatClampNeg) then (2 : Int32) else (0 : Int32))) := ⟨_, rfl⟩
            replace h := h s18 hs18
            rw [← hs18]
            refine JT_iinc (q := 3) (v := (a3 + 1)) (lv' := [(3, .int (a3 + 1)), (0, .ref L0), (1, .int a1), (2, .int a2)]) dX4_tryBury_131 rfl (by rfl) (Nat.le_of_ble_eq_true rfl) rfl ?_
            refine JT_goto (tgt := 37) dX4_tryBury_134 (by decide) ?_
            exact JT_sub [1, 2, 3, 0] rfl h
          refine JT_icmp_ne (tgt := 129) dX4_tryBury_122 (by decide) (fun hc20 => ?_) (fun hc20 => ?_)
          · refine JT_iconst (v := 0) dX4_tryBury_129 ic_0 ?_
            exact hj19 _ (by rw [if_neg hc20])
          · refine JT_iconst (v := 2) dX4_tryBury_125 ic_2 ?_
            refine JT_goto (tgt := 130) dX4_tryBury_126 (by decide) ?_
            exact hj19 _ (by rw [if_pos hc20])
      · have h := h.2 hc41
        refine JT_iload_n (q := 2) dX4_tryBury_68 rfl rfl ?_
        refine JT_goto (tgt := 78) dX4_tryBury_69 (by decide) ?_
        obtain ⟨o22, h⟩ := h
        refine JS_iast dX4_tryBury_78 (lxB1 hL0) (lx2k hL0 _) (lxNk hL0 (Nat.le_of_ble_eq_true rfl)) o22 ?_
        refine JT_aload_n (q := 0) dX4_tryBury_79 rfl rfl ?_
        refine JS_getR (x := (L0 + 2)) dX4_tryBury_80 flX4_15 (lxB hL0) (lx2 hL0) (lxN hL0) (Or.inr ⟨_, ct_4_1⟩) (lxR1 hL0) ?_
        refine JT_iload_n (q := 3) dX4_tryBury_83 rfl rfl ?_
        refine JT_aload_n (q := 0) dX4_tryBury_84 rfl rfl ?_
        refine JS_getR (x := (L0 + 2)) dX4_tryBury_85 flX4_15 (lxB hL0) (lx2 hL0) (lxN hL0) (Or.inr ⟨_, ct_4_1⟩) (lxR1 hL0) ?_
        refine JT_iload_n (q := 3) dX4_tryBury_88 rfl rfl ?_
        obtain ⟨o23, h⟩ := h
        refine JS_iald dX4_tryBury_89 (lxB2 hL0) (lx2k hL0 _) (lxNk hL0 (Nat.le_of_ble_eq_true rfl)) o23 ?_
        refine JT_iload_n (q := 1) dX4_tryBury_90 rfl rfl ?_
        refine JT_icmp_ne (tgt := 98) dX4_tryBury_91 (by decide) (fun hc40 => ?_) (fun hc40 => ?_)
        · have h := h.1 hc40
          refine JT_aload_n (q := 0) dX4_tryBury_98 rfl rfl ?_
          refine JS_getR (x := (L0 + 2)) dX4_tryBury_99 flX4_15 (lxB hL0) (lx2 hL0) (lxN hL0) (Or.inr ⟨_, ct_4_1⟩) (lxR1 hL0) ?_
          refine JT_iload_n (q := 3) dX4_tryBury_102 rfl rfl ?_
          obtain ⟨o24, h⟩ := h
          refine JS_iald dX4_tryBury_103 (lxB2 hL0) (lx2k hL0 _) (lxNk hL0 (Nat.le_of_ble_eq_true rfl)) o24 ?_
          obtain ⟨o25, h⟩ := h
          refine JS_iast dX4_tryBury_104 (lxB2 hL0) (lx2k hL0 _) (lxNk hL0 (Nat.le_of_ble_eq_true rfl)) o25 ?_
          obtain ⟨s26, hs26⟩ : ∃ z, z = (pI (pI s (L0 + 1) (a3).toNatClampNeg a2) (L0 + 2) (a3).toNatClampNeg (gI (pI s (L0 + 1) (a3).toNatClampNeg a2) (L0 + 2) (a3).toNatClampNeg)) := ⟨_, rfl⟩
          replace h := h s26 hs26
          rw [← hs26]
          refine JT_aload_n (q := 0) dX4_tryBury_105 rfl rfl ?_
          refine JS_getR (x := (L0 + 6)) dX4_tryBury_106 flX4_27 (lxB hL0) (lx2 hL0) (lxN hL0) (Or.inr ⟨_, ct_4_5⟩) (lxR5 hL0) ?_
          refine JT_iload_n (q := 3) dX4_tryBury_109 rfl rfl ?_
          refine JT_aload_n (q := 0) dX4_tryBury_110 rfl rfl ?_
          refine JS_getR (x := (L0 + 1)) dX4_tryBury_111 flX4_9 (lxB hL0) (lx2 hL0) (lxN hL0) (Or.inr ⟨_, ct_4_0⟩) (lxR0 hL0) ?_
          refine JT_iload_n (q := 3) dX4_tryBury_114 rfl rfl ?_
          obtain ⟨o27, h⟩ := h
          refine JS_iald dX4_tryBury_115 (lxB1 hL0) (lx2k hL0 _) (lxNk hL0 (Nat.le_of_ble_eq_true rfl)) o27 ?_
          refine JT_aload_n (q := 0) dX4_tryBury_116 rfl rfl ?_
          refine JS_getR (x := (L0 + 2)) dX4_tryBury_117 flX4_15 (lxB hL0) (lx2 hL0) (lxN hL0) (Or.inr ⟨_, ct_4_1⟩) (lxR1 hL0) ?_
          refine JT_iload_n (q := 3) dX4_tryBury_120 rfl rfl ?_
          obtain ⟨o28, h⟩ := h
          refine JS_iald dX4_tryBury_121 (lxB2 hL0) (lx2k hL0 _) (lxNk hL0 (Nat.le_of_ble_eq_true rfl)) o28 ?_
          have hj31 : ∀ v : Int32, v = (if (gI s26 (L0 + 1) (a3).toNatClampNeg) = (gI s26 (L0 + 2) (a3).toNatClampNeg) then (2 : Int32) else (0 : Int32)) → JT MX4_tryBury 2 0 0 130 [(0, .ref L0), (1, .int a1), (2, .int a2), (3, .int a3)] [.int v, .int a3, .ref (L0 + 6)] (std s26) (KQ Q) := by
            intro v hv
            subst hv
            obtain ⟨o29, h⟩ := h
            refine JS_iast dX4_tryBury_130 (lxB6 hL0) (lx2k hL0 _) (lxNk hL0 (Nat.le_of_ble_eq_true rfl)) o29 ?_
            obtain ⟨s30, hs30⟩ : ∃ z, z = (pI s26 (L0 + 6) (a3).toNatClampNeg (if (gI s26 (L0 + 1) (a3).toNatClampNeg) = (gI s26 (L0 + 2) (a3).toNatClampNeg) then (2 : Int32) else (0 : Int32))) := ⟨_, rfl⟩
            replace h := h s30 hs30
            rw [← hs30]
            refine JT_iinc (q := 3) (v := (a3 + 1)) (lv' := [(3, .int (a3 + 1)), (0, .ref L0), (1, .int a1), (2, .int a2)]) dX4_tryBury_131 rfl (by rfl) (Nat.le_of_ble_eq_true rfl) rfl ?_
            refine JT_goto (tgt := 37) dX4_tryBury_134 (by decide) ?_
            exact JT_sub [1, 2, 3, 0] rfl h
          refine JT_icmp_ne (tgt := 129) dX4_tryBury_122 (by decide) (fun hc32 => ?_) (fun hc32 => ?_)
          · refine JT_iconst (v := 0) dX4_tryBury_129 ic_0 ?_
            exact hj31 _ (by rw [if_neg hc32])
          · refine JT_iconst (v := 2) dX4_tryBury_125 ic_2 ?_
            refine JT_goto (tgt := 130) dX4_tryBury_126 (by decide) ?_
            exact hj31 _ (by rw [if_pos hc32])
        · have h := h.2 hc40
          refine JT_iload_n (q := 2) dX4_tryBury_94 rfl rfl ?_
          refine JT_goto (tgt := 104) dX4_tryBury_95 (by decide) ?_
          obtain ⟨o33, h⟩ := h
          refine JS_iast dX4_tryBury_104 (lxB2 hL0) (lx2k hL0 _) (lxNk hL0 (Nat.le_of_ble_eq_true rfl)) o33 ?_
          refine JT_aload_n (q := 0) dX4_tryBury_105 rfl rfl ?_
          refine JS_getR (x := (L0 + 6)) dX4_tryBury_106 flX4_27 (lxB hL0) (lx2 hL0) (lxN hL0) (Or.inr ⟨_, ct_4_5⟩) (lxR5 hL0) ?_
          refine JT_iload_n (q := 3) dX4_tryBury_109 rfl rfl ?_
          refine JT_aload_n (q := 0) dX4_tryBury_110 rfl rfl ?_
          refine JS_getR (x := (L0 + 1)) dX4_tryBury_111 flX4_9 (lxB hL0) (lx2 hL0) (lxN hL0) (Or.inr ⟨_, ct_4_0⟩) (lxR0 hL0) ?_
          refine JT_iload_n (q := 3) dX4_tryBury_114 rfl rfl ?_
          obtain ⟨o34, h⟩ := h
          refine JS_iald dX4_tryBury_115 (lxB1 hL0) (lx2k hL0 _) (lxNk hL0 (Nat.le_of_ble_eq_true rfl)) o34 ?_
          refine JT_aload_n (q := 0) dX4_tryBury_116 rfl rfl ?_
          refine JS_getR (x := (L0 + 2)) dX4_tryBury_117 flX4_15 (lxB hL0) (lx2 hL0) (lxN hL0) (Or.inr ⟨_, ct_4_1⟩) (lxR1 hL0) ?_
          refine JT_iload_n (q := 3) dX4_tryBury_120 rfl rfl ?_
          obtain ⟨o35, h⟩ := h
          refine JS_iald dX4_tryBury_121 (lxB2 hL0) (lx2k hL0 _) (lxNk hL0 (Nat.le_of_ble_eq_true rfl)) o35 ?_
          have hj38 : ∀ v : Int32, v = (if (gI (pI (pI s (L0 + 1) (a3).toNatClampNeg a2) (L0 + 2) (a3).toNatClampNeg a2) (L0 + 1) (a3).toNatClampNeg) = (gI (pI (pI s (L0 + 1) (a3).toNatClampNeg a2) (L0 + 2) (a3).toNatClampNeg a2) (L0 + 2) (a3).toNatClampNeg) then (2 : Int32) else (0 : Int32)) → JT MX4_tryBury 2 0 0 130 [(0, .ref L0), (1, .int a1), (2, .int a2), (3, .int a3)] [.int v, .int a3, .ref (L0 + 6)] (std (pI (pI s (L0 + 1) (a3).toNatClampNeg a2) (L0 + 2) (a3).toNatClampNeg a2)) (KQ Q) := by
            intro v hv
            subst hv
            obtain ⟨o36, h⟩ := h
            refine JS_iast dX4_tryBury_130 (lxB6 hL0) (lx2k hL0 _) (lxNk hL0 (Nat.le_of_ble_eq_true rfl)) o36 ?_
            obtain ⟨s37, hs37⟩ : ∃ z, z = (pI (pI (pI s (L0 + 1) (a3).toNatClampNeg a2) (L0 + 2) (a3).toNatClampNeg a2) (L0 + 6) (a3).toNatClampNeg (if (gI (pI (pI s (L0 + 1) (a3).toNatClampNeg a2) (L0 + 2) (a3).toNatClampNeg a2) (L0 + 1) (a3).toNatClampNeg) = (gI (pI (pI s (L0 + 1) (a3).toNatClampNeg a2) (L0 + 2) (a3).toNatClampNeg a2) (L0 + 2) (a3).toNatClampNeg) then (2 : Int32) else (0 : Int32))) := ⟨_, rfl⟩
            replace h := h s37 hs37
            rw [← hs37]
            refine JT_iinc (q := 3) (v := (a3 + 1)) (lv' := [(3, .int (a3 + 1)), (0, .ref L0), (1, .int a1), (2, .int a2)]) dX4_tryBury_131 rfl (by rfl) (Nat.le_of_ble_eq_true rfl) rfl ?_
            refine JT_goto (tgt := 37) dX4_tryBury_134 (by decide) ?_
            exact JT_sub [1, 2, 3, 0] rfl h
          refine JT_icmp_ne (tgt := 129) dX4_tryBury_122 (by decide) (fun hc39 => ?_) (fun hc39 => ?_)
          · refine JT_iconst (v := 0) dX4_tryBury_129 ic_0 ?_
            exact hj38 _ (by rw [if_neg hc39])
          · refine JT_iconst (v := 2) dX4_tryBury_125 ic_2 ?_
            refine JT_goto (tgt := 130) dX4_tryBury_126 (by decide) ?_
            exact hj38 _ (by rw [if_pos hc39])
set_option maxRecDepth 20000 in
theorem bX4_tryBury {L0 P0 : Nat} (hL0 : (L0, P0) ∈ LX) (a1 : Int32) (a2 : Int32) {s : SM} {Q : Int32 → SM → Prop} (h : ((a1 = a2 → Q (1 : Int32) s) ∧ (¬ a1 = a2 → (((vX4_lives s L0 P0 a1) = 0 → Q (1 : Int32) s) ∧ (¬ (vX4_lives s L0 P0 a1) = 0 → ((¬ (vX4_lives s L0 P0 a2) = 0 → BI MX4_tryBury 2 37 [(0, .ref L0), (1, .int a1), (2, .int a2), (3, .int (0 : Int32))] (pI s L0 14 ((gI s L0 14) ||| ((1 : Int32) <<< (a1 &&& 31)))) Q) ∧ ((vX4_lives s L0 P0 a2) = 0 → Q (1 : Int32) s))))))) : KI MX4_tryBury 2 [.ref L0, .int a1, .int a2] s Q := by
  show BI MX4_tryBury 2 0 [(0, .ref L0), (1, .int a1), (2, .int a2)] s Q
  refine JT_iload_n (q := 1) dX4_tryBury_0 rfl rfl ?_
  refine JT_iload_n (q := 2) dX4_tryBury_1 rfl rfl ?_
  refine JT_icmp_eq (tgt := 21) dX4_tryBury_2 (by decide) (fun hc5 => ?_) (fun hc5 => ?_)
  · have h := h.1 hc5
    refine JT_iconst (v := 1) dX4_tryBury_21 ic_1 ?_
    exact JS_iret dX4_tryBury_22 rfl rfl h
  · have h := h.2 hc5
    refine JT_aload_n (q := 0) dX4_tryBury_5 rfl rfl ?_
    refine JT_iload_n (q := 1) dX4_tryBury_6 rfl rfl ?_
    refine JS_callVI (M' := MX4_lives) (d' := 0) (As := [.int a1]) (rest := []) (P := (fun zv9 wm9 => (vX4_lives s L0 P0 a1) = zv9 ∧ s = wm9)) dX4_tryBury_7 cvX4_85 okX4_lives rfl (Nat.le_of_ble_eq_true rfl) (lxB hL0) (lx2 hL0) (lxN hL0) hci_4 (Nat.le_of_ble_eq_true rfl) (Nat.le_of_ble_eq_true rfl) (pX4_lives hL0 (a1)  ⟨rfl, rfl⟩) (fun zv9 wm9 hq9 => ?_)
    obtain ⟨rfl, rfl⟩ := hq9
    refine JT_if_eq (tgt := 21) dX4_tryBury_10 (by decide) (fun hc3 => ?_) (fun hc3 => ?_)
    · have h := h.1 hc3
      refine JT_iconst (v := 1) dX4_tryBury_21 ic_1 ?_
      exact JS_iret dX4_tryBury_22 rfl rfl h
    · have h := h.2 hc3
      refine JT_aload_n (q := 0) dX4_tryBury_13 rfl rfl ?_
      refine JT_iload_n (q := 2) dX4_tryBury_14 rfl rfl ?_
      refine JS_callVI (M' := MX4_lives) (d' := 0) (As := [.int a2]) (rest := []) (P := (fun zv9 wm9 => (vX4_lives s L0 P0 a2) = zv9 ∧ s = wm9)) dX4_tryBury_15 cvX4_85 okX4_lives rfl (Nat.le_of_ble_eq_true rfl) (lxB hL0) (lx2 hL0) (lxN hL0) hci_4 (Nat.le_of_ble_eq_true rfl) (Nat.le_of_ble_eq_true rfl) (pX4_lives hL0 (a2)  ⟨rfl, rfl⟩) (fun zv9 wm9 hq9 => ?_)
      obtain ⟨rfl, rfl⟩ := hq9
      refine JT_if_ne (tgt := 23) dX4_tryBury_18 (by decide) (fun hc1 => ?_) (fun hc1 => ?_)
      · have h := h.1 hc1
        refine JT_aload_n (q := 0) dX4_tryBury_23 rfl rfl ?_
        refine JT_dup dX4_tryBury_24 rfl ?_
        refine JS_getI dX4_tryBury_25 flX4_56 (lxB hL0) (lx2 hL0) (lxN hL0) (Or.inl ct_4_14) ?_
        refine JT_iconst (v := 1) dX4_tryBury_28 ic_1 ?_
        refine JT_iload_n (q := 1) dX4_tryBury_29 rfl rfl ?_
        refine JT_ishl dX4_tryBury_30 ?_
        refine JT_ior dX4_tryBury_31 ?_
        refine JS_putI dX4_tryBury_32 flX4_56 (lxB hL0) (lx2 hL0) (lxN hL0) ct_4_14 ?_
        refine JT_iconst (v := 0) dX4_tryBury_35 ic_0 ?_
        refine JT_istore_n (lv' := [(3, .int (0 : Int32)), (0, .ref L0), (1, .int a1), (2, .int a2)]) dX4_tryBury_36 rfl (Nat.le_of_ble_eq_true rfl) rfl ?_
        exact JT_sub [1, 2, 3, 0] rfl h
      · have h := h.2 hc1
        refine JT_iconst (v := 1) dX4_tryBury_21 ic_1 ?_
        exact JS_iret dX4_tryBury_22 rfl rfl h
set_option maxRecDepth 20000 in
theorem bX5_isTold_31 {p1 : Nat} (hp1 : p1 ∈ PX) (a2 : Int32) (a3 : Int32) {s : SM} {Q : Int32 → SM → Prop} (h : ((((3 : Int32) * a2) ≤ a3 → Q (1 : Int32) s) ∧ (¬ ((3 : Int32) * a2) ≤ a3 → rX9_byteOr s a3 (-1 : Int32) ∧ rX9_byteOr s (a3 + (1 : Int32)) (-1 : Int32) ∧ rX9_byteOr s (a3 + (2 : Int32)) (-1 : Int32) ∧ ((¬ (vX6_hasDealers s p1 (vX9_byteOr s a3 (-1 : Int32)) (vX9_byteOr s (a3 + (1 : Int32)) (-1 : Int32)) (vX9_byteOr s (a3 + (2 : Int32)) (-1 : Int32))) = 0 → BI MX5_isTold 2 31 [(0, .ref 3), (1, .ref p1), (2, .int a2), (3, .int (a3 + 3))] s Q) ∧ ((vX6_hasDealers s p1 (vX9_byteOr s a3 (-1 : Int32)) (vX9_byteOr s (a3 + (1 : Int32)) (-1 : Int32)) (vX9_byteOr s (a3 + (2 : Int32)) (-1 : Int32))) = 0 → Q (0 : Int32) s))))) : BI MX5_isTold 2 31 [(0, .ref 3), (1, .ref p1), (2, .int a2), (3, .int a3)] s Q := by
  refine JT_iload_n (q := 3) dX5_isTold_31 rfl rfl ?_
  refine JT_iconst (v := 3) dX5_isTold_32 ic_3 ?_
  refine JT_iload_n (q := 2) dX5_isTold_33 rfl rfl ?_
  refine JT_imul dX5_isTold_34 ?_
  refine JT_icmp_ge (tgt := 75) dX5_isTold_35 (by decide) (fun hc6 => ?_) (fun hc6 => ?_)
  · have h := h.1 hc6
    refine JT_iconst (v := 1) dX5_isTold_75 ic_1 ?_
    exact JS_iret dX5_isTold_76 rfl (n01 (Or.inr rfl)) h
  · have h := h.2 hc6
    refine JT_aload_n (q := 1) dX5_isTold_38 rfl rfl ?_
    refine JT_aload_n (q := 0) dX5_isTold_39 rfl rfl ?_
    refine JT_iload_n (q := 3) dX5_isTold_40 rfl rfl ?_
    refine JT_iconst (v := -1) dX5_isTold_41 ic_m1 ?_
    obtain ⟨o5, h⟩ := h
    refine JS_callVI (M' := MX9_byteOr) (d' := 0) (As := [.int a3, .int (-1 : Int32)]) (rest := [.ref p1]) (P := (fun zv9 wm9 => (vX9_byteOr s a3 (-1 : Int32)) = zv9 ∧ s = wm9)) dX5_isTold_42 cvX5_39 okX9_byteOr rfl (Nat.le_of_ble_eq_true rfl) BS_3 (Nat.le_of_ble_eq_true rfl) (Nat.le_of_ble_eq_true rfl) hci_9 (Nat.le_of_ble_eq_true rfl) (Nat.le_of_ble_eq_true rfl) (pX9_byteOr  (a3) ((-1 : Int32)) o5 ⟨rfl, rfl⟩) (fun zv9 wm9 hq9 => ?_)
    obtain ⟨rfl, rfl⟩ := hq9
    refine JT_aload_n (q := 0) dX5_isTold_45 rfl rfl ?_
    refine JT_iload_n (q := 3) dX5_isTold_46 rfl rfl ?_
    refine JT_iconst (v := 1) dX5_isTold_47 ic_1 ?_
    refine JT_iadd dX5_isTold_48 ?_
    refine JT_iconst (v := -1) dX5_isTold_49 ic_m1 ?_
    obtain ⟨o4, h⟩ := h
    refine JS_callVI (M' := MX9_byteOr) (d' := 0) (As := [.int (a3 + (1 : Int32)), .int (-1 : Int32)]) (rest := [.int (vX9_byteOr s a3 (-1 : Int32)), .ref p1]) (P := (fun zv9 wm9 => (vX9_byteOr s (a3 + (1 : Int32)) (-1 : Int32)) = zv9 ∧ s = wm9)) dX5_isTold_50 cvX5_39 okX9_byteOr rfl (Nat.le_of_ble_eq_true rfl) BS_3 (Nat.le_of_ble_eq_true rfl) (Nat.le_of_ble_eq_true rfl) hci_9 (Nat.le_of_ble_eq_true rfl) (Nat.le_of_ble_eq_true rfl) (pX9_byteOr  ((a3 + (1 : Int32))) ((-1 : Int32)) o4 ⟨rfl, rfl⟩) (fun zv9 wm9 hq9 => ?_)
    obtain ⟨rfl, rfl⟩ := hq9
    refine JT_aload_n (q := 0) dX5_isTold_53 rfl rfl ?_
    refine JT_iload_n (q := 3) dX5_isTold_54 rfl rfl ?_
    refine JT_iconst (v := 2) dX5_isTold_55 ic_2 ?_
    refine JT_iadd dX5_isTold_56 ?_
    refine JT_iconst (v := -1) dX5_isTold_57 ic_m1 ?_
    obtain ⟨o3, h⟩ := h
    refine JS_callVI (M' := MX9_byteOr) (d' := 0) (As := [.int (a3 + (2 : Int32)), .int (-1 : Int32)]) (rest := [.int (vX9_byteOr s (a3 + (1 : Int32)) (-1 : Int32)), .int (vX9_byteOr s a3 (-1 : Int32)), .ref p1]) (P := (fun zv9 wm9 => (vX9_byteOr s (a3 + (2 : Int32)) (-1 : Int32)) = zv9 ∧ s = wm9)) dX5_isTold_58 cvX5_39 okX9_byteOr rfl (Nat.le_of_ble_eq_true rfl) BS_3 (Nat.le_of_ble_eq_true rfl) (Nat.le_of_ble_eq_true rfl) hci_9 (Nat.le_of_ble_eq_true rfl) (Nat.le_of_ble_eq_true rfl) (pX9_byteOr  ((a3 + (2 : Int32))) ((-1 : Int32)) o3 ⟨rfl, rfl⟩) (fun zv9 wm9 hq9 => ?_)
    obtain ⟨rfl, rfl⟩ := hq9
    refine JS_callVI (M' := MX6_hasDealers) (d' := 1) (As := [.int (vX9_byteOr s a3 (-1 : Int32)), .int (vX9_byteOr s (a3 + (1 : Int32)) (-1 : Int32)), .int (vX9_byteOr s (a3 + (2 : Int32)) (-1 : Int32))]) (rest := []) (P := (fun zv9 wm9 => (vX6_hasDealers s p1 (vX9_byteOr s a3 (-1 : Int32)) (vX9_byteOr s (a3 + (1 : Int32)) (-1 : Int32)) (vX9_byteOr s (a3 + (2 : Int32)) (-1 : Int32))) = zv9 ∧ s = wm9)) dX5_isTold_61 cvX5_43 okX6_hasDealers rfl (Nat.le_of_ble_eq_true rfl) (pxB hp1) (px2 hp1) (pxN hp1) hci_6 (Nat.le_of_ble_eq_true rfl) (Nat.le_of_ble_eq_true rfl) (pX6_hasDealers hp1 ((vX9_byteOr s a3 (-1 : Int32))) ((vX9_byteOr s (a3 + (1 : Int32)) (-1 : Int32))) ((vX9_byteOr s (a3 + (2 : Int32)) (-1 : Int32)))  ⟨rfl, rfl⟩) (fun zv9 wm9 hq9 => ?_)
    obtain ⟨rfl, rfl⟩ := hq9
    refine JT_if_ne (tgt := 69) dX5_isTold_64 (by decide) (fun hc1 => ?_) (fun hc1 => ?_)
    · have h := h.1 hc1
      refine JT_iinc (q := 3) (v := (a3 + 3)) (lv' := [(3, .int (a3 + 3)), (0, .ref 3), (1, .ref p1), (2, .int a2)]) dX5_isTold_69 rfl (by rfl) (Nat.le_of_ble_eq_true rfl) rfl ?_
      refine JT_goto (tgt := 31) dX5_isTold_72 (by decide) ?_
      exact JT_sub [1, 2, 3, 0] rfl h
    · have h := h.2 hc1
      refine JT_iconst (v := 0) dX5_isTold_67 ic_0 ?_
      exact JS_iret dX5_isTold_68 rfl (n01 (Or.inl rfl)) h
set_option maxRecDepth 20000 in
theorem bX5_isTold {p1 : Nat} (hp1 : p1 ∈ PX) {s : SM} {Q : Int32 → SM → Prop} (h : ((¬ ((gI s 3 1) - (gI s 3 1) / (3 : Int32) * (3 : Int32)) = 0 → Q (0 : Int32) s) ∧ (((gI s 3 1) - (gI s 3 1) / (3 : Int32) * (3 : Int32)) = 0 → ((((gI s 3 1) / (3 : Int32)) < (1 : Int32) → Q (0 : Int32) s) ∧ (¬ ((gI s 3 1) / (3 : Int32)) < (1 : Int32) → ((((gI s 3 1) / (3 : Int32)) ≤ (6 : Int32) → BI MX5_isTold 2 31 [(0, .ref 3), (1, .ref p1), (2, .int ((gI s 3 1) / (3 : Int32))), (3, .int (0 : Int32))] s Q) ∧ (¬ ((gI s 3 1) / (3 : Int32)) ≤ (6 : Int32) → Q (0 : Int32) s))))))) : KI MX5_isTold 2 [.ref 3, .ref p1] s Q := by
  show BI MX5_isTold 2 0 [(0, .ref 3), (1, .ref p1)] s Q
  refine JT_aload_n (q := 0) dX5_isTold_0 rfl rfl ?_
  refine JS_getI dX5_isTold_1 flX5_33 BS_3 (Nat.le_of_ble_eq_true rfl) (Nat.le_of_ble_eq_true rfl) (Or.inl ct_9_1) ?_
  refine JT_iconst (v := 3) dX5_isTold_4 ic_3 ?_
  refine JT_idiv dX5_isTold_5 (by decide) ?_
  refine JT_istore_n (lv' := [(2, .int ((gI s 3 1) / (3 : Int32))), (0, .ref 3), (1, .ref p1)]) dX5_isTold_6 rfl (Nat.le_of_ble_eq_true rfl) rfl ?_
  refine JT_aload_n (q := 1) dX5_isTold_7 rfl rfl ?_
  refine JS_getI dX5_isTold_8 flX5_33 BS_3 (Nat.le_of_ble_eq_true rfl) (Nat.le_of_ble_eq_true rfl) (Or.inl ct_9_1) ?_
  refine JT_iconst (v := 3) dX5_isTold_11 ic_3 ?_
  refine JT_irem dX5_isTold_12 (by decide) ?_
  refine JT_if_ne (tgt := 27) dX5_isTold_13 (by decide) (fun hc3 => ?_) (fun hc3 => ?_)
  · have h := h.1 hc3
    refine JT_iconst (v := 0) dX5_isTold_27 ic_0 ?_
    exact JS_iret dX5_isTold_28 rfl (n01 (Or.inl rfl)) h
  · have h := h.2 hc3
    refine JT_iload_n (q := 0) dX5_isTold_16 rfl rfl ?_
    refine JT_iconst (v := 1) dX5_isTold_17 ic_1 ?_
    refine JT_icmp_lt (tgt := 27) dX5_isTold_18 (by decide) (fun hc2 => ?_) (fun hc2 => ?_)
    · have h := h.1 hc2
      refine JT_iconst (v := 0) dX5_isTold_27 ic_0 ?_
      exact JS_iret dX5_isTold_28 rfl (n01 (Or.inl rfl)) h
    · have h := h.2 hc2
      refine JT_iload_n (q := 0) dX5_isTold_21 rfl rfl ?_
      refine JT_bipush (v := 6) dX5_isTold_22 bp_6 ?_
      refine JT_icmp_le (tgt := 29) dX5_isTold_24 (by decide) (fun hc1 => ?_) (fun hc1 => ?_)
      · have h := h.1 hc1
        refine JT_iconst (v := 0) dX5_isTold_29 ic_0 ?_
        refine JT_istore_n (lv' := [(3, .int (0 : Int32)), (2, .int ((gI s 3 1) / (3 : Int32))), (0, .ref 3), (1, .ref p1)]) dX5_isTold_30 rfl (Nat.le_of_ble_eq_true rfl) rfl ?_
        exact JT_sub [2, 3, 1, 0] rfl h
      · have h := h.2 hc1
        refine JT_iconst (v := 0) dX5_isTold_27 ic_0 ?_
        exact JS_iret dX5_isTold_28 rfl (n01 (Or.inl rfl)) h
set_option maxRecDepth 20000 in
theorem bX7_mayBeIn (a1 : Int32) {s : SM} {Q : Int32 → SM → Prop} (h : ∃ Lx1 Px1, gD s 0 = some Lx1 ∧ (Lx1, Px1) ∈ LX ∧ rX4_isOpen s Lx1 Px1 a1 ∧ (((vX4_isOpen s Lx1 Px1 a1) = 0 → Q (0 : Int32) s) ∧ (¬ (vX4_isOpen s Lx1 Px1 a1) = 0 → ∃ Lx2 Px2, gD s 0 = some Lx2 ∧ (Lx2, Px2) ∈ LX ∧ ∃ Lx3 Px3, gD s 0 = some Lx3 ∧ (Lx3, Px3) ∈ LX ∧ vp_in a1 60 ∧ rX6_isForRings s Px2 (gI s (Lx3 + 4) (a1).toNatClampNeg) ∧ Q (if (vX6_isForRings s Px2 (gI s (Lx3 + 4) (a1).toNatClampNeg)) = 0 then (0 : Int32) else (1 : Int32)) s))) : KI MX7_mayBeIn 2 [.ref 218, .int a1] s Q := by
  show BI MX7_mayBeIn 2 0 [(0, .ref 218), (1, .int a1)] s Q
  refine JT_aload_n (q := 0) dX7_mayBeIn_0 rfl rfl ?_
  obtain ⟨Lx1, Px1, hrx1, hLx1, h⟩ := h
  refine JS_getR dX7_mayBeIn_1 flX7_40 BS_218 (Nat.le_of_ble_eq_true rfl) (Nat.le_of_ble_eq_true rfl) (Or.inl ⟨_, ct_7_4⟩) (RF_218_4.trans hrx1) ?_
  refine JT_iload_n (q := 1) dX7_mayBeIn_4 rfl rfl ?_
  obtain ⟨o9, h⟩ := h
  refine JS_callVI (M' := MX4_isOpen) (d' := 1) (As := [.int a1]) (rest := []) (P := (fun zv9 wm9 => (vX4_isOpen s Lx1 Px1 a1) = zv9 ∧ s = wm9)) dX7_mayBeIn_5 cvX7_64 okX4_isOpen rfl (Nat.le_of_ble_eq_true rfl) (lxB hLx1) (lx2 hLx1) (lxN hLx1) hci_4 (Nat.le_of_ble_eq_true rfl) (Nat.le_of_ble_eq_true rfl) (pX4_isOpen hLx1 (a1) o9 ⟨rfl, rfl⟩) (fun zv9 wm9 hq9 => ?_)
  obtain ⟨rfl, rfl⟩ := hq9
  refine JT_if_eq (tgt := 37) dX7_mayBeIn_8 (by decide) (fun hc8 => ?_) (fun hc8 => ?_)
  · have h := h.1 hc8
    refine JT_iconst (v := 0) dX7_mayBeIn_37 ic_0 ?_
    exact JS_iret dX7_mayBeIn_38 rfl (n01 (Or.inl rfl)) h
  · have h := h.2 hc8
    refine JT_aload_n (q := 0) dX7_mayBeIn_11 rfl rfl ?_
    obtain ⟨Lx2, Px2, hrx2, hLx2, h⟩ := h
    refine JS_getR dX7_mayBeIn_12 flX7_40 BS_218 (Nat.le_of_ble_eq_true rfl) (Nat.le_of_ble_eq_true rfl) (Or.inl ⟨_, ct_7_4⟩) (RF_218_4.trans hrx2) ?_
    refine JS_getR (x := Px2) dX7_mayBeIn_15 flX7_67 (lxB hLx2) (lx2 hLx2) (lxN hLx2) (Or.inl ⟨_, ct_4_8⟩) (lxR8 hLx2) ?_
    refine JT_aload_n (q := 0) dX7_mayBeIn_18 rfl rfl ?_
    obtain ⟨Lx3, Px3, hrx3, hLx3, h⟩ := h
    refine JS_getR dX7_mayBeIn_19 flX7_40 BS_218 (Nat.le_of_ble_eq_true rfl) (Nat.le_of_ble_eq_true rfl) (Or.inl ⟨_, ct_7_4⟩) (RF_218_4.trans hrx3) ?_
    refine JS_getR (x := (Lx3 + 4)) dX7_mayBeIn_22 flX7_71 (lxB hLx3) (lx2 hLx3) (lxN hLx3) (Or.inr ⟨_, ct_4_3⟩) (lxR3 hLx3) ?_
    refine JT_iload_n (q := 1) dX7_mayBeIn_25 rfl rfl ?_
    obtain ⟨o4, h⟩ := h
    refine JS_iald dX7_mayBeIn_26 (lxB4 hLx3) (lx2k hLx3 _) (lxNk hLx3 (Nat.le_of_ble_eq_true rfl)) o4 ?_
    obtain ⟨o7, h⟩ := h
    refine JS_callVI (M' := MX6_isForRings) (d' := 0) (As := [.int (gI s (Lx3 + 4) (a1).toNatClampNeg)]) (rest := []) (P := (fun zv9 wm9 => (vX6_isForRings s Px2 (gI s (Lx3 + 4) (a1).toNatClampNeg)) = zv9 ∧ s = wm9)) dX7_mayBeIn_27 cvX7_74 okX6_isForRings rfl (Nat.le_of_ble_eq_true rfl) (pxB (lxP hLx2)) (px2 (lxP hLx2)) (pxN (lxP hLx2)) hci_6 (Nat.le_of_ble_eq_true rfl) (Nat.le_of_ble_eq_true rfl) (pX6_isForRings (lxP hLx2) ((gI s (Lx3 + 4) (a1).toNatClampNeg)) o7 ⟨rfl, rfl⟩) (fun zv9 wm9 hq9 => ?_)
    obtain ⟨rfl, rfl⟩ := hq9
    have hj5 : ∀ v : Int32, v = (if (vX6_isForRings s Px2 (gI s (Lx3 + 4) (a1).toNatClampNeg)) = 0 then (0 : Int32) else (1 : Int32)) → JT MX7_mayBeIn 2 0 0 38 [(0, .ref 218), (1, .int a1)] [.int v] (std s) (KQ Q) := by
      intro v hv
      subst hv
      exact JS_iret dX7_mayBeIn_38 rfl (n01 (i01 (Or.inl rfl) (Or.inr rfl))) h
    refine JT_if_eq (tgt := 37) dX7_mayBeIn_30 (by decide) (fun hc6 => ?_) (fun hc6 => ?_)
    · refine JT_iconst (v := 0) dX7_mayBeIn_37 ic_0 ?_
      exact hj5 _ (by rw [if_pos hc6])
    · refine JT_iconst (v := 1) dX7_mayBeIn_33 ic_1 ?_
      refine JT_goto (tgt := 38) dX7_mayBeIn_34 (by decide) ?_
      exact hj5 _ (by rw [if_neg hc6])
set_option maxRecDepth 20000 in
theorem bX9_nextToken_0  {s : SM} {Q : SM → Prop} (h : (((gI s 3 1) ≤ (gI s 3 7) → BV MX9_nextToken 2 39 [(0, .ref 3)] s Q) ∧ (¬ (gI s 3 1) ≤ (gI s 3 7) → rX9_byteOr s (gI s 3 7) (0 : Int32) ∧ (((vX9_isBlank s (vX9_byteOr s (gI s 3 7) (0 : Int32))) = 0 → BV MX9_nextToken 2 39 [(0, .ref 3)] s Q) ∧ (¬ (vX9_isBlank s (vX9_byteOr s (gI s 3 7) (0 : Int32))) = 0 → BV MX9_nextToken 2 0 [(0, .ref 3)] (pI s 3 7 ((gI s 3 7) + (1 : Int32))) Q))))) : BV MX9_nextToken 2 0 [(0, .ref 3)] s Q := by
  refine JT_aload_n (q := 0) dX9_nextToken_0 rfl rfl ?_
  refine JS_getI dX9_nextToken_1 flX9_19 BS_3 (Nat.le_of_ble_eq_true rfl) (Nat.le_of_ble_eq_true rfl) (Or.inl ct_9_7) ?_
  refine JT_aload_n (q := 0) dX9_nextToken_4 rfl rfl ?_
  refine JS_getI dX9_nextToken_5 flX9_15 BS_3 (Nat.le_of_ble_eq_true rfl) (Nat.le_of_ble_eq_true rfl) (Or.inl ct_9_1) ?_
  refine JT_icmp_ge (tgt := 39) dX9_nextToken_8 (by decide) (fun hc4 => ?_) (fun hc4 => ?_)
  · have h := h.1 hc4
    exact JT_sub [0] rfl h
  · have h := h.2 hc4
    refine JT_aload_n (q := 0) dX9_nextToken_11 rfl rfl ?_
    refine JT_aload_n (q := 0) dX9_nextToken_12 rfl rfl ?_
    refine JS_getI dX9_nextToken_13 flX9_19 BS_3 (Nat.le_of_ble_eq_true rfl) (Nat.le_of_ble_eq_true rfl) (Or.inl ct_9_7) ?_
    refine JT_iconst (v := 0) dX9_nextToken_16 ic_0 ?_
    obtain ⟨o3, h⟩ := h
    refine JS_callVI (M' := MX9_byteOr) (d' := 0) (As := [.int (gI s 3 7), .int (0 : Int32)]) (rest := []) (P := (fun zv9 wm9 => (vX9_byteOr s (gI s 3 7) (0 : Int32)) = zv9 ∧ s = wm9)) dX9_nextToken_17 cvX9_31 okX9_byteOr rfl (Nat.le_of_ble_eq_true rfl) BS_3 (Nat.le_of_ble_eq_true rfl) (Nat.le_of_ble_eq_true rfl) hci_9 (Nat.le_of_ble_eq_true rfl) (Nat.le_of_ble_eq_true rfl) (pX9_byteOr  ((gI s 3 7)) ((0 : Int32)) o3 ⟨rfl, rfl⟩) (fun zv9 wm9 hq9 => ?_)
    obtain ⟨rfl, rfl⟩ := hq9
    refine JS_callSI (M' := MX9_isBlank) (d' := 0) (As := [.int (vX9_byteOr s (gI s 3 7) (0 : Int32))]) (rest := []) (P := (fun zv9 wm9 => (vX9_isBlank s (vX9_byteOr s (gI s 3 7) (0 : Int32))) = zv9 ∧ s = wm9)) dX9_nextToken_20 cvX9_35 okX9_isBlank rfl (Nat.le_of_ble_eq_true rfl) (Nat.le_of_ble_eq_true rfl) (Nat.le_of_ble_eq_true rfl) (pX9_isBlank  ((vX9_byteOr s (gI s 3 7) (0 : Int32)))  ⟨rfl, rfl⟩) (fun zv9 wm9 hq9 => ?_)
    obtain ⟨rfl, rfl⟩ := hq9
    refine JT_if_eq (tgt := 39) dX9_nextToken_23 (by decide) (fun hc1 => ?_) (fun hc1 => ?_)
    · have h := h.1 hc1
      exact JT_sub [0] rfl h
    · have h := h.2 hc1
      refine JT_aload_n (q := 0) dX9_nextToken_26 rfl rfl ?_
      refine JT_dup dX9_nextToken_27 rfl ?_
      refine JS_getI dX9_nextToken_28 flX9_19 BS_3 (Nat.le_of_ble_eq_true rfl) (Nat.le_of_ble_eq_true rfl) (Or.inl ct_9_7) ?_
      refine JT_iconst (v := 1) dX9_nextToken_31 ic_1 ?_
      refine JT_iadd dX9_nextToken_32 ?_
      refine JS_putI dX9_nextToken_33 flX9_19 BS_3 (Nat.le_of_ble_eq_true rfl) (Nat.le_of_ble_eq_true rfl) ct_9_7 ?_
      refine JT_goto (tgt := 0) dX9_nextToken_36 (by decide) ?_
      exact JT_sub [0] rfl h
set_option maxRecDepth 20000 in
theorem bX9_nextToken_39  {s : SM} {Q : SM → Prop} (h : (((gI (pI s 3 8 (gI s 3 7)) 3 1) ≤ (gI (pI s 3 8 (gI s 3 7)) 3 7) → BV MX9_nextToken 2 68 [(0, .ref 3)] (pI s 3 8 (gI s 3 7)) Q) ∧ (¬ (gI (pI s 3 8 (gI s 3 7)) 3 1) ≤ (gI (pI s 3 8 (gI s 3 7)) 3 7) → (((gI (pI s 3 8 (gI s 3 7)) 3 7) < (600 : Int32) → rX9_byteOr (pI s 3 8 (gI s 3 7)) (gI (pI s 3 8 (gI s 3 7)) 3 7) (0 : Int32) ∧ ((¬ (vX9_isLetter (pI s 3 8 (gI s 3 7)) (vX9_byteOr (pI s 3 8 (gI s 3 7)) (gI (pI s 3 8 (gI s 3 7)) 3 7) (0 : Int32))) = 0 → KV MX9_readRun 1 [.ref 3] (pI s 3 8 (gI s 3 7)) (fun s1 => Q s1)) ∧ ((vX9_isLetter (pI s 3 8 (gI s 3 7)) (vX9_byteOr (pI s 3 8 (gI s 3 7)) (gI (pI s 3 8 (gI s 3 7)) 3 7) (0 : Int32))) = 0 → (((vX9_isDigit (pI s 3 8 (gI s 3 7)) (vX9_byteOr (pI s 3 8 (gI s 3 7)) (gI (pI s 3 8 (gI s 3 7)) 3 7) (0 : Int32))) = 0 → (∀ s3, s3 = (pI (pI s 3 8 (gI s 3 7)) 3 9 (if (vX9_byteOr (pI s 3 8 (gI s 3 7)) (gI (pI s 3 8 (gI s 3 7)) 3 7) (0 : Int32)) = (59 : Int32) then (3 : Int32) else (4 : Int32))) → Q (pI s3 3 7 ((gI s3 3 7) + (1 : Int32))))) ∧ (¬ (vX9_isDigit (pI s 3 8 (gI s 3 7)) (vX9_byteOr (pI s 3 8 (gI s 3 7)) (gI (pI s 3 8 (gI s 3 7)) 3 7) (0 : Int32))) = 0 → KV MX9_readRun 1 [.ref 3] (pI s 3 8 (gI s 3 7)) (fun s6 => Q s6)))))) ∧ (¬ (gI (pI s 3 8 (gI s 3 7)) 3 7) < (600 : Int32) → BV MX9_nextToken 2 68 [(0, .ref 3)] (pI s 3 8 (gI s 3 7)) Q))))) : BV MX9_nextToken 2 39 [(0, .ref 3)] s Q := by
  refine JT_aload_n (q := 0) dX9_nextToken_39 rfl rfl ?_
  refine JT_aload_n (q := 0) dX9_nextToken_40 rfl rfl ?_
  refine JS_getI dX9_nextToken_41 flX9_19 BS_3 (Nat.le_of_ble_eq_true rfl) (Nat.le_of_ble_eq_true rfl) (Or.inl ct_9_7) ?_
  refine JS_putI dX9_nextToken_44 flX9_28 BS_3 (Nat.le_of_ble_eq_true rfl) (Nat.le_of_ble_eq_true rfl) ct_9_8 ?_
  refine JT_aload_n (q := 0) dX9_nextToken_47 rfl rfl ?_
  refine JS_getI dX9_nextToken_48 flX9_19 BS_3 (Nat.le_of_ble_eq_true rfl) (Nat.le_of_ble_eq_true rfl) (Or.inl ct_9_7) ?_
  refine JT_aload_n (q := 0) dX9_nextToken_51 rfl rfl ?_
  refine JS_getI dX9_nextToken_52 flX9_15 BS_3 (Nat.le_of_ble_eq_true rfl) (Nat.le_of_ble_eq_true rfl) (Or.inl ct_9_1) ?_
  refine JT_icmp_ge (tgt := 68) dX9_nextToken_55 (by decide) (fun hc14 => ?_) (fun hc14 => ?_)
  · have h := h.1 hc14
    exact JT_sub [0] rfl h
  · have h := h.2 hc14
    refine JT_aload_n (q := 0) dX9_nextToken_58 rfl rfl ?_
    refine JS_getI dX9_nextToken_59 flX9_19 BS_3 (Nat.le_of_ble_eq_true rfl) (Nat.le_of_ble_eq_true rfl) (Or.inl ct_9_7) ?_
    refine JT_sipush (v := 600) dX9_nextToken_62 sp_600 ?_
    refine JT_icmp_lt (tgt := 88) dX9_nextToken_65 (by decide) (fun hc13 => ?_) (fun hc13 => ?_)
    · have h := h.1 hc13
      refine JT_aload_n (q := 0) dX9_nextToken_88 rfl rfl ?_
      refine JT_aload_n (q := 0) dX9_nextToken_89 rfl rfl ?_
      refine JS_getI dX9_nextToken_90 flX9_19 BS_3 (Nat.le_of_ble_eq_true rfl) (Nat.le_of_ble_eq_true rfl) (Or.inl ct_9_7) ?_
      refine JT_iconst (v := 0) dX9_nextToken_93 ic_0 ?_
      obtain ⟨o12, h⟩ := h
      refine JS_callVI (M' := MX9_byteOr) (d' := 0) (As := [.int (gI (pI s 3 8 (gI s 3 7)) 3 7), .int (0 : Int32)]) (rest := []) (P := (fun zv9 wm9 => (vX9_byteOr (pI s 3 8 (gI s 3 7)) (gI (pI s 3 8 (gI s 3 7)) 3 7) (0 : Int32)) = zv9 ∧ (pI s 3 8 (gI s 3 7)) = wm9)) dX9_nextToken_94 cvX9_31 okX9_byteOr rfl (Nat.le_of_ble_eq_true rfl) BS_3 (Nat.le_of_ble_eq_true rfl) (Nat.le_of_ble_eq_true rfl) hci_9 (Nat.le_of_ble_eq_true rfl) (Nat.le_of_ble_eq_true rfl) (pX9_byteOr  ((gI (pI s 3 8 (gI s 3 7)) 3 7)) ((0 : Int32)) o12 ⟨rfl, rfl⟩) (fun zv9 wm9 hq9 => ?_)
      obtain ⟨rfl, rfl⟩ := hq9
      refine JT_istore_n (lv' := [(1, .int (vX9_byteOr (pI s 3 8 (gI s 3 7)) (gI (pI s 3 8 (gI s 3 7)) 3 7) (0 : Int32))), (0, .ref 3)]) dX9_nextToken_97 rfl (Nat.le_of_ble_eq_true rfl) rfl ?_
      refine JT_iload_n (q := 0) dX9_nextToken_98 rfl rfl ?_
      refine JS_callSI (M' := MX9_isLetter) (d' := 0) (As := [.int (vX9_byteOr (pI s 3 8 (gI s 3 7)) (gI (pI s 3 8 (gI s 3 7)) 3 7) (0 : Int32))]) (rest := []) (P := (fun zv9 wm9 => (vX9_isLetter (pI s 3 8 (gI s 3 7)) (vX9_byteOr (pI s 3 8 (gI s 3 7)) (gI (pI s 3 8 (gI s 3 7)) 3 7) (0 : Int32))) = zv9 ∧ (pI s 3 8 (gI s 3 7)) = wm9)) dX9_nextToken_99 cvX9_47 okX9_isLetter rfl (Nat.le_of_ble_eq_true rfl) (Nat.le_of_ble_eq_true rfl) (Nat.le_of_ble_eq_true rfl) (pX9_isLetter  ((vX9_byteOr (pI s 3 8 (gI s 3 7)) (gI (pI s 3 8 (gI s 3 7)) 3 7) (0 : Int32)))  ⟨rfl, rfl⟩) (fun zv9 wm9 hq9 => ?_)
      obtain ⟨rfl, rfl⟩ := hq9
      refine JT_if_ne (tgt := 112) dX9_nextToken_102 (by decide) (fun hc10 => ?_) (fun hc10 => ?_)
      · have h := h.1 hc10
        refine JT_aload_n (q := 1) dX9_nextToken_112 rfl rfl ?_
        refine JS_callVV (M' := MX9_readRun) (d' := 1) (As := []) (rest := []) dX9_nextToken_113 cvX9_53 okX9_readRun rfl (Nat.le_of_ble_eq_true rfl) BS_3 (Nat.le_of_ble_eq_true rfl) (Nat.le_of_ble_eq_true rfl) hci_9 (Nat.le_of_ble_eq_true rfl) (Nat.le_of_ble_eq_true rfl) h (fun s1 h => ?_)
        refine JT_goto (tgt := 144) dX9_nextToken_116 (by decide) ?_
        exact JS_vret dX9_nextToken_144 rfl h
      · have h := h.2 hc10
        refine JT_iload_n (q := 0) dX9_nextToken_105 rfl rfl ?_
        refine JS_callSI (M' := MX9_isDigit) (d' := 0) (As := [.int (vX9_byteOr (pI s 3 8 (gI s 3 7)) (gI (pI s 3 8 (gI s 3 7)) 3 7) (0 : Int32))]) (rest := []) (P := (fun zv9 wm9 => (vX9_isDigit (pI s 3 8 (gI s 3 7)) (vX9_byteOr (pI s 3 8 (gI s 3 7)) (gI (pI s 3 8 (gI s 3 7)) 3 7) (0 : Int32))) = zv9 ∧ (pI s 3 8 (gI s 3 7)) = wm9)) dX9_nextToken_106 cvX9_50 okX9_isDigit rfl (Nat.le_of_ble_eq_true rfl) (Nat.le_of_ble_eq_true rfl) (Nat.le_of_ble_eq_true rfl) (pX9_isDigit  ((vX9_byteOr (pI s 3 8 (gI s 3 7)) (gI (pI s 3 8 (gI s 3 7)) 3 7) (0 : Int32)))  ⟨rfl, rfl⟩) (fun zv9 wm9 hq9 => ?_)
        obtain ⟨rfl, rfl⟩ := hq9
        refine JT_if_eq (tgt := 119) dX9_nextToken_109 (by decide) (fun hc8 => ?_) (fun hc8 => ?_)
        · have h := h.1 hc8
          refine JT_aload_n (q := 1) dX9_nextToken_119 rfl rfl ?_
          refine JT_iload_n (q := 0) dX9_nextToken_120 rfl rfl ?_
          refine JT_bipush (v := 59) dX9_nextToken_121 bp_59 ?_
          have hj4 : ∀ v : Int32, v = (if (vX9_byteOr (pI s 3 8 (gI s 3 7)) (gI (pI s 3 8 (gI s 3 7)) 3 7) (0 : Int32)) = (59 : Int32) then (3 : Int32) else (4 : Int32)) → JT MX9_nextToken 2 0 0 131 [(1, .int (vX9_byteOr (pI s 3 8 (gI s 3 7)) (gI (pI s 3 8 (gI s 3 7)) 3 7) (0 : Int32))), (0, .ref 3)] [.int v, .ref 3] (std (pI s 3 8 (gI s 3 7))) (KQv Q) := by
            intro v hv
            subst hv
            refine JS_putI dX9_nextToken_131 flX9_44 BS_3 (Nat.le_of_ble_eq_true rfl) (Nat.le_of_ble_eq_true rfl) ct_9_9 ?_
            obtain ⟨s3, hs3⟩ : ∃ z, z = (pI (pI s 3 8 (gI s 3 7)) 3 9 (if (vX9_byteOr (pI s 3 8 (gI s 3 7)) (gI (pI s 3 8 (gI s 3 7)) 3 7) (0 : Int32)) = (59 : Int32) then (3 : Int32) else (4 : Int32))) := ⟨_, rfl⟩
            replace h := h s3 hs3
            rw [← hs3]
            refine JT_aload_n (q := 1) dX9_nextToken_134 rfl rfl ?_
            refine JT_dup dX9_nextToken_135 rfl ?_
            refine JS_getI dX9_nextToken_136 flX9_19 BS_3 (Nat.le_of_ble_eq_true rfl) (Nat.le_of_ble_eq_true rfl) (Or.inl ct_9_7) ?_
            refine JT_iconst (v := 1) dX9_nextToken_139 ic_1 ?_
            refine JT_iadd dX9_nextToken_140 ?_
            refine JS_putI dX9_nextToken_141 flX9_19 BS_3 (Nat.le_of_ble_eq_true rfl) (Nat.le_of_ble_eq_true rfl) ct_9_7 ?_
            exact JS_vret dX9_nextToken_144 rfl h
          refine JT_icmp_ne (tgt := 130) dX9_nextToken_123 (by decide) (fun hc5 => ?_) (fun hc5 => ?_)
          · refine JT_iconst (v := 4) dX9_nextToken_130 ic_4 ?_
            exact hj4 _ (by rw [if_neg hc5])
          · refine JT_iconst (v := 3) dX9_nextToken_126 ic_3 ?_
            refine JT_goto (tgt := 131) dX9_nextToken_127 (by decide) ?_
            exact hj4 _ (by rw [if_pos hc5])
        · have h := h.2 hc8
          refine JT_aload_n (q := 1) dX9_nextToken_112 rfl rfl ?_
          refine JS_callVV (M' := MX9_readRun) (d' := 1) (As := []) (rest := []) dX9_nextToken_113 cvX9_53 okX9_readRun rfl (Nat.le_of_ble_eq_true rfl) BS_3 (Nat.le_of_ble_eq_true rfl) (Nat.le_of_ble_eq_true rfl) hci_9 (Nat.le_of_ble_eq_true rfl) (Nat.le_of_ble_eq_true rfl) h (fun s6 h => ?_)
          refine JT_goto (tgt := 144) dX9_nextToken_116 (by decide) ?_
          exact JS_vret dX9_nextToken_144 rfl h
    · have h := h.2 hc13
      exact JT_sub [0] rfl h
set_option maxRecDepth 20000 in
theorem bX9_nextToken_68  {s : SM} {Q : SM → Prop} (h : Q (pI (pI s 3 8 (if (600 : Int32) < (gI s 3 1) then (600 : Int32) else (gI s 3 1))) 3 9 (0 : Int32))) : BV MX9_nextToken 2 68 [(0, .ref 3)] s Q := by
  refine JT_aload_n (q := 0) dX9_nextToken_68 rfl rfl ?_
  refine JT_aload_n (q := 0) dX9_nextToken_69 rfl rfl ?_
  refine JS_getI dX9_nextToken_70 flX9_15 BS_3 (Nat.le_of_ble_eq_true rfl) (Nat.le_of_ble_eq_true rfl) (Or.inl ct_9_1) ?_
  refine JT_sipush (v := 600) dX9_nextToken_73 sp_600 ?_
  refine JT_mmin (d2 := 1) dX9_nextToken_76 mlX9_39 (Nat.le_of_ble_eq_true rfl) rfl ?_
  refine JS_putI dX9_nextToken_79 flX9_28 BS_3 (Nat.le_of_ble_eq_true rfl) (Nat.le_of_ble_eq_true rfl) ct_9_8 ?_
  refine JT_aload_n (q := 0) dX9_nextToken_82 rfl rfl ?_
  refine JT_iconst (v := 0) dX9_nextToken_83 ic_0 ?_
  refine JS_putI dX9_nextToken_84 flX9_44 BS_3 (Nat.le_of_ble_eq_true rfl) (Nat.le_of_ble_eq_true rfl) ct_9_9 ?_
  exact JS_vret dX9_nextToken_87 rfl h
set_option maxRecDepth 20000 in
theorem bX9_nextToken  {s : SM} {Q : SM → Prop} (h : BV MX9_nextToken 2 0 [(0, .ref 3)] s Q) : KV MX9_nextToken 2 [.ref 3] s Q := by
  show BV MX9_nextToken 2 0 [(0, .ref 3)] s Q
  exact JT_sub [0] rfl h
set_option maxRecDepth 20000 in
theorem bX0_readSide_30 {k0 : Nat} (hk0 : k0 ∈ BX) {s : SM} {Q : Int32 → SM → Prop} (h : vp_in (gI s k0 0) 40 ∧ (∀ s2, s2 = (pI s (k0 + 3) ((gI s k0 0)).toNatClampNeg (if (vX9_says s (109342978500980 : Int64)) = 0 then (1 : Int32) else (0 : Int32))) → Q (1 : Int32) s2)) : BI MX0_readSide 3 30 [(0, .ref k0), (1, .ref 3)] s Q := by
  refine JT_aload_n (q := 0) dX0_readSide_30 rfl rfl ?_
  refine JS_getR (x := (k0 + 3)) dX0_readSide_31 flX0_18 (bxB hk0) (bx2 hk0) (bxN hk0) (Or.inr ⟨_, ct_0_3⟩) (bxR3 hk0) ?_
  refine JT_aload_n (q := 0) dX0_readSide_34 rfl rfl ?_
  refine JS_getI dX0_readSide_35 flX0_33 (bxB hk0) (bx2 hk0) (bxN hk0) (Or.inl ct_0_0) ?_
  refine JT_aload_n (q := 1) dX0_readSide_38 rfl rfl ?_
  refine JT_ldc2 dX0_readSide_39 kwX0_114 ?_
  refine JS_callVI (M' := MX9_says) (d' := 0) (As := [.long (109342978500980 : Int64)]) (rest := [.int (gI s k0 0), .ref (k0 + 3)]) (P := (fun zv9 wm9 => (vX9_says s (109342978500980 : Int64)) = zv9 ∧ s = wm9)) dX0_readSide_42 cvX0_69 okX9_says rfl (Nat.le_of_ble_eq_true rfl) BS_3 (Nat.le_of_ble_eq_true rfl) (Nat.le_of_ble_eq_true rfl) hci_9 (Nat.le_of_ble_eq_true rfl) (Nat.le_of_ble_eq_true rfl) (pX9_says  ((109342978500980 : Int64))  ⟨rfl, rfl⟩) (fun zv9 wm9 hq9 => ?_)
  obtain ⟨rfl, rfl⟩ := hq9
  have hj3 : ∀ v : Int32, v = (if (vX9_says s (109342978500980 : Int64)) = 0 then (1 : Int32) else (0 : Int32)) → JT MX0_readSide 3 0 0 53 [(0, .ref k0), (1, .ref 3)] [.int v, .int (gI s k0 0), .ref (k0 + 3)] (std s) (KQ Q) := by
    intro v hv
    subst hv
    obtain ⟨o1, h⟩ := h
    refine JS_iast dX0_readSide_53 (bxB3 hk0) (bx2k hk0 _) (bxNk hk0 (Nat.le_of_ble_eq_true rfl)) o1 ?_
    obtain ⟨s2, hs2⟩ : ∃ z, z = (pI s (k0 + 3) ((gI s k0 0)).toNatClampNeg (if (vX9_says s (109342978500980 : Int64)) = 0 then (1 : Int32) else (0 : Int32))) := ⟨_, rfl⟩
    replace h := h s2 hs2
    rw [← hs2]
    refine JT_iconst (v := 1) dX0_readSide_54 ic_1 ?_
    exact JS_iret dX0_readSide_55 rfl (n01 (Or.inr rfl)) h
  refine JT_if_eq (tgt := 52) dX0_readSide_45 (by decide) (fun hc4 => ?_) (fun hc4 => ?_)
  · refine JT_iconst (v := 1) dX0_readSide_52 ic_1 ?_
    exact hj3 _ (by rw [if_pos hc4])
  · refine JT_iconst (v := 0) dX0_readSide_48 ic_0 ?_
    refine JT_goto (tgt := 53) dX0_readSide_49 (by decide) ?_
    exact hj3 _ (by rw [if_neg hc4])
set_option maxRecDepth 20000 in
theorem bX0_readSide {k0 : Nat} (hk0 : k0 ∈ BX) {s : SM} {Q : Int32 → SM → Prop} (h : KV MX9_nextToken 2 [.ref 3] s (fun s1 => ((¬ (vX9_says s1 (109342978500980 : Int64)) = 0 → BI MX0_readSide 3 30 [(0, .ref k0), (1, .ref 3)] s1 Q) ∧ ((vX9_says s1 (109342978500980 : Int64)) = 0 → ((¬ (vX9_says s1 (1684365940 : Int64)) = 0 → BI MX0_readSide 3 30 [(0, .ref k0), (1, .ref 3)] s1 Q) ∧ ((vX9_says s1 (1684365940 : Int64)) = 0 → Q (vX9_refuse s1 (1 : Int32)) (mX9_refuse s1 (1 : Int32)))))))) : KI MX0_readSide 3 [.ref k0, .ref 3] s Q := by
  show BI MX0_readSide 3 0 [(0, .ref k0), (1, .ref 3)] s Q
  refine JT_aload_n (q := 1) dX0_readSide_0 rfl rfl ?_
  refine JS_callVV (M' := MX9_nextToken) (d' := 2) (As := []) (rest := []) dX0_readSide_1 cvX0_42 okX9_nextToken rfl (Nat.le_of_ble_eq_true rfl) BS_3 (Nat.le_of_ble_eq_true rfl) (Nat.le_of_ble_eq_true rfl) hci_9 (Nat.le_of_ble_eq_true rfl) (Nat.le_of_ble_eq_true rfl) h (fun s1 h => ?_)
  refine JT_aload_n (q := 1) dX0_readSide_4 rfl rfl ?_
  refine JT_ldc2 dX0_readSide_5 kwX0_114 ?_
  refine JS_callVI (M' := MX9_says) (d' := 0) (As := [.long (109342978500980 : Int64)]) (rest := []) (P := (fun zv9 wm9 => (vX9_says s1 (109342978500980 : Int64)) = zv9 ∧ s1 = wm9)) dX0_readSide_8 cvX0_69 okX9_says rfl (Nat.le_of_ble_eq_true rfl) BS_3 (Nat.le_of_ble_eq_true rfl) (Nat.le_of_ble_eq_true rfl) hci_9 (Nat.le_of_ble_eq_true rfl) (Nat.le_of_ble_eq_true rfl) (pX9_says  ((109342978500980 : Int64))  ⟨rfl, rfl⟩) (fun zv9 wm9 hq9 => ?_)
  obtain ⟨rfl, rfl⟩ := hq9
  refine JT_if_ne (tgt := 30) dX0_readSide_11 (by decide) (fun hc6 => ?_) (fun hc6 => ?_)
  · have h := h.1 hc6
    exact JT_sub [0, 1] rfl h
  · have h := h.2 hc6
    refine JT_aload_n (q := 1) dX0_readSide_14 rfl rfl ?_
    refine JT_ldc2 dX0_readSide_15 kwX0_116 ?_
    refine JS_callVI (M' := MX9_says) (d' := 0) (As := [.long (1684365940 : Int64)]) (rest := []) (P := (fun zv9 wm9 => (vX9_says s1 (1684365940 : Int64)) = zv9 ∧ s1 = wm9)) dX0_readSide_18 cvX0_69 okX9_says rfl (Nat.le_of_ble_eq_true rfl) BS_3 (Nat.le_of_ble_eq_true rfl) (Nat.le_of_ble_eq_true rfl) hci_9 (Nat.le_of_ble_eq_true rfl) (Nat.le_of_ble_eq_true rfl) (pX9_says  ((1684365940 : Int64))  ⟨rfl, rfl⟩) (fun zv9 wm9 hq9 => ?_)
    obtain ⟨rfl, rfl⟩ := hq9
    refine JT_if_ne (tgt := 30) dX0_readSide_21 (by decide) (fun hc4 => ?_) (fun hc4 => ?_)
    · have h := h.1 hc4
      exact JT_sub [0, 1] rfl h
    · have h := h.2 hc4
      refine JT_aload_n (q := 1) dX0_readSide_24 rfl rfl ?_
      refine JT_iconst (v := 1) dX0_readSide_25 ic_1 ?_
      refine JS_callVI (M' := MX9_refuse) (d' := 0) (As := [.int (1 : Int32)]) (rest := []) (P := (fun zv9 wm9 => (vX9_refuse s1 (1 : Int32)) = zv9 ∧ (mX9_refuse s1 (1 : Int32)) = wm9)) dX0_readSide_26 cvX0_56 okX9_refuse rfl (Nat.le_of_ble_eq_true rfl) BS_3 (Nat.le_of_ble_eq_true rfl) (Nat.le_of_ble_eq_true rfl) hci_9 (Nat.le_of_ble_eq_true rfl) (Nat.le_of_ble_eq_true rfl) (pX9_refuse  ((1 : Int32))  ⟨rfl, rfl⟩) (fun zv9 wm9 hq9 => ?_)
      obtain ⟨rfl, rfl⟩ := hq9
      exact JS_iret dX0_readSide_29 rfl (n01 (zX9_refuse s1 (1 : Int32))) h
set_option maxRecDepth 20000 in
theorem bX11_body (a1 : Int32) (a2 : Int32) {s : SM} {Q : Option Int32 → SM → Prop} (h : ((¬ (vX6_hasBody s 5 a1) = 0 → ((a2 = 0 → vp_in a1 9 ∧ Q (some (gI s 7 (a1).toNatClampNeg)) s) ∧ (a2 = 1 → vp_in a1 9 ∧ Q (some (gI s 8 (a1).toNatClampNeg)) s) ∧ (a2 = 2 → Q (some (if (vX4_lives s 31 5 a1) = 0 then (0 : Int32) else (1 : Int32))) s) ∧ (a2 = 3 → vp_in a1 9 ∧ Q (some (gI s 38 (a1).toNatClampNeg)) s) ∧ (a2 = 4 → KI MX4_netOf 2 [.ref 31, .int a1] s (fun x9 s8 => Q (some x9) s8)) ∧ (a2 = 5 → KI MX4_marksOn 0 [.ref 31, .int a1, .int (99 : Int32)] s (fun x11 s10 => Q (some x11) s10)) ∧ (a2 = 6 → vp_in a1 9 ∧ Q (some (gI s 39 (a1).toNatClampNeg)) s) ∧ ((a2.toInt < 0 ∨ 6 < a2.toInt) → Q none s))) ∧ ((vX6_hasBody s 5 a1) = 0 → Q none s))) : KX MX11_body 3 [.ref 2, .int a1, .int a2] s Q := by
  show BXX MX11_body 3 0 [(0, .ref 2), (1, .int a1), (2, .int a2)] s Q
  refine JT_aload_n (q := 0) dX11_body_0 rfl rfl ?_
  refine JS_getR (x := 5) dX11_body_1 flX11_19 BS_2 (Nat.le_of_ble_eq_true rfl) (Nat.le_of_ble_eq_true rfl) (Or.inl ⟨_, ct_11_1⟩) RF_2_1 ?_
  refine JT_iload_n (q := 1) dX11_body_4 rfl rfl ?_
  refine JS_callVI (M' := MX6_hasBody) (d' := 0) (As := [.int a1]) (rest := []) (P := (fun zv9 wm9 => (vX6_hasBody s 5 a1) = zv9 ∧ s = wm9)) dX11_body_5 cvX11_172 okX6_hasBody rfl (Nat.le_of_ble_eq_true rfl) BS_5 (Nat.le_of_ble_eq_true rfl) (Nat.le_of_ble_eq_true rfl) hci_6 (Nat.le_of_ble_eq_true rfl) (Nat.le_of_ble_eq_true rfl) (pX6_hasBody hp_5 (a1)  ⟨rfl, rfl⟩) (fun zv9 wm9 hq9 => ?_)
  obtain ⟨rfl, rfl⟩ := hq9
  refine JT_if_ne (tgt := 19) dX11_body_8 (by decide) (fun hc14 => ?_) (fun hc14 => ?_)
  · have h := h.1 hc14
    refine JT_iload_n (q := 2) dX11_body_19 rfl rfl ?_
    by_cases ho1 : (a2).toInt < 0 ∨ 6 < (a2).toInt
    · have h := h.2.2.2.2.2.2.2 ho1
      refine JT_tableOut (tgt := 141) dX11_body_20 ho1 (by decide) ?_
      exact JS_throw h
    · have hk13 : (a2).toInt = 0 ∨ (a2).toInt = 1 ∨ (a2).toInt = 2 ∨ (a2).toInt = 3 ∨ (a2).toInt = 4 ∨ (a2).toInt = 5 ∨ (a2).toInt = 6 := by omega
      rcases hk13 with hk13 | hk13 | hk13 | hk13 | hk13 | hk13 | hk13
      · have h := h.1 (i32_of_toInt hk13)
        refine JT_tableIn (tgt := 64) dX11_body_20 (by omega) (by omega) (by rw [hk13]; rfl) (by decide) ?_
        refine JT_aload_n (q := 0) dX11_body_64 rfl rfl ?_
        refine JS_getR (x := 5) dX11_body_65 flX11_19 BS_2 (Nat.le_of_ble_eq_true rfl) (Nat.le_of_ble_eq_true rfl) (Or.inl ⟨_, ct_11_1⟩) RF_2_1 ?_
        refine JS_getR (x := 7) dX11_body_68 flX11_179 BS_5 (Nat.le_of_ble_eq_true rfl) (Nat.le_of_ble_eq_true rfl) (Or.inr ⟨_, ct_6_1⟩) RF_5_1 ?_
        refine JT_iload_n (q := 1) dX11_body_71 rfl rfl ?_
        obtain ⟨o2, h⟩ := h
        refine JS_iald dX11_body_72 BS_7 (Nat.le_of_ble_eq_true rfl) (Nat.le_of_ble_eq_true rfl) o2 ?_
        exact JS_iretx dX11_body_73 rfl rfl h
      · have h := h.2.1 (i32_of_toInt hk13)
        refine JT_tableIn (tgt := 74) dX11_body_20 (by omega) (by omega) (by rw [hk13]; rfl) (by decide) ?_
        refine JT_aload_n (q := 0) dX11_body_74 rfl rfl ?_
        refine JS_getR (x := 5) dX11_body_75 flX11_19 BS_2 (Nat.le_of_ble_eq_true rfl) (Nat.le_of_ble_eq_true rfl) (Or.inl ⟨_, ct_11_1⟩) RF_2_1 ?_
        refine JS_getR (x := 8) dX11_body_78 flX11_182 BS_5 (Nat.le_of_ble_eq_true rfl) (Nat.le_of_ble_eq_true rfl) (Or.inr ⟨_, ct_6_2⟩) RF_5_2 ?_
        refine JT_iload_n (q := 1) dX11_body_81 rfl rfl ?_
        obtain ⟨o3, h⟩ := h
        refine JS_iald dX11_body_82 BS_8 (Nat.le_of_ble_eq_true rfl) (Nat.le_of_ble_eq_true rfl) o3 ?_
        exact JS_iretx dX11_body_83 rfl rfl h
      · have h := h.2.2.1 (i32_of_toInt hk13)
        refine JT_tableIn (tgt := 84) dX11_body_20 (by omega) (by omega) (by rw [hk13]; rfl) (by decide) ?_
        refine JT_aload_n (q := 0) dX11_body_84 rfl rfl ?_
        refine JS_getR (x := 31) dX11_body_85 flX11_41 BS_2 (Nat.le_of_ble_eq_true rfl) (Nat.le_of_ble_eq_true rfl) (Or.inl ⟨_, ct_11_5⟩) RF_2_5 ?_
        refine JT_iload_n (q := 1) dX11_body_88 rfl rfl ?_
        refine JS_callVI (M' := MX4_lives) (d' := 0) (As := [.int a1]) (rest := []) (P := (fun zv9 wm9 => (vX4_lives s 31 5 a1) = zv9 ∧ s = wm9)) dX11_body_89 cvX11_185 okX4_lives rfl (Nat.le_of_ble_eq_true rfl) BS_31 (Nat.le_of_ble_eq_true rfl) (Nat.le_of_ble_eq_true rfl) hci_4 (Nat.le_of_ble_eq_true rfl) (Nat.le_of_ble_eq_true rfl) (pX4_lives hL_31 (a1)  ⟨rfl, rfl⟩) (fun zv9 wm9 hq9 => ?_)
        obtain ⟨rfl, rfl⟩ := hq9
        have hj4 : ∀ v : Int32, v = (if (vX4_lives s 31 5 a1) = 0 then (0 : Int32) else (1 : Int32)) → JT MX11_body 3 0 0 100 [(0, .ref 2), (1, .int a1), (2, .int a2)] [.int v] (std s) (KQx Q) := by
          intro v hv
          subst hv
          exact JS_iretx dX11_body_100 rfl rfl h
        refine JT_if_eq (tgt := 99) dX11_body_92 (by decide) (fun hc5 => ?_) (fun hc5 => ?_)
        · refine JT_iconst (v := 0) dX11_body_99 ic_0 ?_
          exact hj4 _ (by rw [if_pos hc5])
        · refine JT_iconst (v := 1) dX11_body_95 ic_1 ?_
          refine JT_goto (tgt := 100) dX11_body_96 (by decide) ?_
          exact hj4 _ (by rw [if_neg hc5])
      · have h := h.2.2.2.1 (i32_of_toInt hk13)
        refine JT_tableIn (tgt := 101) dX11_body_20 (by omega) (by omega) (by rw [hk13]; rfl) (by decide) ?_
        refine JT_aload_n (q := 0) dX11_body_101 rfl rfl ?_
        refine JS_getR (x := 31) dX11_body_102 flX11_41 BS_2 (Nat.le_of_ble_eq_true rfl) (Nat.le_of_ble_eq_true rfl) (Or.inl ⟨_, ct_11_5⟩) RF_2_5 ?_
        refine JS_getR (x := 38) dX11_body_105 flX11_188 BS_31 (Nat.le_of_ble_eq_true rfl) (Nat.le_of_ble_eq_true rfl) (Or.inr ⟨_, ct_4_6⟩) RF_31_6 ?_
        refine JT_iload_n (q := 1) dX11_body_108 rfl rfl ?_
        obtain ⟨o7, h⟩ := h
        refine JS_iald dX11_body_109 BS_38 (Nat.le_of_ble_eq_true rfl) (Nat.le_of_ble_eq_true rfl) o7 ?_
        exact JS_iretx dX11_body_110 rfl rfl h
      · have h := h.2.2.2.2.1 (i32_of_toInt hk13)
        refine JT_tableIn (tgt := 111) dX11_body_20 (by omega) (by omega) (by rw [hk13]; rfl) (by decide) ?_
        refine JT_aload_n (q := 0) dX11_body_111 rfl rfl ?_
        refine JS_getR (x := 31) dX11_body_112 flX11_41 BS_2 (Nat.le_of_ble_eq_true rfl) (Nat.le_of_ble_eq_true rfl) (Or.inl ⟨_, ct_11_5⟩) RF_2_5 ?_
        refine JT_iload_n (q := 1) dX11_body_115 rfl rfl ?_
        refine JS_callVI (M' := MX4_netOf) (d' := 2) (As := [.int a1]) (rest := []) dX11_body_116 cvX11_191 okX4_netOf rfl (Nat.le_of_ble_eq_true rfl) BS_31 (Nat.le_of_ble_eq_true rfl) (Nat.le_of_ble_eq_true rfl) hci_4 (Nat.le_of_ble_eq_true rfl) (Nat.le_of_ble_eq_true rfl) h (fun x9 s8 h => ?_)
        exact JS_iretx dX11_body_119 rfl rfl h
      · have h := h.2.2.2.2.2.1 (i32_of_toInt hk13)
        refine JT_tableIn (tgt := 120) dX11_body_20 (by omega) (by omega) (by rw [hk13]; rfl) (by decide) ?_
        refine JT_aload_n (q := 0) dX11_body_120 rfl rfl ?_
        refine JS_getR (x := 31) dX11_body_121 flX11_41 BS_2 (Nat.le_of_ble_eq_true rfl) (Nat.le_of_ble_eq_true rfl) (Or.inl ⟨_, ct_11_5⟩) RF_2_5 ?_
        refine JT_iload_n (q := 1) dX11_body_124 rfl rfl ?_
        refine JT_bipush (v := 99) dX11_body_125 bp_99 ?_
        refine JS_callVI (M' := MX4_marksOn) (d' := 0) (As := [.int a1, .int (99 : Int32)]) (rest := []) dX11_body_127 cvX11_195 okX4_marksOn rfl (Nat.le_of_ble_eq_true rfl) BS_31 (Nat.le_of_ble_eq_true rfl) (Nat.le_of_ble_eq_true rfl) hci_4 (Nat.le_of_ble_eq_true rfl) (Nat.le_of_ble_eq_true rfl) h (fun x11 s10 h => ?_)
        exact JS_iretx dX11_body_130 rfl rfl h
      · have h := h.2.2.2.2.2.2.1 (i32_of_toInt hk13)
        refine JT_tableIn (tgt := 131) dX11_body_20 (by omega) (by omega) (by rw [hk13]; rfl) (by decide) ?_
        refine JT_aload_n (q := 0) dX11_body_131 rfl rfl ?_
        refine JS_getR (x := 31) dX11_body_132 flX11_41 BS_2 (Nat.le_of_ble_eq_true rfl) (Nat.le_of_ble_eq_true rfl) (Or.inl ⟨_, ct_11_5⟩) RF_2_5 ?_
        refine JS_getR (x := 39) dX11_body_135 flX11_199 BS_31 (Nat.le_of_ble_eq_true rfl) (Nat.le_of_ble_eq_true rfl) (Or.inr ⟨_, ct_4_7⟩) RF_31_7 ?_
        refine JT_iload_n (q := 1) dX11_body_138 rfl rfl ?_
        obtain ⟨o12, h⟩ := h
        refine JS_iald dX11_body_139 BS_39 (Nat.le_of_ble_eq_true rfl) (Nat.le_of_ble_eq_true rfl) o12 ?_
        exact JS_iretx dX11_body_140 rfl rfl h
  · have h := h.2 hc14
    exact JS_throw h
set_option maxRecDepth 20000 in
theorem bX11_chain_31 (a1 : Int32) (a2 : Int32) (a3 : Int32) (a4 : Int32) {s : SM} {Q : Int32 → SM → Prop} (h : (((9 : Int32) ≤ a4 → Q (-1 : Int32) s) ∧ (¬ (9 : Int32) ≤ a4 → (((vX11_isIn s a2 a3) = 0 → KI MX4_lendersTo 2 [.ref 31, .int a3] s (fun x2 s1 => BI MX11_chain 3 31 [(0, .ref 2), (1, .int a1), (2, .int a2), (3, .int (a3 ||| x2)), (4, .int (a4 + 1))] s1 Q)) ∧ (¬ (vX11_isIn s a2 a3) = 0 → Q a4 s))))) : BI MX11_chain 3 31 [(0, .ref 2), (1, .int a1), (2, .int a2), (3, .int a3), (4, .int a4)] s Q := by
  refine JT_iload (q := 4) dX11_chain_31 rfl ?_
  refine JT_bipush (v := 9) dX11_chain_33 bp_9 ?_
  refine JT_icmp_ge (tgt := 66) dX11_chain_35 (by decide) (fun hc5 => ?_) (fun hc5 => ?_)
  · have h := h.1 hc5
    refine JT_iconst (v := -1) dX11_chain_66 ic_m1 ?_
    exact JS_iret dX11_chain_67 rfl rfl h
  · have h := h.2 hc5
    refine JT_iload_n (q := 2) dX11_chain_38 rfl rfl ?_
    refine JT_iload_n (q := 3) dX11_chain_39 rfl rfl ?_
    refine JS_callSI (M' := MX11_isIn) (d' := 0) (As := [.int a2, .int a3]) (rest := []) (P := (fun zv9 wm9 => (vX11_isIn s a2 a3) = zv9 ∧ s = wm9)) dX11_chain_40 cvX11_254 okX11_isIn rfl (Nat.le_of_ble_eq_true rfl) (Nat.le_of_ble_eq_true rfl) (Nat.le_of_ble_eq_true rfl) (pX11_isIn  (a2) (a3)  ⟨rfl, rfl⟩) (fun zv9 wm9 hq9 => ?_)
    obtain ⟨rfl, rfl⟩ := hq9
    refine JT_if_eq (tgt := 49) dX11_chain_43 (by decide) (fun hc3 => ?_) (fun hc3 => ?_)
    · have h := h.1 hc3
      refine JT_iload_n (q := 3) dX11_chain_49 rfl rfl ?_
      refine JT_aload_n (q := 0) dX11_chain_50 rfl rfl ?_
      refine JS_getR (x := 31) dX11_chain_51 flX11_41 BS_2 (Nat.le_of_ble_eq_true rfl) (Nat.le_of_ble_eq_true rfl) (Or.inl ⟨_, ct_11_5⟩) RF_2_5 ?_
      refine JT_iload_n (q := 3) dX11_chain_54 rfl rfl ?_
      refine JS_callVI (M' := MX4_lendersTo) (d' := 2) (As := [.int a3]) (rest := [.int a3]) dX11_chain_55 cvX11_257 okX4_lendersTo rfl (Nat.le_of_ble_eq_true rfl) BS_31 (Nat.le_of_ble_eq_true rfl) (Nat.le_of_ble_eq_true rfl) hci_4 (Nat.le_of_ble_eq_true rfl) (Nat.le_of_ble_eq_true rfl) h (fun x2 s1 h => ?_)
      refine JT_ior dX11_chain_58 ?_
      refine JT_istore_n (lv' := [(3, .int (a3 ||| x2)), (0, .ref 2), (1, .int a1), (2, .int a2), (4, .int a4)]) dX11_chain_59 rfl (Nat.le_of_ble_eq_true rfl) rfl ?_
      refine JT_iinc (q := 4) (v := (a4 + 1)) (lv' := [(4, .int (a4 + 1)), (3, .int (a3 ||| x2)), (0, .ref 2), (1, .int a1), (2, .int a2)]) dX11_chain_60 rfl (by rfl) (Nat.le_of_ble_eq_true rfl) rfl ?_
      refine JT_goto (tgt := 31) dX11_chain_63 (by decide) ?_
      exact JT_sub [2, 3, 4, 1, 0] rfl h
    · have h := h.2 hc3
      refine JT_iload (q := 4) dX11_chain_46 rfl ?_
      exact JS_iret dX11_chain_48 rfl rfl h
set_option maxRecDepth 20000 in
theorem bX11_chain (a1 : Int32) (a2 : Int32) {s : SM} {Q : Int32 → SM → Prop} (h : (((vX6_hasBody s 5 a1) = 0 → Q (-1 : Int32) s) ∧ (¬ (vX6_hasBody s 5 a1) = 0 → ((¬ (vX6_hasBody s 5 a2) = 0 → BI MX11_chain 3 31 [(0, .ref 2), (1, .int a1), (2, .int a2), (3, .int ((1 : Int32) <<< (a1 &&& 31))), (4, .int (0 : Int32))] s Q) ∧ ((vX6_hasBody s 5 a2) = 0 → Q (-1 : Int32) s))))) : KI MX11_chain 3 [.ref 2, .int a1, .int a2] s Q := by
  show BI MX11_chain 3 0 [(0, .ref 2), (1, .int a1), (2, .int a2)] s Q
  refine JT_aload_n (q := 0) dX11_chain_0 rfl rfl ?_
  refine JS_getR (x := 5) dX11_chain_1 flX11_19 BS_2 (Nat.le_of_ble_eq_true rfl) (Nat.le_of_ble_eq_true rfl) (Or.inl ⟨_, ct_11_1⟩) RF_2_1 ?_
  refine JT_iload_n (q := 1) dX11_chain_4 rfl rfl ?_
  refine JS_callVI (M' := MX6_hasBody) (d' := 0) (As := [.int a1]) (rest := []) (P := (fun zv9 wm9 => (vX6_hasBody s 5 a1) = zv9 ∧ s = wm9)) dX11_chain_5 cvX11_172 okX6_hasBody rfl (Nat.le_of_ble_eq_true rfl) BS_5 (Nat.le_of_ble_eq_true rfl) (Nat.le_of_ble_eq_true rfl) hci_6 (Nat.le_of_ble_eq_true rfl) (Nat.le_of_ble_eq_true rfl) (pX6_hasBody hp_5 (a1)  ⟨rfl, rfl⟩) (fun zv9 wm9 hq9 => ?_)
  obtain ⟨rfl, rfl⟩ := hq9
  refine JT_if_eq (tgt := 22) dX11_chain_8 (by decide) (fun hc3 => ?_) (fun hc3 => ?_)
  · have h := h.1 hc3
    refine JT_iconst (v := -1) dX11_chain_22 ic_m1 ?_
    exact JS_iret dX11_chain_23 rfl rfl h
  · have h := h.2 hc3
    refine JT_aload_n (q := 0) dX11_chain_11 rfl rfl ?_
    refine JS_getR (x := 5) dX11_chain_12 flX11_19 BS_2 (Nat.le_of_ble_eq_true rfl) (Nat.le_of_ble_eq_true rfl) (Or.inl ⟨_, ct_11_1⟩) RF_2_1 ?_
    refine JT_iload_n (q := 2) dX11_chain_15 rfl rfl ?_
    refine JS_callVI (M' := MX6_hasBody) (d' := 0) (As := [.int a2]) (rest := []) (P := (fun zv9 wm9 => (vX6_hasBody s 5 a2) = zv9 ∧ s = wm9)) dX11_chain_16 cvX11_172 okX6_hasBody rfl (Nat.le_of_ble_eq_true rfl) BS_5 (Nat.le_of_ble_eq_true rfl) (Nat.le_of_ble_eq_true rfl) hci_6 (Nat.le_of_ble_eq_true rfl) (Nat.le_of_ble_eq_true rfl) (pX6_hasBody hp_5 (a2)  ⟨rfl, rfl⟩) (fun zv9 wm9 hq9 => ?_)
    obtain ⟨rfl, rfl⟩ := hq9
    refine JT_if_ne (tgt := 24) dX11_chain_19 (by decide) (fun hc1 => ?_) (fun hc1 => ?_)
    · have h := h.1 hc1
      refine JT_iconst (v := 1) dX11_chain_24 ic_1 ?_
      refine JT_iload_n (q := 1) dX11_chain_25 rfl rfl ?_
      refine JT_ishl dX11_chain_26 ?_
      refine JT_istore_n (lv' := [(3, .int ((1 : Int32) <<< (a1 &&& 31))), (0, .ref 2), (1, .int a1), (2, .int a2)]) dX11_chain_27 rfl (Nat.le_of_ble_eq_true rfl) rfl ?_
      refine JT_iconst (v := 0) dX11_chain_28 ic_0 ?_
      refine JT_istore (lv' := [(4, .int (0 : Int32)), (3, .int ((1 : Int32) <<< (a1 &&& 31))), (0, .ref 2), (1, .int a1), (2, .int a2)]) dX11_chain_29 (Nat.le_of_ble_eq_true rfl) rfl ?_
      exact JT_sub [2, 3, 4, 1, 0] rfl h
    · have h := h.2 hc1
      refine JT_iconst (v := -1) dX11_chain_22 ic_m1 ?_
      exact JS_iret dX11_chain_23 rfl rfl h
set_option maxRecDepth 20000 in
theorem bX11_count (a1 : Int32) {s : SM} {Q : Int32 → SM → Prop} (h : ((a1 = 0 → Q (gI s 5 6) s) ∧ (a1 = 1 → Q (gI s 5 7) s) ∧ (a1 = 2 → Q (gI s 5 8) s) ∧ (a1 = 3 → Q (gI s 5 9) s) ∧ (a1 = 4 → Q (gI s 31 9) s) ∧ (a1 = 5 → KI MX4_openDeals 2 [.ref 31] s (fun x3 s2 => Q x3 s2)) ∧ (a1 = 6 → Q (gI s 31 10) s) ∧ (a1 = 7 → Q (gI s 19 0) s) ∧ (a1 = 8 → Q (gI s 3 1) s) ∧ ((a1.toInt < 0 ∨ 8 < a1.toInt) → Q (-1 : Int32) s))) : KI MX11_count 3 [.ref 2, .int a1] s Q := by
  show BI MX11_count 3 0 [(0, .ref 2), (1, .int a1)] s Q
  refine JT_iload_n (q := 1) dX11_count_0 rfl rfl ?_
  by_cases ho1 : (a1).toInt < 0 ∨ 8 < (a1).toInt
  · have h := h.2.2.2.2.2.2.2.2.2 ho1
    refine JT_tableOut (tgt := 124) dX11_count_1 ho1 (by decide) ?_
    refine JT_iconst (v := -1) dX11_count_124 ic_m1 ?_
    exact JS_iret dX11_count_125 rfl rfl h
  · have hk4 : (a1).toInt = 0 ∨ (a1).toInt = 1 ∨ (a1).toInt = 2 ∨ (a1).toInt = 3 ∨ (a1).toInt = 4 ∨ (a1).toInt = 5 ∨ (a1).toInt = 6 ∨ (a1).toInt = 7 ∨ (a1).toInt = 8 := by omega
    rcases hk4 with hk4 | hk4 | hk4 | hk4 | hk4 | hk4 | hk4 | hk4 | hk4
    · have h := h.1 (i32_of_toInt hk4)
      refine JT_tableIn (tgt := 52) dX11_count_1 (by omega) (by omega) (by rw [hk4]; rfl) (by decide) ?_
      refine JT_aload_n (q := 0) dX11_count_52 rfl rfl ?_
      refine JS_getR (x := 5) dX11_count_53 flX11_19 BS_2 (Nat.le_of_ble_eq_true rfl) (Nat.le_of_ble_eq_true rfl) (Or.inl ⟨_, ct_11_1⟩) RF_2_1 ?_
      refine JS_getI dX11_count_56 flX11_150 BS_5 (Nat.le_of_ble_eq_true rfl) (Nat.le_of_ble_eq_true rfl) (Or.inl ct_6_6) ?_
      exact JS_iret dX11_count_59 rfl rfl h
    · have h := h.2.1 (i32_of_toInt hk4)
      refine JT_tableIn (tgt := 60) dX11_count_1 (by omega) (by omega) (by rw [hk4]; rfl) (by decide) ?_
      refine JT_aload_n (q := 0) dX11_count_60 rfl rfl ?_
      refine JS_getR (x := 5) dX11_count_61 flX11_19 BS_2 (Nat.le_of_ble_eq_true rfl) (Nat.le_of_ble_eq_true rfl) (Or.inl ⟨_, ct_11_1⟩) RF_2_1 ?_
      refine JS_getI dX11_count_64 flX11_153 BS_5 (Nat.le_of_ble_eq_true rfl) (Nat.le_of_ble_eq_true rfl) (Or.inl ct_6_7) ?_
      exact JS_iret dX11_count_67 rfl rfl h
    · have h := h.2.2.1 (i32_of_toInt hk4)
      refine JT_tableIn (tgt := 68) dX11_count_1 (by omega) (by omega) (by rw [hk4]; rfl) (by decide) ?_
      refine JT_aload_n (q := 0) dX11_count_68 rfl rfl ?_
      refine JS_getR (x := 5) dX11_count_69 flX11_19 BS_2 (Nat.le_of_ble_eq_true rfl) (Nat.le_of_ble_eq_true rfl) (Or.inl ⟨_, ct_11_1⟩) RF_2_1 ?_
      refine JS_getI dX11_count_72 flX11_156 BS_5 (Nat.le_of_ble_eq_true rfl) (Nat.le_of_ble_eq_true rfl) (Or.inl ct_6_8) ?_
      exact JS_iret dX11_count_75 rfl rfl h
    · have h := h.2.2.2.1 (i32_of_toInt hk4)
      refine JT_tableIn (tgt := 76) dX11_count_1 (by omega) (by omega) (by rw [hk4]; rfl) (by decide) ?_
      refine JT_aload_n (q := 0) dX11_count_76 rfl rfl ?_
      refine JS_getR (x := 5) dX11_count_77 flX11_19 BS_2 (Nat.le_of_ble_eq_true rfl) (Nat.le_of_ble_eq_true rfl) (Or.inl ⟨_, ct_11_1⟩) RF_2_1 ?_
      refine JS_getI dX11_count_80 flX11_159 BS_5 (Nat.le_of_ble_eq_true rfl) (Nat.le_of_ble_eq_true rfl) (Or.inl ct_6_9) ?_
      exact JS_iret dX11_count_83 rfl rfl h
    · have h := h.2.2.2.2.1 (i32_of_toInt hk4)
      refine JT_tableIn (tgt := 84) dX11_count_1 (by omega) (by omega) (by rw [hk4]; rfl) (by decide) ?_
      refine JT_aload_n (q := 0) dX11_count_84 rfl rfl ?_
      refine JS_getR (x := 31) dX11_count_85 flX11_41 BS_2 (Nat.le_of_ble_eq_true rfl) (Nat.le_of_ble_eq_true rfl) (Or.inl ⟨_, ct_11_5⟩) RF_2_5 ?_
      refine JS_getI dX11_count_88 flX11_162 BS_31 (Nat.le_of_ble_eq_true rfl) (Nat.le_of_ble_eq_true rfl) (Or.inl ct_4_9) ?_
      exact JS_iret dX11_count_91 rfl rfl h
    · have h := h.2.2.2.2.2.1 (i32_of_toInt hk4)
      refine JT_tableIn (tgt := 92) dX11_count_1 (by omega) (by omega) (by rw [hk4]; rfl) (by decide) ?_
      refine JT_aload_n (q := 0) dX11_count_92 rfl rfl ?_
      refine JS_getR (x := 31) dX11_count_93 flX11_41 BS_2 (Nat.le_of_ble_eq_true rfl) (Nat.le_of_ble_eq_true rfl) (Or.inl ⟨_, ct_11_5⟩) RF_2_5 ?_
      refine JS_callVI (M' := MX4_openDeals) (d' := 2) (As := []) (rest := []) dX11_count_96 cvX11_165 okX4_openDeals rfl (Nat.le_of_ble_eq_true rfl) BS_31 (Nat.le_of_ble_eq_true rfl) (Nat.le_of_ble_eq_true rfl) hci_4 (Nat.le_of_ble_eq_true rfl) (Nat.le_of_ble_eq_true rfl) h (fun x3 s2 h => ?_)
      exact JS_iret dX11_count_99 rfl rfl h
    · have h := h.2.2.2.2.2.2.1 (i32_of_toInt hk4)
      refine JT_tableIn (tgt := 100) dX11_count_1 (by omega) (by omega) (by rw [hk4]; rfl) (by decide) ?_
      refine JT_aload_n (q := 0) dX11_count_100 rfl rfl ?_
      refine JS_getR (x := 31) dX11_count_101 flX11_41 BS_2 (Nat.le_of_ble_eq_true rfl) (Nat.le_of_ble_eq_true rfl) (Or.inl ⟨_, ct_11_5⟩) RF_2_5 ?_
      refine JS_getI dX11_count_104 flX11_169 BS_31 (Nat.le_of_ble_eq_true rfl) (Nat.le_of_ble_eq_true rfl) (Or.inl ct_4_10) ?_
      exact JS_iret dX11_count_107 rfl rfl h
    · have h := h.2.2.2.2.2.2.2.1 (i32_of_toInt hk4)
      refine JT_tableIn (tgt := 108) dX11_count_1 (by omega) (by omega) (by rw [hk4]; rfl) (by decide) ?_
      refine JT_aload_n (q := 0) dX11_count_108 rfl rfl ?_
      refine JS_getR (x := 19) dX11_count_109 flX11_29 BS_2 (Nat.le_of_ble_eq_true rfl) (Nat.le_of_ble_eq_true rfl) (Or.inl ⟨_, ct_11_3⟩) RF_2_3 ?_
      refine JS_getI dX11_count_112 flX11_134 BS_19 (Nat.le_of_ble_eq_true rfl) (Nat.le_of_ble_eq_true rfl) (Or.inl ct_0_0) ?_
      exact JS_iret dX11_count_115 rfl rfl h
    · have h := h.2.2.2.2.2.2.2.2.1 (i32_of_toInt hk4)
      refine JT_tableIn (tgt := 116) dX11_count_1 (by omega) (by omega) (by rw [hk4]; rfl) (by decide) ?_
      refine JT_aload_n (q := 0) dX11_count_116 rfl rfl ?_
      refine JS_getR (x := 3) dX11_count_117 flX11_10 BS_2 (Nat.le_of_ble_eq_true rfl) (Nat.le_of_ble_eq_true rfl) (Or.inl ⟨_, ct_11_0⟩) RF_2_0 ?_
      refine JS_getI dX11_count_120 flX11_104 BS_3 (Nat.le_of_ble_eq_true rfl) (Nat.le_of_ble_eq_true rfl) (Or.inl ct_9_1) ?_
      exact JS_iret dX11_count_123 rfl rfl h
set_option maxRecDepth 20000 in
theorem bX11_dies (a1 : Int32) (a2 : Int32) {s : SM} {Q : Int32 → SM → Prop} (h : (((vX6_hasBody s 5 a1) = 0 → Q (-1 : Int32) s) ∧ (¬ (vX6_hasBody s 5 a1) = 0 → ((¬ (vX6_hasBody s 5 a2) = 0 → KV MX2_note 2 [.ref 55, .ref 31] s (fun s1 => KI MX4_openFor 2 [.ref 31, .int a1, .int a2] s1 (fun x4 s3 => KI MX4_tryBury 2 [.ref 31, .int a1, .int a2] s3 (fun x6 s5 => ((x6 = 0 → Q x4 (mX2_keepNoted s5 )) ∧ (¬ x6 = 0 → Q ((-10 : Int32) - x6) s5)))))) ∧ ((vX6_hasBody s 5 a2) = 0 → Q (-1 : Int32) s))))) : KI MX11_dies 3 [.ref 2, .int a1, .int a2] s Q := by
  show BI MX11_dies 3 0 [(0, .ref 2), (1, .int a1), (2, .int a2)] s Q
  refine JT_aload_n (q := 0) dX11_dies_0 rfl rfl ?_
  refine JS_getR (x := 5) dX11_dies_1 flX11_19 BS_2 (Nat.le_of_ble_eq_true rfl) (Nat.le_of_ble_eq_true rfl) (Or.inl ⟨_, ct_11_1⟩) RF_2_1 ?_
  refine JT_iload_n (q := 1) dX11_dies_4 rfl rfl ?_
  refine JS_callVI (M' := MX6_hasBody) (d' := 0) (As := [.int a1]) (rest := []) (P := (fun zv9 wm9 => (vX6_hasBody s 5 a1) = zv9 ∧ s = wm9)) dX11_dies_5 cvX11_172 okX6_hasBody rfl (Nat.le_of_ble_eq_true rfl) BS_5 (Nat.le_of_ble_eq_true rfl) (Nat.le_of_ble_eq_true rfl) hci_6 (Nat.le_of_ble_eq_true rfl) (Nat.le_of_ble_eq_true rfl) (pX6_hasBody hp_5 (a1)  ⟨rfl, rfl⟩) (fun zv9 wm9 hq9 => ?_)
  obtain ⟨rfl, rfl⟩ := hq9
  refine JT_if_eq (tgt := 22) dX11_dies_8 (by decide) (fun hc11 => ?_) (fun hc11 => ?_)
  · have h := h.1 hc11
    refine JT_iconst (v := -1) dX11_dies_22 ic_m1 ?_
    exact JS_iret dX11_dies_23 rfl rfl h
  · have h := h.2 hc11
    refine JT_aload_n (q := 0) dX11_dies_11 rfl rfl ?_
    refine JS_getR (x := 5) dX11_dies_12 flX11_19 BS_2 (Nat.le_of_ble_eq_true rfl) (Nat.le_of_ble_eq_true rfl) (Or.inl ⟨_, ct_11_1⟩) RF_2_1 ?_
    refine JT_iload_n (q := 2) dX11_dies_15 rfl rfl ?_
    refine JS_callVI (M' := MX6_hasBody) (d' := 0) (As := [.int a2]) (rest := []) (P := (fun zv9 wm9 => (vX6_hasBody s 5 a2) = zv9 ∧ s = wm9)) dX11_dies_16 cvX11_172 okX6_hasBody rfl (Nat.le_of_ble_eq_true rfl) BS_5 (Nat.le_of_ble_eq_true rfl) (Nat.le_of_ble_eq_true rfl) hci_6 (Nat.le_of_ble_eq_true rfl) (Nat.le_of_ble_eq_true rfl) (pX6_hasBody hp_5 (a2)  ⟨rfl, rfl⟩) (fun zv9 wm9 hq9 => ?_)
    obtain ⟨rfl, rfl⟩ := hq9
    refine JT_if_ne (tgt := 24) dX11_dies_19 (by decide) (fun hc9 => ?_) (fun hc9 => ?_)
    · have h := h.1 hc9
      refine JT_aload_n (q := 0) dX11_dies_24 rfl rfl ?_
      refine JS_getR (x := 55) dX11_dies_25 flX11_51 BS_2 (Nat.le_of_ble_eq_true rfl) (Nat.le_of_ble_eq_true rfl) (Or.inl ⟨_, ct_11_7⟩) RF_2_7 ?_
      refine JT_aload_n (q := 0) dX11_dies_28 rfl rfl ?_
      refine JS_getR (x := 31) dX11_dies_29 flX11_41 BS_2 (Nat.le_of_ble_eq_true rfl) (Nat.le_of_ble_eq_true rfl) (Or.inl ⟨_, ct_11_5⟩) RF_2_5 ?_
      refine JS_callVV (M' := MX2_note) (d' := 2) (As := [.ref 31]) (rest := []) dX11_dies_32 cvX11_300 okX2_note rfl (Nat.le_of_ble_eq_true rfl) BS_55 (Nat.le_of_ble_eq_true rfl) (Nat.le_of_ble_eq_true rfl) hci_2 (Nat.le_of_ble_eq_true rfl) (Nat.le_of_ble_eq_true rfl) h (fun s1 h => ?_)
      refine JT_aload_n (q := 0) dX11_dies_35 rfl rfl ?_
      refine JS_getR (x := 31) dX11_dies_36 flX11_41 BS_2 (Nat.le_of_ble_eq_true rfl) (Nat.le_of_ble_eq_true rfl) (Or.inl ⟨_, ct_11_5⟩) RF_2_5 ?_
      refine JT_iload_n (q := 1) dX11_dies_39 rfl rfl ?_
      refine JT_iload_n (q := 2) dX11_dies_40 rfl rfl ?_
      refine JS_callVI (M' := MX4_openFor) (d' := 2) (As := [.int a1, .int a2]) (rest := []) dX11_dies_41 cvX11_324 okX4_openFor rfl (Nat.le_of_ble_eq_true rfl) BS_31 (Nat.le_of_ble_eq_true rfl) (Nat.le_of_ble_eq_true rfl) hci_4 (Nat.le_of_ble_eq_true rfl) (Nat.le_of_ble_eq_true rfl) h (fun x4 s3 h => ?_)
      refine JT_istore_n (lv' := [(3, .int x4), (0, .ref 2), (1, .int a1), (2, .int a2)]) dX11_dies_44 rfl (Nat.le_of_ble_eq_true rfl) rfl ?_
      refine JT_aload_n (q := 1) dX11_dies_45 rfl rfl ?_
      refine JS_getR (x := 31) dX11_dies_46 flX11_41 BS_2 (Nat.le_of_ble_eq_true rfl) (Nat.le_of_ble_eq_true rfl) (Or.inl ⟨_, ct_11_5⟩) RF_2_5 ?_
      refine JT_iload_n (q := 2) dX11_dies_49 rfl rfl ?_
      refine JT_iload_n (q := 3) dX11_dies_50 rfl rfl ?_
      refine JS_callVI (M' := MX4_tryBury) (d' := 2) (As := [.int a1, .int a2]) (rest := []) dX11_dies_51 cvX11_327 okX4_tryBury rfl (Nat.le_of_ble_eq_true rfl) BS_31 (Nat.le_of_ble_eq_true rfl) (Nat.le_of_ble_eq_true rfl) hci_4 (Nat.le_of_ble_eq_true rfl) (Nat.le_of_ble_eq_true rfl) h (fun x6 s5 h => ?_)
      refine JT_istore (lv' := [(4, .int x6), (3, .int x4), (0, .ref 2), (1, .int a1), (2, .int a2)]) dX11_dies_54 (Nat.le_of_ble_eq_true rfl) rfl ?_
      refine JT_iload (q := 0) dX11_dies_56 rfl ?_
      refine JT_if_eq (tgt := 67) dX11_dies_58 (by decide) (fun hc8 => ?_) (fun hc8 => ?_)
      · have h := h.1 hc8
        refine JT_aload_n (q := 2) dX11_dies_67 rfl rfl ?_
        refine JS_getR (x := 55) dX11_dies_68 flX11_51 BS_2 (Nat.le_of_ble_eq_true rfl) (Nat.le_of_ble_eq_true rfl) (Or.inl ⟨_, ct_11_7⟩) RF_2_7 ?_
        refine JS_callVV (M' := MX2_keepNoted) (d' := 1) (As := []) (rest := []) (P := (fun wm9 => (mX2_keepNoted s5 ) = wm9)) dX11_dies_71 cvX11_308 okX2_keepNoted rfl (Nat.le_of_ble_eq_true rfl) BS_55 (Nat.le_of_ble_eq_true rfl) (Nat.le_of_ble_eq_true rfl) hci_2 (Nat.le_of_ble_eq_true rfl) (Nat.le_of_ble_eq_true rfl) (pX2_keepNoted    rfl) (fun wm9 hq9 => ?_)
        subst hq9
        refine JT_iload_n (q := 1) dX11_dies_74 rfl rfl ?_
        exact JS_iret dX11_dies_75 rfl rfl h
      · have h := h.2 hc8
        refine JT_bipush (v := -10) dX11_dies_61 bp_m10 ?_
        refine JT_iload (q := 0) dX11_dies_63 rfl ?_
        refine JT_isub dX11_dies_65 ?_
        exact JS_iret dX11_dies_66 rfl rfl h
    · have h := h.2 hc9
      refine JT_iconst (v := -1) dX11_dies_22 ic_m1 ?_
      exact JS_iret dX11_dies_23 rfl rfl h
set_option maxRecDepth 20000 in
theorem bX11_greatest_8 (a1 : Int32) (a2 : Int32) {s : SM} {Q : Int32 → SM → Prop} (h : (((gI s 31 9) ≤ a2 → Q (-1 : Int32) s) ∧ (¬ (gI s 31 9) ≤ a2 → rX4_isOpen s 31 5 a2 ∧ (((vX4_isOpen s 31 5 a2) = 0 → BI MX11_greatest 3 8 [(0, .ref 2), (1, .int a1), (2, .int (a2 + 1))] s Q) ∧ (¬ (vX4_isOpen s 31 5 a2) = 0 → KI MX4_openAhead 2 [.ref 31, .int a2] s (fun x2 s1 => ((¬ x2 = a1 → BI MX11_greatest 3 8 [(0, .ref 2), (1, .int a1), (2, .int (a2 + 1))] s1 Q) ∧ (x2 = a1 → Q a2 s1)))))))) : BI MX11_greatest 3 8 [(0, .ref 2), (1, .int a1), (2, .int a2)] s Q := by
  refine JT_iload_n (q := 2) dX11_greatest_8 rfl rfl ?_
  refine JT_aload_n (q := 0) dX11_greatest_9 rfl rfl ?_
  refine JS_getR (x := 31) dX11_greatest_10 flX11_41 BS_2 (Nat.le_of_ble_eq_true rfl) (Nat.le_of_ble_eq_true rfl) (Or.inl ⟨_, ct_11_5⟩) RF_2_5 ?_
  refine JS_getI dX11_greatest_13 flX11_162 BS_31 (Nat.le_of_ble_eq_true rfl) (Nat.le_of_ble_eq_true rfl) (Or.inl ct_4_9) ?_
  refine JT_icmp_ge (tgt := 50) dX11_greatest_16 (by decide) (fun hc6 => ?_) (fun hc6 => ?_)
  · have h := h.1 hc6
    refine JT_iconst (v := -1) dX11_greatest_50 ic_m1 ?_
    exact JS_iret dX11_greatest_51 rfl rfl h
  · have h := h.2 hc6
    refine JT_aload_n (q := 0) dX11_greatest_19 rfl rfl ?_
    refine JS_getR (x := 31) dX11_greatest_20 flX11_41 BS_2 (Nat.le_of_ble_eq_true rfl) (Nat.le_of_ble_eq_true rfl) (Or.inl ⟨_, ct_11_5⟩) RF_2_5 ?_
    refine JT_iload_n (q := 2) dX11_greatest_23 rfl rfl ?_
    obtain ⟨o5, h⟩ := h
    refine JS_callVI (M' := MX4_isOpen) (d' := 1) (As := [.int a2]) (rest := []) (P := (fun zv9 wm9 => (vX4_isOpen s 31 5 a2) = zv9 ∧ s = wm9)) dX11_greatest_24 cvX11_251 okX4_isOpen rfl (Nat.le_of_ble_eq_true rfl) BS_31 (Nat.le_of_ble_eq_true rfl) (Nat.le_of_ble_eq_true rfl) hci_4 (Nat.le_of_ble_eq_true rfl) (Nat.le_of_ble_eq_true rfl) (pX4_isOpen hL_31 (a2) o5 ⟨rfl, rfl⟩) (fun zv9 wm9 hq9 => ?_)
    obtain ⟨rfl, rfl⟩ := hq9
    refine JT_if_eq (tgt := 44) dX11_greatest_27 (by decide) (fun hc4 => ?_) (fun hc4 => ?_)
    · have h := h.1 hc4
      refine JT_iinc (q := 2) (v := (a2 + 1)) (lv' := [(2, .int (a2 + 1)), (0, .ref 2), (1, .int a1)]) dX11_greatest_44 rfl (by rfl) (Nat.le_of_ble_eq_true rfl) rfl ?_
      refine JT_goto (tgt := 8) dX11_greatest_47 (by decide) ?_
      exact JT_sub [1, 2, 0] rfl h
    · have h := h.2 hc4
      refine JT_aload_n (q := 0) dX11_greatest_30 rfl rfl ?_
      refine JS_getR (x := 31) dX11_greatest_31 flX11_41 BS_2 (Nat.le_of_ble_eq_true rfl) (Nat.le_of_ble_eq_true rfl) (Or.inl ⟨_, ct_11_5⟩) RF_2_5 ?_
      refine JT_iload_n (q := 2) dX11_greatest_34 rfl rfl ?_
      refine JS_callVI (M' := MX4_openAhead) (d' := 2) (As := [.int a2]) (rest := []) dX11_greatest_35 cvX11_267 okX4_openAhead rfl (Nat.le_of_ble_eq_true rfl) BS_31 (Nat.le_of_ble_eq_true rfl) (Nat.le_of_ble_eq_true rfl) hci_4 (Nat.le_of_ble_eq_true rfl) (Nat.le_of_ble_eq_true rfl) h (fun x2 s1 h => ?_)
      refine JT_iload_n (q := 1) dX11_greatest_38 rfl rfl ?_
      refine JT_icmp_ne (tgt := 44) dX11_greatest_39 (by decide) (fun hc3 => ?_) (fun hc3 => ?_)
      · have h := h.1 hc3
        refine JT_iinc (q := 2) (v := (a2 + 1)) (lv' := [(2, .int (a2 + 1)), (0, .ref 2), (1, .int a1)]) dX11_greatest_44 rfl (by rfl) (Nat.le_of_ble_eq_true rfl) rfl ?_
        refine JT_goto (tgt := 8) dX11_greatest_47 (by decide) ?_
        exact JT_sub [1, 2, 0] rfl h
      · have h := h.2 hc3
        refine JT_iload_n (q := 2) dX11_greatest_42 rfl rfl ?_
        exact JS_iret dX11_greatest_43 rfl rfl h
set_option maxRecDepth 20000 in
theorem bX11_greatest (a1 : Int32) {s : SM} {Q : Int32 → SM → Prop} (h : ((0 ≤ a1 → BI MX11_greatest 3 8 [(0, .ref 2), (1, .int a1), (2, .int (0 : Int32))] s Q) ∧ (¬ 0 ≤ a1 → Q (-1 : Int32) s))) : KI MX11_greatest 3 [.ref 2, .int a1] s Q := by
  show BI MX11_greatest 3 0 [(0, .ref 2), (1, .int a1)] s Q
  refine JT_iload_n (q := 1) dX11_greatest_0 rfl rfl ?_
  refine JT_if_ge (tgt := 6) dX11_greatest_1 (by decide) (fun hc1 => ?_) (fun hc1 => ?_)
  · have h := h.1 hc1
    refine JT_iconst (v := 0) dX11_greatest_6 ic_0 ?_
    refine JT_istore_n (lv' := [(2, .int (0 : Int32)), (0, .ref 2), (1, .int a1)]) dX11_greatest_7 rfl (Nat.le_of_ble_eq_true rfl) rfl ?_
    exact JT_sub [1, 2, 0] rfl h
  · have h := h.2 hc1
    refine JT_iconst (v := -1) dX11_greatest_4 ic_m1 ?_
    exact JS_iret dX11_greatest_5 rfl rfl h
set_option maxRecDepth 20000 in
theorem bX11_image (a1 : Int32) {s : SM} {Q : Int32 → SM → Prop} (h : ((a1 < 0 → Q (0 : Int32) s) ∧ (¬ a1 < 0 → ((a1 < (2 : Int32) → vp_in a1 2 ∧ ∃ Ix1 Px1 Lx1 Bx1, RF 165 (a1).toNatClampNeg = some Ix1 ∧ (Ix1, Px1, Lx1, Bx1) ∈ IX ∧ rX3_keep s Ix1 Px1 Lx1 Bx1 5 31 5 19 ∧ Q (1 : Int32) (mX3_keep s Ix1 Px1 Lx1 Bx1 5 31 5 19)) ∧ (¬ a1 < (2 : Int32) → Q (0 : Int32) s))))) : KI MX11_image 3 [.ref 2, .int a1] s Q := by
  show BI MX11_image 3 0 [(0, .ref 2), (1, .int a1)] s Q
  refine JT_iload_n (q := 1) dX11_image_0 rfl rfl ?_
  refine JT_if_lt (tgt := 13) dX11_image_1 (by decide) (fun hc6 => ?_) (fun hc6 => ?_)
  · have h := h.1 hc6
    refine JT_iconst (v := 0) dX11_image_13 ic_0 ?_
    exact JS_iret dX11_image_14 rfl (n01 (Or.inl rfl)) h
  · have h := h.2 hc6
    refine JT_iload_n (q := 1) dX11_image_4 rfl rfl ?_
    refine JT_aload_n (q := 0) dX11_image_5 rfl rfl ?_
    refine JS_getR (x := 165) dX11_image_6 flX11_58 BS_2 (Nat.le_of_ble_eq_true rfl) (Nat.le_of_ble_eq_true rfl) (Or.inr ⟨_, ct_11_8⟩) RF_2_8 ?_
    refine JT_alen (v := 2) dX11_image_9 BS_165 (Nat.le_of_ble_eq_true rfl) (Nat.le_of_ble_eq_true rfl) (by decide) ?_
    refine JT_icmp_lt (tgt := 15) dX11_image_10 (by decide) (fun hc5 => ?_) (fun hc5 => ?_)
    · have h := h.1 hc5
      refine JT_aload_n (q := 0) dX11_image_15 rfl rfl ?_
      refine JS_getR (x := 165) dX11_image_16 flX11_58 BS_2 (Nat.le_of_ble_eq_true rfl) (Nat.le_of_ble_eq_true rfl) (Or.inr ⟨_, ct_11_8⟩) RF_2_8 ?_
      refine JT_iload_n (q := 1) dX11_image_19 rfl rfl ?_
      obtain ⟨o2, Ix1, Px1, Lx1, Bx1, hr3, hix1, h⟩ := h
      refine JS_aald dX11_image_20 BS_165 (Nat.le_of_ble_eq_true rfl) (Nat.le_of_ble_eq_true rfl) o2 (by rw [RFd_arr (Or.inl rfl)]; exact hr3) ?_
      refine JT_aload_n (q := 0) dX11_image_21 rfl rfl ?_
      refine JS_getR (x := 5) dX11_image_22 flX11_19 BS_2 (Nat.le_of_ble_eq_true rfl) (Nat.le_of_ble_eq_true rfl) (Or.inl ⟨_, ct_11_1⟩) RF_2_1 ?_
      refine JT_aload_n (q := 0) dX11_image_25 rfl rfl ?_
      refine JS_getR (x := 31) dX11_image_26 flX11_41 BS_2 (Nat.le_of_ble_eq_true rfl) (Nat.le_of_ble_eq_true rfl) (Or.inl ⟨_, ct_11_5⟩) RF_2_5 ?_
      refine JT_aload_n (q := 0) dX11_image_29 rfl rfl ?_
      refine JS_getR (x := 19) dX11_image_30 flX11_29 BS_2 (Nat.le_of_ble_eq_true rfl) (Nat.le_of_ble_eq_true rfl) (Or.inl ⟨_, ct_11_3⟩) RF_2_3 ?_
      obtain ⟨o4, h⟩ := h
      refine JS_callVV (M' := MX3_keep) (d' := 2) (As := [.ref 5, .ref 31, .ref 19]) (rest := []) (P := (fun wm9 => (mX3_keep s Ix1 Px1 Lx1 Bx1 5 31 5 19) = wm9)) dX11_image_33 cvX11_427 okX3_keep rfl (Nat.le_of_ble_eq_true rfl) (ixB hix1) (ix2 hix1) (ixN hix1) hci_3 (Nat.le_of_ble_eq_true rfl) (Nat.le_of_ble_eq_true rfl) (pX3_keep hix1 hp_5 hL_31 hk_19  o4 rfl) (fun wm9 hq9 => ?_)
      subst hq9
      refine JT_iconst (v := 1) dX11_image_36 ic_1 ?_
      exact JS_iret dX11_image_37 rfl (n01 (Or.inr rfl)) h
    · have h := h.2 hc5
      refine JT_iconst (v := 0) dX11_image_13 ic_0 ?_
      exact JS_iret dX11_image_14 rfl (n01 (Or.inl rfl)) h
