set_option maxRecDepth 1000000 in
theorem bX12_bestOf_4 (a1 : Int32) (a2 : Int32) (a3 : Int32) {s : SM} {Q : Int32 → SM → Prop} (h : (((5 : Int32) < a3 → Q a2 s) ∧ (¬ (5 : Int32) < a3 → BI MX12_bestOf 5 19 [(0, .ref 248), (1, .int a1), (2, .int a2), (3, .int a3), (4, .int (0 : Int32))] (pI s 256 ((0 : Int32)).toNatClampNeg (-1 : Int32)) Q))) : BI MX12_bestOf 5 4 [(0, .ref 248), (1, .int a1), (2, .int a2), (3, .int a3)] s Q := by
  refine JT_iload_n (q := 3) dX12_bestOf_4 rfl rfl ?_
  refine JT_iconst (v := 5) dX12_bestOf_5 ic_5 ?_
  refine JT_icmp_gt (tgt := 246) dX12_bestOf_6 (by decide) (fun hc1 => ?_) (fun hc1 => ?_)
  · have h := h.1 hc1
    refine JT_iload_n (q := 2) dX12_bestOf_246 rfl rfl ?_
    exact JS_iret dX12_bestOf_247 rfl rfl h
  · have h := h.2 hc1
    refine JT_iconst (v := 0) dX12_bestOf_9 ic_0 ?_
    refine JT_istore (lv' := [(4, .int (0 : Int32)), (0, .ref 248), (1, .int a1), (2, .int a2), (3, .int a3)]) dX12_bestOf_10 (Nat.le_of_ble_eq_true rfl) rfl ?_
    refine JT_aload_n (q := 1) dX12_bestOf_12 rfl rfl ?_
    refine JS_getR (x := 256) dX12_bestOf_13 flX12_53 BS_248 (Nat.le_of_ble_eq_true rfl) (Nat.le_of_ble_eq_true rfl) (Or.inr ⟨_, ct_12_26⟩) RF_248_26 ?_
    refine JT_iconst (v := 0) dX12_bestOf_16 ic_0 ?_
    refine JT_iconst (v := -1) dX12_bestOf_17 ic_m1 ?_
    refine JS_iast dX12_bestOf_18 BS_256 (Nat.le_of_ble_eq_true rfl) (Nat.le_of_ble_eq_true rfl) (by unfold vp_in; decide) ?_
    exact JT_sub [1, 2, 3, 4, 0] rfl h
set_option maxRecDepth 1000000 in
theorem bX12_bestOf_19 (a1 : Int32) (a2 : Int32) (a3 : Int32) (a4 : Int32) {s : SM} {Q : Int32 → SM → Prop} (h : ((a4 < 0 → BI MX12_bestOf 5 4 [(0, .ref 248), (1, .int a1), (2, .int a2), (3, .int (a3 + 1))] s Q) ∧ (¬ a4 < 0 → vp_in a4 5 ∧ vp_in a4 5 ∧ vp_in a4 5 ∧ (((gI (pI s 256 (a4).toNatClampNeg ((gI s 256 (a4).toNatClampNeg) + (1 : Int32))) 256 (a4).toNatClampNeg) < (gI (pI s 256 (a4).toNatClampNeg ((gI s 256 (a4).toNatClampNeg) + (1 : Int32))) 250 ((34 : Int32)).toNatClampNeg) → rX12_canRing (pI s 256 (a4).toNatClampNeg ((gI s 256 (a4).toNatClampNeg) + (1 : Int32))) a4 ∧ ((¬ (vX12_canRing (pI s 256 (a4).toNatClampNeg ((gI s 256 (a4).toNatClampNeg) + (1 : Int32))) a4) = 0 → (((a3 - (1 : Int32)) ≤ a4 → vp_in a4 5 ∧ rX12_of (pI s 256 (a4).toNatClampNeg ((gI s 256 (a4).toNatClampNeg) + (1 : Int32))) (gI (pI s 256 (a4).toNatClampNeg ((gI s 256 (a4).toNatClampNeg) + (1 : Int32))) 256 (a4).toNatClampNeg) (1 : Int32) ∧ rX12_of (pI s 256 (a4).toNatClampNeg ((gI s 256 (a4).toNatClampNeg) + (1 : Int32))) (gI (pI s 256 (a4).toNatClampNeg ((gI s 256 (a4).toNatClampNeg) + (1 : Int32))) 256 ((0 : Int32)).toNatClampNeg) (0 : Int32) ∧ (((vX12_of (pI s 256 (a4).toNatClampNeg ((gI s 256 (a4).toNatClampNeg) + (1 : Int32))) (gI (pI s 256 (a4).toNatClampNeg ((gI s 256 (a4).toNatClampNeg) + (1 : Int32))) 256 (a4).toNatClampNeg) (1 : Int32)) = (vX12_of (pI s 256 (a4).toNatClampNeg ((gI s 256 (a4).toNatClampNeg) + (1 : Int32))) (gI (pI s 256 (a4).toNatClampNeg ((gI s 256 (a4).toNatClampNeg) + (1 : Int32))) 256 ((0 : Int32)).toNatClampNeg) (0 : Int32)) → BI MX12_bestOf 5 140 [(0, .ref 248), (1, .int a1), (2, .int a2), (3, .int a3), (4, .int a4), (5, .int (if 0 ≤ a1 then (0 : Int32) else (1 : Int32))), (6, .int (0 : Int32))] (pI s 256 (a4).toNatClampNeg ((gI s 256 (a4).toNatClampNeg) + (1 : Int32))) Q) ∧ (¬ (vX12_of (pI s 256 (a4).toNatClampNeg ((gI s 256 (a4).toNatClampNeg) + (1 : Int32))) (gI (pI s 256 (a4).toNatClampNeg ((gI s 256 (a4).toNatClampNeg) + (1 : Int32))) 256 (a4).toNatClampNeg) (1 : Int32)) = (vX12_of (pI s 256 (a4).toNatClampNeg ((gI s 256 (a4).toNatClampNeg) + (1 : Int32))) (gI (pI s 256 (a4).toNatClampNeg ((gI s 256 (a4).toNatClampNeg) + (1 : Int32))) 256 ((0 : Int32)).toNatClampNeg) (0 : Int32)) → BI MX12_bestOf 5 19 [(0, .ref 248), (1, .int a1), (2, .int a2), (3, .int a3), (4, .int a4)] (pI s 256 (a4).toNatClampNeg ((gI s 256 (a4).toNatClampNeg) + (1 : Int32))) Q))) ∧ (¬ (a3 - (1 : Int32)) ≤ a4 → vp_in (a4 + 1) 5 ∧ (∀ s11, s11 = (pI (pI s 256 (a4).toNatClampNeg ((gI s 256 (a4).toNatClampNeg) + (1 : Int32))) 256 ((a4 + 1)).toNatClampNeg (gI (pI s 256 (a4).toNatClampNeg ((gI s 256 (a4).toNatClampNeg) + (1 : Int32))) 256 ((0 : Int32)).toNatClampNeg)) → BI MX12_bestOf 5 19 [(0, .ref 248), (1, .int a1), (2, .int a2), (3, .int a3), (4, .int (a4 + 1))] s11 Q)))) ∧ ((vX12_canRing (pI s 256 (a4).toNatClampNeg ((gI s 256 (a4).toNatClampNeg) + (1 : Int32))) a4) = 0 → BI MX12_bestOf 5 19 [(0, .ref 248), (1, .int a1), (2, .int a2), (3, .int a3), (4, .int a4)] (pI s 256 (a4).toNatClampNeg ((gI s 256 (a4).toNatClampNeg) + (1 : Int32))) Q))) ∧ (¬ (gI (pI s 256 (a4).toNatClampNeg ((gI s 256 (a4).toNatClampNeg) + (1 : Int32))) 256 (a4).toNatClampNeg) < (gI (pI s 256 (a4).toNatClampNeg ((gI s 256 (a4).toNatClampNeg) + (1 : Int32))) 250 ((34 : Int32)).toNatClampNeg) → BI MX12_bestOf 5 19 [(0, .ref 248), (1, .int a1), (2, .int a2), (3, .int a3), (4, .int (a4 + (-1)))] (pI s 256 (a4).toNatClampNeg ((gI s 256 (a4).toNatClampNeg) + (1 : Int32))) Q))))) : BI MX12_bestOf 5 19 [(0, .ref 248), (1, .int a1), (2, .int a2), (3, .int a3), (4, .int a4)] s Q := by
  refine JT_iload (q := 4) dX12_bestOf_19 rfl ?_
  refine JT_if_lt (tgt := 240) dX12_bestOf_21 (by decide) (fun hc16 => ?_) (fun hc16 => ?_)
  · have h := h.1 hc16
    refine JT_iinc (q := 3) (v := (a3 + 1)) (lv' := [(3, .int (a3 + 1)), (0, .ref 248), (1, .int a1), (2, .int a2), (4, .int a4)]) dX12_bestOf_240 rfl (by rfl) (Nat.le_of_ble_eq_true rfl) rfl ?_
    refine JT_goto (tgt := 4) dX12_bestOf_243 (by decide) ?_
    exact JT_sub [1, 2, 3, 0] rfl h
  · have h := h.2 hc16
    refine JT_aload_n (q := 0) dX12_bestOf_24 rfl rfl ?_
    refine JS_getR (x := 256) dX12_bestOf_25 flX12_53 BS_248 (Nat.le_of_ble_eq_true rfl) (Nat.le_of_ble_eq_true rfl) (Or.inr ⟨_, ct_12_26⟩) RF_248_26 ?_
    refine JT_iload (q := 4) dX12_bestOf_28 rfl ?_
    refine JT_dup2 dX12_bestOf_30 rfl rfl ?_
    obtain ⟨o1, h⟩ := h
    refine JS_iald dX12_bestOf_31 BS_256 (Nat.le_of_ble_eq_true rfl) (Nat.le_of_ble_eq_true rfl) o1 ?_
    refine JT_iconst (v := 1) dX12_bestOf_32 ic_1 ?_
    refine JT_iadd dX12_bestOf_33 ?_
    obtain ⟨o2, h⟩ := h
    refine JS_iast dX12_bestOf_34 BS_256 (Nat.le_of_ble_eq_true rfl) (Nat.le_of_ble_eq_true rfl) o2 ?_
    refine JT_aload_n (q := 0) dX12_bestOf_35 rfl rfl ?_
    refine JS_getR (x := 256) dX12_bestOf_36 flX12_53 BS_248 (Nat.le_of_ble_eq_true rfl) (Nat.le_of_ble_eq_true rfl) (Or.inr ⟨_, ct_12_26⟩) RF_248_26 ?_
    refine JT_iload (q := 4) dX12_bestOf_39 rfl ?_
    obtain ⟨o3, h⟩ := h
    refine JS_iald dX12_bestOf_41 BS_256 (Nat.le_of_ble_eq_true rfl) (Nat.le_of_ble_eq_true rfl) o3 ?_
    refine JT_aload_n (q := 0) dX12_bestOf_42 rfl rfl ?_
    refine JS_getR (x := 250) dX12_bestOf_43 flX12_33 BS_248 (Nat.le_of_ble_eq_true rfl) (Nat.le_of_ble_eq_true rfl) (Or.inr ⟨_, ct_12_6⟩) RF_248_6 ?_
    refine JT_bipush (v := 34) dX12_bestOf_46 bp_34 ?_
    refine JS_iald dX12_bestOf_48 BS_250 (Nat.le_of_ble_eq_true rfl) (Nat.le_of_ble_eq_true rfl) (by unfold vp_in; decide) ?_
    refine JT_icmp_lt (tgt := 58) dX12_bestOf_49 (by decide) (fun hc15 => ?_) (fun hc15 => ?_)
    · have h := h.1 hc15
      refine JT_aload_n (q := 0) dX12_bestOf_58 rfl rfl ?_
      refine JT_iload (q := 4) dX12_bestOf_59 rfl ?_
      obtain ⟨o14, h⟩ := h
      refine JS_callVI (M' := MX12_canRing) (d' := 4) (As := [.int a4]) (rest := []) (P := (fun zv9 wm9 => (vX12_canRing (pI s 256 (a4).toNatClampNeg ((gI s 256 (a4).toNatClampNeg) + (1 : Int32))) a4) = zv9 ∧ (pI s 256 (a4).toNatClampNeg ((gI s 256 (a4).toNatClampNeg) + (1 : Int32))) = wm9)) dX12_bestOf_61 cvX12_356 okX12_canRing rfl (Nat.le_of_ble_eq_true rfl) BS_248 (Nat.le_of_ble_eq_true rfl) (Nat.le_of_ble_eq_true rfl) hci_12 (Nat.le_of_ble_eq_true rfl) (Nat.le_of_ble_eq_true rfl) (pX12_canRing  (a4) o14 ⟨rfl, rfl⟩) (fun zv9 wm9 hq9 => ?_)
      obtain ⟨rfl, rfl⟩ := hq9
      refine JT_if_ne (tgt := 70) dX12_bestOf_64 (by decide) (fun hc13 => ?_) (fun hc13 => ?_)
      · have h := h.1 hc13
        refine JT_iload (q := 4) dX12_bestOf_70 rfl ?_
        refine JT_iload_n (q := 3) dX12_bestOf_72 rfl rfl ?_
        refine JT_iconst (v := 1) dX12_bestOf_73 ic_1 ?_
        refine JT_isub dX12_bestOf_74 ?_
        refine JT_icmp_ge (tgt := 97) dX12_bestOf_75 (by decide) (fun hc12 => ?_) (fun hc12 => ?_)
        · have h := h.1 hc12
          refine JT_aload_n (q := 0) dX12_bestOf_97 rfl rfl ?_
          refine JT_aload_n (q := 0) dX12_bestOf_98 rfl rfl ?_
          refine JS_getR (x := 256) dX12_bestOf_99 flX12_53 BS_248 (Nat.le_of_ble_eq_true rfl) (Nat.le_of_ble_eq_true rfl) (Or.inr ⟨_, ct_12_26⟩) RF_248_26 ?_
          refine JT_iload (q := 4) dX12_bestOf_102 rfl ?_
          obtain ⟨o4, h⟩ := h
          refine JS_iald dX12_bestOf_104 BS_256 (Nat.le_of_ble_eq_true rfl) (Nat.le_of_ble_eq_true rfl) o4 ?_
          refine JT_iconst (v := 1) dX12_bestOf_105 ic_1 ?_
          obtain ⟨o9, h⟩ := h
          refine JS_callVI (M' := MX12_of) (d' := 0) (As := [.int (gI (pI s 256 (a4).toNatClampNeg ((gI s 256 (a4).toNatClampNeg) + (1 : Int32))) 256 (a4).toNatClampNeg), .int (1 : Int32)]) (rest := []) (P := (fun zv9 wm9 => (vX12_of (pI s 256 (a4).toNatClampNeg ((gI s 256 (a4).toNatClampNeg) + (1 : Int32))) (gI (pI s 256 (a4).toNatClampNeg ((gI s 256 (a4).toNatClampNeg) + (1 : Int32))) 256 (a4).toNatClampNeg) (1 : Int32)) = zv9 ∧ (pI s 256 (a4).toNatClampNeg ((gI s 256 (a4).toNatClampNeg) + (1 : Int32))) = wm9)) dX12_bestOf_106 cvX12_265 okX12_of rfl (Nat.le_of_ble_eq_true rfl) BS_248 (Nat.le_of_ble_eq_true rfl) (Nat.le_of_ble_eq_true rfl) hci_12 (Nat.le_of_ble_eq_true rfl) (Nat.le_of_ble_eq_true rfl) (pX12_of  ((gI (pI s 256 (a4).toNatClampNeg ((gI s 256 (a4).toNatClampNeg) + (1 : Int32))) 256 (a4).toNatClampNeg)) ((1 : Int32)) o9 ⟨rfl, rfl⟩) (fun zv9 wm9 hq9 => ?_)
          obtain ⟨rfl, rfl⟩ := hq9
          refine JT_aload_n (q := 0) dX12_bestOf_109 rfl rfl ?_
          refine JT_aload_n (q := 0) dX12_bestOf_110 rfl rfl ?_
          refine JS_getR (x := 256) dX12_bestOf_111 flX12_53 BS_248 (Nat.le_of_ble_eq_true rfl) (Nat.le_of_ble_eq_true rfl) (Or.inr ⟨_, ct_12_26⟩) RF_248_26 ?_
          refine JT_iconst (v := 0) dX12_bestOf_114 ic_0 ?_
          refine JS_iald dX12_bestOf_115 BS_256 (Nat.le_of_ble_eq_true rfl) (Nat.le_of_ble_eq_true rfl) (by unfold vp_in; decide) ?_
          refine JT_iconst (v := 0) dX12_bestOf_116 ic_0 ?_
          obtain ⟨o8, h⟩ := h
          refine JS_callVI (M' := MX12_of) (d' := 0) (As := [.int (gI (pI s 256 (a4).toNatClampNeg ((gI s 256 (a4).toNatClampNeg) + (1 : Int32))) 256 ((0 : Int32)).toNatClampNeg), .int (0 : Int32)]) (rest := [.int (vX12_of (pI s 256 (a4).toNatClampNeg ((gI s 256 (a4).toNatClampNeg) + (1 : Int32))) (gI (pI s 256 (a4).toNatClampNeg ((gI s 256 (a4).toNatClampNeg) + (1 : Int32))) 256 (a4).toNatClampNeg) (1 : Int32))]) (P := (fun zv9 wm9 => (vX12_of (pI s 256 (a4).toNatClampNeg ((gI s 256 (a4).toNatClampNeg) + (1 : Int32))) (gI (pI s 256 (a4).toNatClampNeg ((gI s 256 (a4).toNatClampNeg) + (1 : Int32))) 256 ((0 : Int32)).toNatClampNeg) (0 : Int32)) = zv9 ∧ (pI s 256 (a4).toNatClampNeg ((gI s 256 (a4).toNatClampNeg) + (1 : Int32))) = wm9)) dX12_bestOf_117 cvX12_265 okX12_of rfl (Nat.le_of_ble_eq_true rfl) BS_248 (Nat.le_of_ble_eq_true rfl) (Nat.le_of_ble_eq_true rfl) hci_12 (Nat.le_of_ble_eq_true rfl) (Nat.le_of_ble_eq_true rfl) (pX12_of  ((gI (pI s 256 (a4).toNatClampNeg ((gI s 256 (a4).toNatClampNeg) + (1 : Int32))) 256 ((0 : Int32)).toNatClampNeg)) ((0 : Int32)) o8 ⟨rfl, rfl⟩) (fun zv9 wm9 hq9 => ?_)
          obtain ⟨rfl, rfl⟩ := hq9
          refine JT_icmp_eq (tgt := 126) dX12_bestOf_120 (by decide) (fun hc7 => ?_) (fun hc7 => ?_)
          · have h := h.1 hc7
            refine JT_iload_n (q := 1) dX12_bestOf_126 rfl rfl ?_
            have hj5 : ∀ v : Int32, v = (if 0 ≤ a1 then (0 : Int32) else (1 : Int32)) → JT MX12_bestOf 5 0 0 135 [(0, .ref 248), (1, .int a1), (2, .int a2), (3, .int a3), (4, .int a4)] [.int v] (std (pI s 256 (a4).toNatClampNeg ((gI s 256 (a4).toNatClampNeg) + (1 : Int32)))) (KQ Q) := by
              intro v hv
              subst hv
              refine JT_istore (lv' := [(5, .int (if 0 ≤ a1 then (0 : Int32) else (1 : Int32))), (0, .ref 248), (1, .int a1), (2, .int a2), (3, .int a3), (4, .int a4)]) dX12_bestOf_135 (Nat.le_of_ble_eq_true rfl) rfl ?_
              refine JT_iconst (v := 0) dX12_bestOf_137 ic_0 ?_
              refine JT_istore (lv' := [(6, .int (0 : Int32)), (5, .int (if 0 ≤ a1 then (0 : Int32) else (1 : Int32))), (0, .ref 248), (1, .int a1), (2, .int a2), (3, .int a3), (4, .int a4)]) dX12_bestOf_138 (Nat.le_of_ble_eq_true rfl) rfl ?_
              exact JT_sub [2, 3, 4, 5, 6, 1, 0] rfl h
            refine JT_if_ge (tgt := 134) dX12_bestOf_127 (by decide) (fun hc6 => ?_) (fun hc6 => ?_)
            · refine JT_iconst (v := 0) dX12_bestOf_134 ic_0 ?_
              exact hj5 _ (by rw [if_pos hc6])
            · refine JT_iconst (v := 1) dX12_bestOf_130 ic_1 ?_
              refine JT_goto (tgt := 135) dX12_bestOf_131 (by decide) ?_
              exact hj5 _ (by rw [if_neg hc6])
          · have h := h.2 hc7
            refine JT_goto (tgt := 19) dX12_bestOf_123 (by decide) ?_
            exact JT_sub [0, 1, 2, 3, 4] rfl h
        · have h := h.2 hc12
          refine JT_iinc (q := 4) (v := (a4 + 1)) (lv' := [(4, .int (a4 + 1)), (0, .ref 248), (1, .int a1), (2, .int a2), (3, .int a3)]) dX12_bestOf_78 rfl (by rfl) (Nat.le_of_ble_eq_true rfl) rfl ?_
          refine JT_aload_n (q := 1) dX12_bestOf_81 rfl rfl ?_
          refine JS_getR (x := 256) dX12_bestOf_82 flX12_53 BS_248 (Nat.le_of_ble_eq_true rfl) (Nat.le_of_ble_eq_true rfl) (Or.inr ⟨_, ct_12_26⟩) RF_248_26 ?_
          refine JT_iload (q := 0) dX12_bestOf_85 rfl ?_
          refine JT_aload_n (q := 1) dX12_bestOf_87 rfl rfl ?_
          refine JS_getR (x := 256) dX12_bestOf_88 flX12_53 BS_248 (Nat.le_of_ble_eq_true rfl) (Nat.le_of_ble_eq_true rfl) (Or.inr ⟨_, ct_12_26⟩) RF_248_26 ?_
          refine JT_iconst (v := 0) dX12_bestOf_91 ic_0 ?_
          refine JS_iald dX12_bestOf_92 BS_256 (Nat.le_of_ble_eq_true rfl) (Nat.le_of_ble_eq_true rfl) (by unfold vp_in; decide) ?_
          obtain ⟨o10, h⟩ := h
          refine JS_iast dX12_bestOf_93 BS_256 (Nat.le_of_ble_eq_true rfl) (Nat.le_of_ble_eq_true rfl) o10 ?_
          obtain ⟨s11, hs11⟩ : ∃ z, z = (pI (pI s 256 (a4).toNatClampNeg ((gI s 256 (a4).toNatClampNeg) + (1 : Int32))) 256 ((a4 + 1)).toNatClampNeg (gI (pI s 256 (a4).toNatClampNeg ((gI s 256 (a4).toNatClampNeg) + (1 : Int32))) 256 ((0 : Int32)).toNatClampNeg)) := ⟨_, rfl⟩
          replace h := h s11 hs11
          rw [← hs11]
          refine JT_goto (tgt := 19) dX12_bestOf_94 (by decide) ?_
          exact JT_sub [1, 2, 3, 4, 0] rfl h
      · have h := h.2 hc13
        refine JT_goto (tgt := 19) dX12_bestOf_67 (by decide) ?_
        exact JT_sub [0, 1, 2, 3, 4] rfl h
    · have h := h.2 hc15
      refine JT_iinc (q := 4) (v := (a4 + (-1))) (lv' := [(4, .int (a4 + (-1))), (0, .ref 248), (1, .int a1), (2, .int a2), (3, .int a3)]) dX12_bestOf_52 rfl (by rfl) (Nat.le_of_ble_eq_true rfl) rfl ?_
      refine JT_goto (tgt := 19) dX12_bestOf_55 (by decide) ?_
      exact JT_sub [1, 2, 3, 4, 0] rfl h
set_option maxRecDepth 1000000 in
theorem bX12_bestOf_140 (a1 : Int32) (a2 : Int32) (a3 : Int32) (a4 : Int32) (a5 : Int32) (a6 : Int32) {s : SM} {Q : Int32 → SM → Prop} (h : ((a3 ≤ a6 → ((a5 = 0 → ((a2 < (-1 : Int32) → BI MX12_bestOf 5 211 [(0, .ref 248), (1, .int a1), (2, .int (-1 : Int32)), (3, .int a3), (4, .int a4), (5, .int a5), (6, .int (-1 : Int32)), (7, .int (0 : Int32))] (pI s 248 29 a3) Q) ∧ (¬ a2 < (-1 : Int32) → BI MX12_bestOf 5 19 [(0, .ref 248), (1, .int a1), (2, .int a2), (3, .int a3), (4, .int a4)] s Q))) ∧ (¬ a5 = 0 → rX12_freesOf s a3 ∧ ((a2 < (vX12_freesOf s a3) → BI MX12_bestOf 5 211 [(0, .ref 248), (1, .int a1), (2, .int (vX12_freesOf s a3)), (3, .int a3), (4, .int a4), (5, .int a5), (6, .int (vX12_freesOf s a3)), (7, .int (0 : Int32))] (pI s 248 29 a3) Q) ∧ (¬ a2 < (vX12_freesOf s a3) → BI MX12_bestOf 5 19 [(0, .ref 248), (1, .int a1), (2, .int a2), (3, .int a3), (4, .int a4)] s Q))))) ∧ (¬ a3 ≤ a6 → ((¬ a5 = 0 → BI MX12_bestOf 5 140 [(0, .ref 248), (1, .int a1), (2, .int a2), (3, .int a3), (4, .int a4), (5, .int (1 : Int32)), (6, .int (a6 + 1))] s Q) ∧ (a5 = 0 → vp_in a6 5 ∧ BI MX12_bestOf 5 140 [(0, .ref 248), (1, .int a1), (2, .int a2), (3, .int a3), (4, .int a4), (5, .int (if (gI s 256 (a6).toNatClampNeg) = a1 then (1 : Int32) else (0 : Int32))), (6, .int (a6 + 1))] s Q))))) : BI MX12_bestOf 5 140 [(0, .ref 248), (1, .int a1), (2, .int a2), (3, .int a3), (4, .int a4), (5, .int a5), (6, .int a6)] s Q := by
  refine JT_iload (q := 6) dX12_bestOf_140 rfl ?_
  refine JT_iload_n (q := 3) dX12_bestOf_142 rfl rfl ?_
  refine JT_icmp_ge (tgt := 175) dX12_bestOf_143 (by decide) (fun hc9 => ?_) (fun hc9 => ?_)
  · have h := h.1 hc9
    refine JT_iload (q := 5) dX12_bestOf_175 rfl ?_
    refine JT_if_eq (tgt := 188) dX12_bestOf_177 (by decide) (fun hc4 => ?_) (fun hc4 => ?_)
    · have h := h.1 hc4
      refine JT_iconst (v := -1) dX12_bestOf_188 ic_m1 ?_
      refine JT_istore (lv' := [(6, .int (-1 : Int32)), (0, .ref 248), (1, .int a1), (2, .int a2), (3, .int a3), (4, .int a4), (5, .int a5)]) dX12_bestOf_189 (Nat.le_of_ble_eq_true rfl) rfl ?_
      refine JT_iload (q := 0) dX12_bestOf_191 rfl ?_
      refine JT_iload_n (q := 3) dX12_bestOf_193 rfl rfl ?_
      refine JT_icmp_gt (tgt := 200) dX12_bestOf_194 (by decide) (fun hc1 => ?_) (fun hc1 => ?_)
      · have h := h.1 hc1
        refine JT_iload (q := 0) dX12_bestOf_200 rfl ?_
        refine JT_istore_n (lv' := [(2, .int (-1 : Int32)), (6, .int (-1 : Int32)), (0, .ref 248), (1, .int a1), (3, .int a3), (4, .int a4), (5, .int a5)]) dX12_bestOf_202 rfl (Nat.le_of_ble_eq_true rfl) rfl ?_
        refine JT_aload_n (q := 2) dX12_bestOf_203 rfl rfl ?_
        refine JT_iload_n (q := 4) dX12_bestOf_204 rfl rfl ?_
        refine JS_putI dX12_bestOf_205 flX12_362 BS_248 (Nat.le_of_ble_eq_true rfl) (Nat.le_of_ble_eq_true rfl) ct_12_29 ?_
        refine JT_iconst (v := 0) dX12_bestOf_208 ic_0 ?_
        refine JT_istore (lv' := [(7, .int (0 : Int32)), (2, .int (-1 : Int32)), (6, .int (-1 : Int32)), (0, .ref 248), (1, .int a1), (3, .int a3), (4, .int a4), (5, .int a5)]) dX12_bestOf_209 (Nat.le_of_ble_eq_true rfl) rfl ?_
        exact JT_sub [3, 4, 1, 5, 6, 7, 2, 0] rfl h
      · have h := h.2 hc1
        refine JT_goto (tgt := 19) dX12_bestOf_197 (by decide) ?_
        exact JT_sub [1, 2, 3, 4, 5] rfl h
    · have h := h.2 hc4
      refine JT_aload_n (q := 0) dX12_bestOf_180 rfl rfl ?_
      refine JT_iload_n (q := 3) dX12_bestOf_181 rfl rfl ?_
      obtain ⟨o3, h⟩ := h
      refine JS_callVI (M' := MX12_freesOf) (d' := 3) (As := [.int a3]) (rest := []) (P := (fun zv9 wm9 => (vX12_freesOf s a3) = zv9 ∧ s = wm9)) dX12_bestOf_182 cvX12_359 okX12_freesOf rfl (Nat.le_of_ble_eq_true rfl) BS_248 (Nat.le_of_ble_eq_true rfl) (Nat.le_of_ble_eq_true rfl) hci_12 (Nat.le_of_ble_eq_true rfl) (Nat.le_of_ble_eq_true rfl) (pX12_freesOf  (a3) o3 ⟨rfl, rfl⟩) (fun zv9 wm9 hq9 => ?_)
      obtain ⟨rfl, rfl⟩ := hq9
      refine JT_goto (tgt := 189) dX12_bestOf_185 (by decide) ?_
      refine JT_istore (lv' := [(6, .int (vX12_freesOf s a3)), (0, .ref 248), (1, .int a1), (2, .int a2), (3, .int a3), (4, .int a4), (5, .int a5)]) dX12_bestOf_189 (Nat.le_of_ble_eq_true rfl) rfl ?_
      refine JT_iload (q := 0) dX12_bestOf_191 rfl ?_
      refine JT_iload_n (q := 3) dX12_bestOf_193 rfl rfl ?_
      refine JT_icmp_gt (tgt := 200) dX12_bestOf_194 (by decide) (fun hc2 => ?_) (fun hc2 => ?_)
      · have h := h.1 hc2
        refine JT_iload (q := 0) dX12_bestOf_200 rfl ?_
        refine JT_istore_n (lv' := [(2, .int (vX12_freesOf s a3)), (6, .int (vX12_freesOf s a3)), (0, .ref 248), (1, .int a1), (3, .int a3), (4, .int a4), (5, .int a5)]) dX12_bestOf_202 rfl (Nat.le_of_ble_eq_true rfl) rfl ?_
        refine JT_aload_n (q := 2) dX12_bestOf_203 rfl rfl ?_
        refine JT_iload_n (q := 4) dX12_bestOf_204 rfl rfl ?_
        refine JS_putI dX12_bestOf_205 flX12_362 BS_248 (Nat.le_of_ble_eq_true rfl) (Nat.le_of_ble_eq_true rfl) ct_12_29 ?_
        refine JT_iconst (v := 0) dX12_bestOf_208 ic_0 ?_
        refine JT_istore (lv' := [(7, .int (0 : Int32)), (2, .int (vX12_freesOf s a3)), (6, .int (vX12_freesOf s a3)), (0, .ref 248), (1, .int a1), (3, .int a3), (4, .int a4), (5, .int a5)]) dX12_bestOf_209 (Nat.le_of_ble_eq_true rfl) rfl ?_
        exact JT_sub [3, 4, 1, 5, 6, 7, 2, 0] rfl h
      · have h := h.2 hc2
        refine JT_goto (tgt := 19) dX12_bestOf_197 (by decide) ?_
        exact JT_sub [1, 2, 3, 4, 5] rfl h
  · have h := h.2 hc9
    refine JT_iload (q := 5) dX12_bestOf_146 rfl ?_
    refine JT_if_ne (tgt := 162) dX12_bestOf_148 (by decide) (fun hc8 => ?_) (fun hc8 => ?_)
    · have h := h.1 hc8
      refine JT_iconst (v := 1) dX12_bestOf_162 ic_1 ?_
      refine JT_goto (tgt := 167) dX12_bestOf_163 (by decide) ?_
      refine JT_istore (lv' := [(5, .int (1 : Int32)), (0, .ref 248), (1, .int a1), (2, .int a2), (3, .int a3), (4, .int a4), (6, .int a6)]) dX12_bestOf_167 (Nat.le_of_ble_eq_true rfl) rfl ?_
      refine JT_iinc (q := 6) (v := (a6 + 1)) (lv' := [(6, .int (a6 + 1)), (5, .int (1 : Int32)), (0, .ref 248), (1, .int a1), (2, .int a2), (3, .int a3), (4, .int a4)]) dX12_bestOf_169 rfl (by rfl) (Nat.le_of_ble_eq_true rfl) rfl ?_
      refine JT_goto (tgt := 140) dX12_bestOf_172 (by decide) ?_
      exact JT_sub [2, 3, 4, 5, 6, 1, 0] rfl h
    · have h := h.2 hc8
      refine JT_aload_n (q := 0) dX12_bestOf_151 rfl rfl ?_
      refine JS_getR (x := 256) dX12_bestOf_152 flX12_53 BS_248 (Nat.le_of_ble_eq_true rfl) (Nat.le_of_ble_eq_true rfl) (Or.inr ⟨_, ct_12_26⟩) RF_248_26 ?_
      refine JT_iload (q := 6) dX12_bestOf_155 rfl ?_
      obtain ⟨o5, h⟩ := h
      refine JS_iald dX12_bestOf_157 BS_256 (Nat.le_of_ble_eq_true rfl) (Nat.le_of_ble_eq_true rfl) o5 ?_
      refine JT_iload_n (q := 1) dX12_bestOf_158 rfl rfl ?_
      have hj6 : ∀ v : Int32, v = (if (gI s 256 (a6).toNatClampNeg) = a1 then (1 : Int32) else (0 : Int32)) → JT MX12_bestOf 5 0 0 167 [(0, .ref 248), (1, .int a1), (2, .int a2), (3, .int a3), (4, .int a4), (5, .int a5), (6, .int a6)] [.int v] (std s) (KQ Q) := by
        intro v hv
        subst hv
        refine JT_istore (lv' := [(5, .int (if (gI s 256 (a6).toNatClampNeg) = a1 then (1 : Int32) else (0 : Int32))), (0, .ref 248), (1, .int a1), (2, .int a2), (3, .int a3), (4, .int a4), (6, .int a6)]) dX12_bestOf_167 (Nat.le_of_ble_eq_true rfl) rfl ?_
        refine JT_iinc (q := 6) (v := (a6 + 1)) (lv' := [(6, .int (a6 + 1)), (5, .int (if (gI s 256 (a6).toNatClampNeg) = a1 then (1 : Int32) else (0 : Int32))), (0, .ref 248), (1, .int a1), (2, .int a2), (3, .int a3), (4, .int a4)]) dX12_bestOf_169 rfl (by rfl) (Nat.le_of_ble_eq_true rfl) rfl ?_
        refine JT_goto (tgt := 140) dX12_bestOf_172 (by decide) ?_
        exact JT_sub [2, 3, 4, 5, 6, 1, 0] rfl h
      refine JT_icmp_ne (tgt := 166) dX12_bestOf_159 (by decide) (fun hc7 => ?_) (fun hc7 => ?_)
      · refine JT_iconst (v := 0) dX12_bestOf_166 ic_0 ?_
        exact hj6 _ (by rw [if_neg hc7])
      · refine JT_iconst (v := 1) dX12_bestOf_162 ic_1 ?_
        refine JT_goto (tgt := 167) dX12_bestOf_163 (by decide) ?_
        exact hj6 _ (by rw [if_pos hc7])
set_option maxRecDepth 1000000 in
theorem bX12_bestOf_211 (a1 : Int32) (a2 : Int32) (a3 : Int32) (a4 : Int32) (a5 : Int32) (a6 : Int32) (a7 : Int32) {s : SM} {Q : Int32 → SM → Prop} (h : ((a3 ≤ a7 → BI MX12_bestOf 5 19 [(0, .ref 248), (1, .int a1), (2, .int a2), (3, .int a3), (4, .int a4)] s Q) ∧ (¬ a3 ≤ a7 → vp_in a7 5 ∧ vp_in a7 5 ∧ BI MX12_bestOf 5 211 [(0, .ref 248), (1, .int a1), (2, .int a2), (3, .int a3), (4, .int a4), (5, .int a5), (6, .int a6), (7, .int (a7 + 1))] (pI s 257 (a7).toNatClampNeg (gI s 256 (a7).toNatClampNeg)) Q))) : BI MX12_bestOf 5 211 [(0, .ref 248), (1, .int a1), (2, .int a2), (3, .int a3), (4, .int a4), (5, .int a5), (6, .int a6), (7, .int a7)] s Q := by
  refine JT_iload (q := 7) dX12_bestOf_211 rfl ?_
  refine JT_iload_n (q := 3) dX12_bestOf_213 rfl rfl ?_
  refine JT_icmp_ge (tgt := 237) dX12_bestOf_214 (by decide) (fun hc3 => ?_) (fun hc3 => ?_)
  · have h := h.1 hc3
    refine JT_goto (tgt := 19) dX12_bestOf_237 (by decide) ?_
    exact JT_sub [0, 1, 2, 3, 4] rfl h
  · have h := h.2 hc3
    refine JT_aload_n (q := 0) dX12_bestOf_217 rfl rfl ?_
    refine JS_getR (x := 257) dX12_bestOf_218 flX12_56 BS_248 (Nat.le_of_ble_eq_true rfl) (Nat.le_of_ble_eq_true rfl) (Or.inr ⟨_, ct_12_27⟩) RF_248_27 ?_
    refine JT_iload (q := 7) dX12_bestOf_221 rfl ?_
    refine JT_aload_n (q := 0) dX12_bestOf_223 rfl rfl ?_
    refine JS_getR (x := 256) dX12_bestOf_224 flX12_53 BS_248 (Nat.le_of_ble_eq_true rfl) (Nat.le_of_ble_eq_true rfl) (Or.inr ⟨_, ct_12_26⟩) RF_248_26 ?_
    refine JT_iload (q := 7) dX12_bestOf_227 rfl ?_
    obtain ⟨o1, h⟩ := h
    refine JS_iald dX12_bestOf_229 BS_256 (Nat.le_of_ble_eq_true rfl) (Nat.le_of_ble_eq_true rfl) o1 ?_
    obtain ⟨o2, h⟩ := h
    refine JS_iast dX12_bestOf_230 BS_257 (Nat.le_of_ble_eq_true rfl) (Nat.le_of_ble_eq_true rfl) o2 ?_
    refine JT_iinc (q := 7) (v := (a7 + 1)) (lv' := [(7, .int (a7 + 1)), (0, .ref 248), (1, .int a1), (2, .int a2), (3, .int a3), (4, .int a4), (5, .int a5), (6, .int a6)]) dX12_bestOf_231 rfl (by rfl) (Nat.le_of_ble_eq_true rfl) rfl ?_
    refine JT_goto (tgt := 211) dX12_bestOf_234 (by decide) ?_
    exact JT_sub [1, 2, 3, 4, 5, 6, 7, 0] rfl h
set_option maxRecDepth 1000000 in
theorem bX12_bestOf (a1 : Int32) {s : SM} {Q : Int32 → SM → Prop} (h : BI MX12_bestOf 5 4 [(0, .ref 248), (1, .int a1), (2, .int (-1 : Int32)), (3, .int (2 : Int32))] s Q) : KI MX12_bestOf 5 [.ref 248, .int a1] s Q := by
  show BI MX12_bestOf 5 0 [(0, .ref 248), (1, .int a1)] s Q
  refine JT_iconst (v := -1) dX12_bestOf_0 ic_m1 ?_
  refine JT_istore_n (lv' := [(2, .int (-1 : Int32)), (0, .ref 248), (1, .int a1)]) dX12_bestOf_1 rfl (Nat.le_of_ble_eq_true rfl) rfl ?_
  refine JT_iconst (v := 2) dX12_bestOf_2 ic_2 ?_
  refine JT_istore_n (lv' := [(3, .int (2 : Int32)), (2, .int (-1 : Int32)), (0, .ref 248), (1, .int a1)]) dX12_bestOf_3 rfl (Nat.le_of_ble_eq_true rfl) rfl ?_
  exact JT_sub [2, 3, 1, 0] rfl h
set_option maxRecDepth 1000000 in
theorem gX12_bestOf  : ∀ n : Nat, (∀ (a1 : Int32) (a2 : Int32) (a3 : Int32) (s : SM) (Q : Int32 → SM → Prop), ((qX12_bestOf n).1 s a1 a2 a3) → Q ((lX12_bestOf n).1 s a1 a2 a3).1 ((lX12_bestOf n).1 s a1 a2 a3).2 → BI MX12_bestOf 5 4 [(0, .ref 248), (1, .int a1), (2, .int a2), (3, .int a3)] s Q) ∧ (∀ (a1 : Int32) (a2 : Int32) (a3 : Int32) (a4 : Int32) (s : SM) (Q : Int32 → SM → Prop), ((qX12_bestOf n).2.1 s a1 a2 a3 a4) → Q ((lX12_bestOf n).2.1 s a1 a2 a3 a4).1 ((lX12_bestOf n).2.1 s a1 a2 a3 a4).2 → BI MX12_bestOf 5 19 [(0, .ref 248), (1, .int a1), (2, .int a2), (3, .int a3), (4, .int a4)] s Q) ∧ (∀ (a1 : Int32) (a2 : Int32) (a3 : Int32) (a4 : Int32) (a5 : Int32) (a6 : Int32) (s : SM) (Q : Int32 → SM → Prop), ((qX12_bestOf n).2.2.1 s a1 a2 a3 a4 a5 a6) → Q ((lX12_bestOf n).2.2.1 s a1 a2 a3 a4 a5 a6).1 ((lX12_bestOf n).2.2.1 s a1 a2 a3 a4 a5 a6).2 → BI MX12_bestOf 5 140 [(0, .ref 248), (1, .int a1), (2, .int a2), (3, .int a3), (4, .int a4), (5, .int a5), (6, .int a6)] s Q) ∧ (∀ (a1 : Int32) (a2 : Int32) (a3 : Int32) (a4 : Int32) (a5 : Int32) (a6 : Int32) (a7 : Int32) (s : SM) (Q : Int32 → SM → Prop), ((qX12_bestOf n).2.2.2 s a1 a2 a3 a4 a5 a6 a7) → Q ((lX12_bestOf n).2.2.2 s a1 a2 a3 a4 a5 a6 a7).1 ((lX12_bestOf n).2.2.2 s a1 a2 a3 a4 a5 a6 a7).2 → BI MX12_bestOf 5 211 [(0, .ref 248), (1, .int a1), (2, .int a2), (3, .int a3), (4, .int a4), (5, .int a5), (6, .int a6), (7, .int a7)] s Q) := by
  intro n
  induction n with
  | zero => exact ⟨fun _ _ _ _ _ hq _ => absurd hq id, fun _ _ _ _ _ _ hq _ => absurd hq id, fun _ _ _ _ _ _ _ _ hq _ => absurd hq id, fun _ _ _ _ _ _ _ _ _ hq _ => absurd hq id⟩
  | succ n ih =>
    refine ⟨?_, ?_, ?_, ?_⟩
    · intro a1 a2 a3 s Q hr h
      replace hr : uX12_bestOf_4 (qX12_bestOf n) s a1 a2 a3 := hr
      replace h : Q (tX12_bestOf_4 (lX12_bestOf n) s a1 a2 a3).1 (tX12_bestOf_4 (lX12_bestOf n) s a1 a2 a3).2 := h
      unfold uX12_bestOf_4 at hr
      unfold tX12_bestOf_4 at h
      refine bX12_bestOf_4 a1 a2 a3 ?_
      refine ⟨fun c => ?_, fun c => ?_⟩
      · replace h := q3p c h
        first | exact h | contradiction
      · replace hr := hr c
        replace h := q3n c h
        first | exact ih.2.1 a1 a2 a3 (0 : Int32) _ Q hr h | contradiction
    · intro a1 a2 a3 a4 s Q hr h
      replace hr : uX12_bestOf_19 (qX12_bestOf n) s a1 a2 a3 a4 := hr
      replace h : Q (tX12_bestOf_19 (lX12_bestOf n) s a1 a2 a3 a4).1 (tX12_bestOf_19 (lX12_bestOf n) s a1 a2 a3 a4).2 := h
      unfold uX12_bestOf_19 at hr
      unfold tX12_bestOf_19 at h
      refine bX12_bestOf_19 a1 a2 a3 a4 ?_
      refine ⟨fun c => ?_, fun c => ?_⟩
      · replace hr := hr.1 c
        replace h := q3p c h
        first | exact ih.1 a1 a2 (a3 + 1) _ Q hr h | contradiction
      · replace hr := hr.2 c
        replace h := q3n c h
        refine ⟨hr.1, ?_⟩
        replace hr := hr.2
        refine ⟨hr.1, ?_⟩
        replace hr := hr.2
        refine ⟨hr.1, ?_⟩
        replace hr := hr.2
        refine ⟨fun c => ?_, fun c => ?_⟩
        · replace hr := hr.1 c
          replace h := q3p c h
          refine ⟨hr.1, ?_⟩
          replace hr := hr.2
          refine ⟨fun c => ?_, fun c => ?_⟩
          · replace hr := hr.1 c
            replace h := q3n c h
            refine ⟨fun c => ?_, fun c => ?_⟩
            · replace hr := hr.1 c
              replace h := q3p c h
              refine ⟨hr.1, ?_⟩
              replace hr := hr.2
              refine ⟨hr.1, ?_⟩
              replace hr := hr.2
              refine ⟨hr.1, ?_⟩
              replace hr := hr.2
              refine ⟨fun c => ?_, fun c => ?_⟩
              · replace hr := hr.1 c
                replace h := q3p c h
                first | exact ih.2.2.1 a1 a2 a3 a4 (if 0 ≤ a1 then (0 : Int32) else (1 : Int32)) (0 : Int32) _ Q hr h | contradiction
              · replace hr := hr.2 c
                replace h := q3n c h
                first | exact ih.2.1 a1 a2 a3 a4 _ Q hr h | contradiction
            · replace hr := hr.2 c
              replace h := q3n c h
              refine ⟨hr.1, ?_⟩
              replace hr := hr.2
              intro s11 e9
              replace hr := hr s11 e9
              try rw [← e9] at h
              try dsimp only at h
              first | exact ih.2.1 a1 a2 a3 (a4 + 1) _ Q hr h | contradiction
          · replace hr := hr.2 c
            replace h := q3p c h
            first | exact ih.2.1 a1 a2 a3 a4 _ Q hr h | contradiction
        · replace hr := hr.2 c
          replace h := q3n c h
          first | exact ih.2.1 a1 a2 a3 (a4 + (-1)) _ Q hr h | contradiction
    · intro a1 a2 a3 a4 a5 a6 s Q hr h
      replace hr : uX12_bestOf_140 (qX12_bestOf n) s a1 a2 a3 a4 a5 a6 := hr
      replace h : Q (tX12_bestOf_140 (lX12_bestOf n) s a1 a2 a3 a4 a5 a6).1 (tX12_bestOf_140 (lX12_bestOf n) s a1 a2 a3 a4 a5 a6).2 := h
      unfold uX12_bestOf_140 at hr
      unfold tX12_bestOf_140 at h
      refine bX12_bestOf_140 a1 a2 a3 a4 a5 a6 ?_
      refine ⟨fun c => ?_, fun c => ?_⟩
      · replace hr := hr.1 c
        replace h := q3p c h
        refine ⟨fun c => ?_, fun c => ?_⟩
        · replace hr := hr.1 c
          replace h := q3p c h
          refine ⟨fun c => ?_, fun c => ?_⟩
          · replace hr := hr.1 c
            replace h := q3p c h
            first | exact ih.2.2.2 a1 (-1 : Int32) a3 a4 a5 (-1 : Int32) (0 : Int32) _ Q hr h | contradiction
          · replace hr := hr.2 c
            replace h := q3n c h
            first | exact ih.2.1 a1 a2 a3 a4 _ Q hr h | contradiction
        · replace hr := hr.2 c
          replace h := q3n c h
          refine ⟨hr.1, ?_⟩
          replace hr := hr.2
          refine ⟨fun c => ?_, fun c => ?_⟩
          · replace hr := hr.1 c
            replace h := q3p c h
            first | exact ih.2.2.2 a1 (vX12_freesOf s a3) a3 a4 a5 (vX12_freesOf s a3) (0 : Int32) _ Q hr h | contradiction
          · replace hr := hr.2 c
            replace h := q3n c h
            first | exact ih.2.1 a1 a2 a3 a4 _ Q hr h | contradiction
      · replace hr := hr.2 c
        replace h := q3n c h
        refine ⟨fun c => ?_, fun c => ?_⟩
        · replace hr := hr.1 c
          replace h := q3n c h
          first | exact ih.2.2.1 a1 a2 a3 a4 (1 : Int32) (a6 + 1) _ Q hr h | contradiction
        · replace hr := hr.2 c
          replace h := q3p c h
          refine ⟨hr.1, ?_⟩
          replace hr := hr.2
          first | exact ih.2.2.1 a1 a2 a3 a4 (if (gI s 256 (a6).toNatClampNeg) = a1 then (1 : Int32) else (0 : Int32)) (a6 + 1) _ Q hr h | contradiction
    · intro a1 a2 a3 a4 a5 a6 a7 s Q hr h
      replace hr : uX12_bestOf_211 (qX12_bestOf n) s a1 a2 a3 a4 a5 a6 a7 := hr
      replace h : Q (tX12_bestOf_211 (lX12_bestOf n) s a1 a2 a3 a4 a5 a6 a7).1 (tX12_bestOf_211 (lX12_bestOf n) s a1 a2 a3 a4 a5 a6 a7).2 := h
      unfold uX12_bestOf_211 at hr
      unfold tX12_bestOf_211 at h
      refine bX12_bestOf_211 a1 a2 a3 a4 a5 a6 a7 ?_
      refine ⟨fun c => ?_, fun c => ?_⟩
      · replace hr := hr.1 c
        replace h := q3p c h
        first | exact ih.2.1 a1 a2 a3 a4 _ Q hr h | contradiction
      · replace hr := hr.2 c
        replace h := q3n c h
        refine ⟨hr.1, ?_⟩
        replace hr := hr.2
        refine ⟨hr.1, ?_⟩
        replace hr := hr.2
        first | exact ih.2.2.2 a1 a2 a3 a4 a5 a6 (a7 + 1) _ Q hr h | contradiction
set_option maxRecDepth 1000000 in
theorem pX12_bestOf (a1 : Int32) {s : SM} {Q : Int32 → SM → Prop} (hr : rX12_bestOf s a1) (h : Q (vX12_bestOf s a1) (mX12_bestOf s a1)) : KI MX12_bestOf 5 [.ref 248, .int a1] s Q := by
  replace h : Q (fX12_bestOf s a1).1 (fX12_bestOf s a1).2 := h
  unfold rX12_bestOf at hr
  unfold fX12_bestOf at h
  refine bX12_bestOf a1 ?_
  first | exact (gX12_bestOf  FU).1 a1 (-1 : Int32) (2 : Int32) _ Q hr h | contradiction
set_option maxRecDepth 1000000 in
theorem bX12_can_28 (a1 : Int32) (a2 : Int32) (a3 : Int32) (a4 : Int32) {s : SM} {Q : Int32 → SM → Prop} (h : (((gI s 250 ((0 : Int32)).toNatClampNeg) ≤ a4 → Q a3 s) ∧ (¬ (gI s 250 ((0 : Int32)).toNatClampNeg) ≤ a4 → rX12_whyWrite s a1 a4 a2 ∧ BI MX12_can 5 28 [(0, .ref 248), (1, .int a1), (2, .int a2), (3, .int (a3 ||| (if (vX12_whyWrite s a1 a4 a2) = 0 then ((1 : Int32) <<< (a4 &&& 31)) else (0 : Int32)))), (4, .int (a4 + 1))] s Q))) : BI MX12_can 5 28 [(0, .ref 248), (1, .int a1), (2, .int a2), (3, .int a3), (4, .int a4)] s Q := by
  refine JT_iload (q := 4) dX12_can_28 rfl ?_
  refine JT_aload_n (q := 0) dX12_can_30 rfl rfl ?_
  refine JS_getR (x := 250) dX12_can_31 flX12_33 BS_248 (Nat.le_of_ble_eq_true rfl) (Nat.le_of_ble_eq_true rfl) (Or.inr ⟨_, ct_12_6⟩) RF_248_6 ?_
  refine JT_iconst (v := 0) dX12_can_34 ic_0 ?_
  refine JS_iald dX12_can_35 BS_250 (Nat.le_of_ble_eq_true rfl) (Nat.le_of_ble_eq_true rfl) (by unfold vp_in; decide) ?_
  refine JT_icmp_ge (tgt := 67) dX12_can_36 (by decide) (fun hc4 => ?_) (fun hc4 => ?_)
  · have h := h.1 hc4
    refine JT_iload_n (q := 3) dX12_can_67 rfl rfl ?_
    exact JS_iret dX12_can_68 rfl rfl h
  · have h := h.2 hc4
    refine JT_iload_n (q := 3) dX12_can_39 rfl rfl ?_
    refine JT_aload_n (q := 0) dX12_can_40 rfl rfl ?_
    refine JT_iload_n (q := 1) dX12_can_41 rfl rfl ?_
    refine JT_iload (q := 4) dX12_can_42 rfl ?_
    refine JT_iload_n (q := 2) dX12_can_44 rfl rfl ?_
    obtain ⟨o3, h⟩ := h
    refine JS_callVI (M' := MX12_whyWrite) (d' := 4) (As := [.int a1, .int a4, .int a2]) (rest := [.int a3]) (P := (fun zv9 wm9 => (vX12_whyWrite s a1 a4 a2) = zv9 ∧ s = wm9)) dX12_can_45 cvX12_326 okX12_whyWrite rfl (Nat.le_of_ble_eq_true rfl) BS_248 (Nat.le_of_ble_eq_true rfl) (Nat.le_of_ble_eq_true rfl) hci_12 (Nat.le_of_ble_eq_true rfl) (Nat.le_of_ble_eq_true rfl) (pX12_whyWrite  (a1) (a4) (a2) o3 ⟨rfl, rfl⟩) (fun zv9 wm9 hq9 => ?_)
    obtain ⟨rfl, rfl⟩ := hq9
    have hj1 : ∀ v : Int32, v = (if (vX12_whyWrite s a1 a4 a2) = 0 then ((1 : Int32) <<< (a4 &&& 31)) else (0 : Int32)) → JT MX12_can 5 0 0 59 [(0, .ref 248), (1, .int a1), (2, .int a2), (3, .int a3), (4, .int a4)] [.int v, .int a3] (std s) (KQ Q) := by
      intro v hv
      subst hv
      refine JT_ior dX12_can_59 ?_
      refine JT_istore_n (lv' := [(3, .int (a3 ||| (if (vX12_whyWrite s a1 a4 a2) = 0 then ((1 : Int32) <<< (a4 &&& 31)) else (0 : Int32)))), (0, .ref 248), (1, .int a1), (2, .int a2), (4, .int a4)]) dX12_can_60 rfl (Nat.le_of_ble_eq_true rfl) rfl ?_
      refine JT_iinc (q := 4) (v := (a4 + 1)) (lv' := [(4, .int (a4 + 1)), (3, .int (a3 ||| (if (vX12_whyWrite s a1 a4 a2) = 0 then ((1 : Int32) <<< (a4 &&& 31)) else (0 : Int32)))), (0, .ref 248), (1, .int a1), (2, .int a2)]) dX12_can_61 rfl (by rfl) (Nat.le_of_ble_eq_true rfl) rfl ?_
      refine JT_goto (tgt := 28) dX12_can_64 (by decide) ?_
      exact JT_sub [2, 3, 4, 1, 0] rfl h
    refine JT_if_ne (tgt := 58) dX12_can_48 (by decide) (fun hc2 => ?_) (fun hc2 => ?_)
    · refine JT_iconst (v := 0) dX12_can_58 ic_0 ?_
      exact hj1 _ (by rw [if_neg hc2])
    · refine JT_iconst (v := 1) dX12_can_51 ic_1 ?_
      refine JT_iload (q := 4) dX12_can_52 rfl ?_
      refine JT_ishl dX12_can_54 ?_
      refine JT_goto (tgt := 59) dX12_can_55 (by decide) ?_
      exact hj1 _ (by rw [if_pos hc2])
set_option maxRecDepth 1000000 in
theorem bX12_can (a1 : Int32) (a2 : Int32) {s : SM} {Q : Int32 → SM → Prop} (h : (((vX12_isBody (pI s 248 0 (0 : Int32)) a1) = 0 → Q (-1 : Int32) (pI s 248 0 (0 : Int32))) ∧ (¬ (vX12_isBody (pI s 248 0 (0 : Int32)) a1) = 0 → ((¬ (vX12_isKind (pI s 248 0 (0 : Int32)) a2) = 0 → BI MX12_can 5 28 [(0, .ref 248), (1, .int a1), (2, .int a2), (3, .int (0 : Int32)), (4, .int (0 : Int32))] (pI s 248 0 (0 : Int32)) Q) ∧ ((vX12_isKind (pI s 248 0 (0 : Int32)) a2) = 0 → Q (-1 : Int32) (pI s 248 0 (0 : Int32))))))) : KI MX12_can 5 [.ref 248, .int a1, .int a2] s Q := by
  show BI MX12_can 5 0 [(0, .ref 248), (1, .int a1), (2, .int a2)] s Q
  refine JT_aload_n (q := 0) dX12_can_0 rfl rfl ?_
  refine JT_iconst (v := 0) dX12_can_1 ic_0 ?_
  refine JS_putI dX12_can_2 flX12_1 BS_248 (Nat.le_of_ble_eq_true rfl) (Nat.le_of_ble_eq_true rfl) ct_12_0 ?_
  refine JT_aload_n (q := 0) dX12_can_5 rfl rfl ?_
  refine JT_iload_n (q := 1) dX12_can_6 rfl rfl ?_
  refine JS_callVI (M' := MX12_isBody) (d' := 1) (As := [.int a1]) (rest := []) (P := (fun zv9 wm9 => (vX12_isBody (pI s 248 0 (0 : Int32)) a1) = zv9 ∧ (pI s 248 0 (0 : Int32)) = wm9)) dX12_can_7 cvX12_287 okX12_isBody rfl (Nat.le_of_ble_eq_true rfl) BS_248 (Nat.le_of_ble_eq_true rfl) (Nat.le_of_ble_eq_true rfl) hci_12 (Nat.le_of_ble_eq_true rfl) (Nat.le_of_ble_eq_true rfl) (pX12_isBody  (a1)  ⟨rfl, rfl⟩) (fun zv9 wm9 hq9 => ?_)
  obtain ⟨rfl, rfl⟩ := hq9
  refine JT_if_eq (tgt := 21) dX12_can_10 (by decide) (fun hc3 => ?_) (fun hc3 => ?_)
  · have h := h.1 hc3
    refine JT_iconst (v := -1) dX12_can_21 ic_m1 ?_
    exact JS_iret dX12_can_22 rfl rfl h
  · have h := h.2 hc3
    refine JT_aload_n (q := 0) dX12_can_13 rfl rfl ?_
    refine JT_iload_n (q := 2) dX12_can_14 rfl rfl ?_
    refine JS_callVI (M' := MX12_isKind) (d' := 1) (As := [.int a2]) (rest := []) (P := (fun zv9 wm9 => (vX12_isKind (pI s 248 0 (0 : Int32)) a2) = zv9 ∧ (pI s 248 0 (0 : Int32)) = wm9)) dX12_can_15 cvX12_306 okX12_isKind rfl (Nat.le_of_ble_eq_true rfl) BS_248 (Nat.le_of_ble_eq_true rfl) (Nat.le_of_ble_eq_true rfl) hci_12 (Nat.le_of_ble_eq_true rfl) (Nat.le_of_ble_eq_true rfl) (pX12_isKind  (a2)  ⟨rfl, rfl⟩) (fun zv9 wm9 hq9 => ?_)
    obtain ⟨rfl, rfl⟩ := hq9
    refine JT_if_ne (tgt := 23) dX12_can_18 (by decide) (fun hc1 => ?_) (fun hc1 => ?_)
    · have h := h.1 hc1
      refine JT_iconst (v := 0) dX12_can_23 ic_0 ?_
      refine JT_istore_n (lv' := [(3, .int (0 : Int32)), (0, .ref 248), (1, .int a1), (2, .int a2)]) dX12_can_24 rfl (Nat.le_of_ble_eq_true rfl) rfl ?_
      refine JT_iconst (v := 0) dX12_can_25 ic_0 ?_
      refine JT_istore (lv' := [(4, .int (0 : Int32)), (3, .int (0 : Int32)), (0, .ref 248), (1, .int a1), (2, .int a2)]) dX12_can_26 (Nat.le_of_ble_eq_true rfl) rfl ?_
      exact JT_sub [2, 3, 4, 1, 0] rfl h
    · have h := h.2 hc1
      refine JT_iconst (v := -1) dX12_can_21 ic_m1 ?_
      exact JS_iret dX12_can_22 rfl rfl h
set_option maxRecDepth 1000000 in
theorem gX12_can  : ∀ n : Nat, (∀ (a1 : Int32) (a2 : Int32) (a3 : Int32) (a4 : Int32) (s : SM) (Q : Int32 → SM → Prop), ((qX12_can n) s a1 a2 a3 a4) → Q ((lX12_can n) s a1 a2 a3 a4).1 ((lX12_can n) s a1 a2 a3 a4).2 → BI MX12_can 5 28 [(0, .ref 248), (1, .int a1), (2, .int a2), (3, .int a3), (4, .int a4)] s Q) := by
  intro n
  induction n with
  | zero => exact fun _ _ _ _ _ _ hq _ => absurd hq id
  | succ n ih =>
    intro a1 a2 a3 a4 s Q hr h
    replace hr : uX12_can_28 (qX12_can n) s a1 a2 a3 a4 := hr
    replace h : Q (tX12_can_28 (lX12_can n) s a1 a2 a3 a4).1 (tX12_can_28 (lX12_can n) s a1 a2 a3 a4).2 := h
    unfold uX12_can_28 at hr
    unfold tX12_can_28 at h
    refine bX12_can_28 a1 a2 a3 a4 ?_
    refine ⟨fun c => ?_, fun c => ?_⟩
    · replace h := q3p c h
      first | exact h | contradiction
    · replace hr := hr c
      replace h := q3n c h
      refine ⟨hr.1, ?_⟩
      replace hr := hr.2
      first | exact ih a1 a2 (a3 ||| (if (vX12_whyWrite s a1 a4 a2) = 0 then ((1 : Int32) <<< (a4 &&& 31)) else (0 : Int32))) (a4 + 1) _ Q hr h | contradiction
set_option maxRecDepth 1000000 in
theorem pX12_can (a1 : Int32) (a2 : Int32) {s : SM} {Q : Int32 → SM → Prop} (hr : rX12_can s a1 a2) (h : Q (vX12_can s a1 a2) (mX12_can s a1 a2)) : KI MX12_can 5 [.ref 248, .int a1, .int a2] s Q := by
  replace h : Q (fX12_can s a1 a2).1 (fX12_can s a1 a2).2 := h
  unfold rX12_can at hr
  unfold fX12_can at h
  refine bX12_can a1 a2 ?_
  refine ⟨fun c => ?_, fun c => ?_⟩
  · replace h := q3p c h
    first | exact h | contradiction
  · replace hr := hr c
    replace h := q3n c h
    refine ⟨fun c => ?_, fun c => ?_⟩
    · replace hr := hr c
      replace h := q3n c h
      first | exact (gX12_can  FU) a1 a2 (0 : Int32) (0 : Int32) _ Q hr h | contradiction
    · replace h := q3p c h
      first | exact h | contradiction
set_option maxRecDepth 1000000 in
theorem bX12_isFit_2 (a1 : Int32) (a2 : Int32) {s : SM} {Q : Int32 → SM → Prop} (h : (((gI s 250 ((0 : Int32)).toNatClampNeg) ≤ a2 → BI MX12_isFit 5 32 [(0, .ref 248), (1, .int a1), (2, .int (0 : Int32))] s Q) ∧ (¬ (gI s 250 ((0 : Int32)).toNatClampNeg) ≤ a2 → vp_in a2 9 ∧ vp_in a2 9 ∧ BI MX12_isFit 5 2 [(0, .ref 248), (1, .int a1), (2, .int (a2 + 1))] (pI s 261 (a2).toNatClampNeg (gI s 274 (a2).toNatClampNeg)) Q))) : BI MX12_isFit 5 2 [(0, .ref 248), (1, .int a1), (2, .int a2)] s Q := by
  refine JT_iload_n (q := 2) dX12_isFit_2 rfl rfl ?_
  refine JT_aload_n (q := 0) dX12_isFit_3 rfl rfl ?_
  refine JS_getR (x := 250) dX12_isFit_4 flX12_33 BS_248 (Nat.le_of_ble_eq_true rfl) (Nat.le_of_ble_eq_true rfl) (Or.inr ⟨_, ct_12_6⟩) RF_248_6 ?_
  refine JT_iconst (v := 0) dX12_isFit_7 ic_0 ?_
  refine JS_iald dX12_isFit_8 BS_250 (Nat.le_of_ble_eq_true rfl) (Nat.le_of_ble_eq_true rfl) (by unfold vp_in; decide) ?_
  refine JT_icmp_ge (tgt := 30) dX12_isFit_9 (by decide) (fun hc3 => ?_) (fun hc3 => ?_)
  · have h := h.1 hc3
    refine JT_iconst (v := 0) dX12_isFit_30 ic_0 ?_
    refine JT_istore_n (lv' := [(2, .int (0 : Int32)), (0, .ref 248), (1, .int a1)]) dX12_isFit_31 rfl (Nat.le_of_ble_eq_true rfl) rfl ?_
    exact JT_sub [1, 2, 0] rfl h
  · have h := h.2 hc3
    refine JT_aload_n (q := 0) dX12_isFit_12 rfl rfl ?_
    refine JS_getR (x := 261) dX12_isFit_13 flX12_68 BS_248 (Nat.le_of_ble_eq_true rfl) (Nat.le_of_ble_eq_true rfl) (Or.inr ⟨_, ct_12_33⟩) RF_248_33 ?_
    refine JT_iload_n (q := 2) dX12_isFit_16 rfl rfl ?_
    refine JT_aload_n (q := 0) dX12_isFit_17 rfl rfl ?_
    refine JS_getR (x := 274) dX12_isFit_18 flX12_113 BS_248 (Nat.le_of_ble_eq_true rfl) (Nat.le_of_ble_eq_true rfl) (Or.inr ⟨_, ct_12_52⟩) RF_248_52 ?_
    refine JT_iload_n (q := 2) dX12_isFit_21 rfl rfl ?_
    obtain ⟨o1, h⟩ := h
    refine JS_iald dX12_isFit_22 BS_274 (Nat.le_of_ble_eq_true rfl) (Nat.le_of_ble_eq_true rfl) o1 ?_
    obtain ⟨o2, h⟩ := h
    refine JS_iast dX12_isFit_23 BS_261 (Nat.le_of_ble_eq_true rfl) (Nat.le_of_ble_eq_true rfl) o2 ?_
    refine JT_iinc (q := 2) (v := (a2 + 1)) (lv' := [(2, .int (a2 + 1)), (0, .ref 248), (1, .int a1)]) dX12_isFit_24 rfl (by rfl) (Nat.le_of_ble_eq_true rfl) rfl ?_
    refine JT_goto (tgt := 2) dX12_isFit_27 (by decide) ?_
    exact JT_sub [1, 2, 0] rfl h
set_option maxRecDepth 1000000 in
theorem bX12_isFit_32 (a1 : Int32) (a2 : Int32) {s : SM} {Q : Int32 → SM → Prop} (h : ((a1 ≤ a2 → BI MX12_isFit 5 100 [(0, .ref 248), (1, .int a1), (2, .int (0 : Int32))] s Q) ∧ (¬ a1 ≤ a2 → rX12_lostOf s a2 ∧ vp_in a2 4 ∧ rX12_sortOf s (vX12_lostOf s a2) ∧ rX12_of s (vX12_lostOf s a2) (0 : Int32) ∧ vp_in (vX12_of s (vX12_lostOf s a2) (0 : Int32)) 9 ∧ vp_in (vX12_of s (vX12_lostOf s a2) (0 : Int32)) 9 ∧ (∀ s4, s4 = (pI s 261 ((vX12_of s (vX12_lostOf s a2) (0 : Int32))).toNatClampNeg ((gI s 261 ((vX12_of s (vX12_lostOf s a2) (0 : Int32))).toNatClampNeg) + (vX12_valueBy s (gI s 272 (a2).toNatClampNeg) (vX12_sortOf s (vX12_lostOf s a2))))) → rX12_of s4 (vX12_lostOf s a2) (1 : Int32) ∧ vp_in (vX12_of s4 (vX12_lostOf s a2) (1 : Int32)) 9 ∧ vp_in (vX12_of s4 (vX12_lostOf s a2) (1 : Int32)) 9 ∧ (∀ s7, s7 = (pI s4 261 ((vX12_of s4 (vX12_lostOf s a2) (1 : Int32))).toNatClampNeg ((gI s4 261 ((vX12_of s4 (vX12_lostOf s a2) (1 : Int32))).toNatClampNeg) - (vX12_valueBy s (gI s 272 (a2).toNatClampNeg) (vX12_sortOf s (vX12_lostOf s a2))))) → BI MX12_isFit 5 32 [(0, .ref 248), (1, .int a1), (2, .int (a2 + 1))] s7 Q))))) : BI MX12_isFit 5 32 [(0, .ref 248), (1, .int a1), (2, .int a2)] s Q := by
  refine JT_iload_n (q := 2) dX12_isFit_32 rfl rfl ?_
  refine JT_iload_n (q := 1) dX12_isFit_33 rfl rfl ?_
  refine JT_icmp_ge (tgt := 98) dX12_isFit_34 (by decide) (fun hc13 => ?_) (fun hc13 => ?_)
  · have h := h.1 hc13
    refine JT_iconst (v := 0) dX12_isFit_98 ic_0 ?_
    refine JT_istore_n (lv' := [(2, .int (0 : Int32)), (0, .ref 248), (1, .int a1)]) dX12_isFit_99 rfl (Nat.le_of_ble_eq_true rfl) rfl ?_
    exact JT_sub [1, 2, 0] rfl h
  · have h := h.2 hc13
    refine JT_aload_n (q := 0) dX12_isFit_37 rfl rfl ?_
    refine JT_iload_n (q := 2) dX12_isFit_38 rfl rfl ?_
    obtain ⟨o12, h⟩ := h
    refine JS_callVI (M' := MX12_lostOf) (d' := 4) (As := [.int a2]) (rest := []) (P := (fun zv9 wm9 => (vX12_lostOf s a2) = zv9 ∧ s = wm9)) dX12_isFit_39 cvX12_436 okX12_lostOf rfl (Nat.le_of_ble_eq_true rfl) BS_248 (Nat.le_of_ble_eq_true rfl) (Nat.le_of_ble_eq_true rfl) hci_12 (Nat.le_of_ble_eq_true rfl) (Nat.le_of_ble_eq_true rfl) (pX12_lostOf  (a2) o12 ⟨rfl, rfl⟩) (fun zv9 wm9 hq9 => ?_)
    obtain ⟨rfl, rfl⟩ := hq9
    refine JT_istore_n (lv' := [(3, .int (vX12_lostOf s a2)), (0, .ref 248), (1, .int a1), (2, .int a2)]) dX12_isFit_42 rfl (Nat.le_of_ble_eq_true rfl) rfl ?_
    refine JT_aload_n (q := 1) dX12_isFit_43 rfl rfl ?_
    refine JT_aload_n (q := 1) dX12_isFit_44 rfl rfl ?_
    refine JS_getR (x := 272) dX12_isFit_45 flX12_107 BS_248 (Nat.le_of_ble_eq_true rfl) (Nat.le_of_ble_eq_true rfl) (Or.inr ⟨_, ct_12_50⟩) RF_248_50 ?_
    refine JT_iload_n (q := 3) dX12_isFit_48 rfl rfl ?_
    obtain ⟨o1, h⟩ := h
    refine JS_iald dX12_isFit_49 BS_272 (Nat.le_of_ble_eq_true rfl) (Nat.le_of_ble_eq_true rfl) o1 ?_
    refine JT_aload_n (q := 1) dX12_isFit_50 rfl rfl ?_
    refine JT_iload_n (q := 0) dX12_isFit_51 rfl rfl ?_
    obtain ⟨o11, h⟩ := h
    refine JS_callVI (M' := MX12_sortOf) (d' := 1) (As := [.int (vX12_lostOf s a2)]) (rest := [.int (gI s 272 (a2).toNatClampNeg), .ref 248]) (P := (fun zv9 wm9 => (vX12_sortOf s (vX12_lostOf s a2)) = zv9 ∧ s = wm9)) dX12_isFit_52 cvX12_272 okX12_sortOf rfl (Nat.le_of_ble_eq_true rfl) BS_248 (Nat.le_of_ble_eq_true rfl) (Nat.le_of_ble_eq_true rfl) hci_12 (Nat.le_of_ble_eq_true rfl) (Nat.le_of_ble_eq_true rfl) (pX12_sortOf  ((vX12_lostOf s a2)) o11 ⟨rfl, rfl⟩) (fun zv9 wm9 hq9 => ?_)
    obtain ⟨rfl, rfl⟩ := hq9
    refine JS_callVI (M' := MX12_valueBy) (d' := 0) (As := [.int (gI s 272 (a2).toNatClampNeg), .int (vX12_sortOf s (vX12_lostOf s a2))]) (rest := []) (P := (fun zv9 wm9 => (vX12_valueBy s (gI s 272 (a2).toNatClampNeg) (vX12_sortOf s (vX12_lostOf s a2))) = zv9 ∧ s = wm9)) dX12_isFit_55 cvX12_275 okX12_valueBy rfl (Nat.le_of_ble_eq_true rfl) BS_248 (Nat.le_of_ble_eq_true rfl) (Nat.le_of_ble_eq_true rfl) hci_12 (Nat.le_of_ble_eq_true rfl) (Nat.le_of_ble_eq_true rfl) (pX12_valueBy  ((gI s 272 (a2).toNatClampNeg)) ((vX12_sortOf s (vX12_lostOf s a2)))  ⟨rfl, rfl⟩) (fun zv9 wm9 hq9 => ?_)
    obtain ⟨rfl, rfl⟩ := hq9
    refine JT_istore (lv' := [(4, .int (vX12_valueBy s (gI s 272 (a2).toNatClampNeg) (vX12_sortOf s (vX12_lostOf s a2)))), (3, .int (vX12_lostOf s a2)), (0, .ref 248), (1, .int a1), (2, .int a2)]) dX12_isFit_58 (Nat.le_of_ble_eq_true rfl) rfl ?_
    refine JT_aload_n (q := 2) dX12_isFit_60 rfl rfl ?_
    refine JS_getR (x := 261) dX12_isFit_61 flX12_68 BS_248 (Nat.le_of_ble_eq_true rfl) (Nat.le_of_ble_eq_true rfl) (Or.inr ⟨_, ct_12_33⟩) RF_248_33 ?_
    refine JT_aload_n (q := 2) dX12_isFit_64 rfl rfl ?_
    refine JT_iload_n (q := 1) dX12_isFit_65 rfl rfl ?_
    refine JT_iconst (v := 0) dX12_isFit_66 ic_0 ?_
    obtain ⟨o9, h⟩ := h
    refine JS_callVI (M' := MX12_of) (d' := 0) (As := [.int (vX12_lostOf s a2), .int (0 : Int32)]) (rest := [.ref 261]) (P := (fun zv9 wm9 => (vX12_of s (vX12_lostOf s a2) (0 : Int32)) = zv9 ∧ s = wm9)) dX12_isFit_67 cvX12_265 okX12_of rfl (Nat.le_of_ble_eq_true rfl) BS_248 (Nat.le_of_ble_eq_true rfl) (Nat.le_of_ble_eq_true rfl) hci_12 (Nat.le_of_ble_eq_true rfl) (Nat.le_of_ble_eq_true rfl) (pX12_of  ((vX12_lostOf s a2)) ((0 : Int32)) o9 ⟨rfl, rfl⟩) (fun zv9 wm9 hq9 => ?_)
    obtain ⟨rfl, rfl⟩ := hq9
    refine JT_dup2 dX12_isFit_70 rfl rfl ?_
    obtain ⟨o2, h⟩ := h
    refine JS_iald dX12_isFit_71 BS_261 (Nat.le_of_ble_eq_true rfl) (Nat.le_of_ble_eq_true rfl) o2 ?_
    refine JT_iload (q := 0) dX12_isFit_72 rfl ?_
    refine JT_iadd dX12_isFit_74 ?_
    obtain ⟨o3, h⟩ := h
    refine JS_iast dX12_isFit_75 BS_261 (Nat.le_of_ble_eq_true rfl) (Nat.le_of_ble_eq_true rfl) o3 ?_
    obtain ⟨s4, hs4⟩ : ∃ z, z = (pI s 261 ((vX12_of s (vX12_lostOf s a2) (0 : Int32))).toNatClampNeg ((gI s 261 ((vX12_of s (vX12_lostOf s a2) (0 : Int32))).toNatClampNeg) + (vX12_valueBy s (gI s 272 (a2).toNatClampNeg) (vX12_sortOf s (vX12_lostOf s a2))))) := ⟨_, rfl⟩
    replace h := h s4 hs4
    rw [← hs4]
    refine JT_aload_n (q := 2) dX12_isFit_76 rfl rfl ?_
    refine JS_getR (x := 261) dX12_isFit_77 flX12_68 BS_248 (Nat.le_of_ble_eq_true rfl) (Nat.le_of_ble_eq_true rfl) (Or.inr ⟨_, ct_12_33⟩) RF_248_33 ?_
    refine JT_aload_n (q := 2) dX12_isFit_80 rfl rfl ?_
    refine JT_iload_n (q := 1) dX12_isFit_81 rfl rfl ?_
    refine JT_iconst (v := 1) dX12_isFit_82 ic_1 ?_
    obtain ⟨o8, h⟩ := h
    refine JS_callVI (M' := MX12_of) (d' := 0) (As := [.int (vX12_lostOf s a2), .int (1 : Int32)]) (rest := [.ref 261]) (P := (fun zv9 wm9 => (vX12_of s4 (vX12_lostOf s a2) (1 : Int32)) = zv9 ∧ s4 = wm9)) dX12_isFit_83 cvX12_265 okX12_of rfl (Nat.le_of_ble_eq_true rfl) BS_248 (Nat.le_of_ble_eq_true rfl) (Nat.le_of_ble_eq_true rfl) hci_12 (Nat.le_of_ble_eq_true rfl) (Nat.le_of_ble_eq_true rfl) (pX12_of  ((vX12_lostOf s a2)) ((1 : Int32)) o8 ⟨rfl, rfl⟩) (fun zv9 wm9 hq9 => ?_)
    obtain ⟨rfl, rfl⟩ := hq9
    refine JT_dup2 dX12_isFit_86 rfl rfl ?_
    obtain ⟨o5, h⟩ := h
    refine JS_iald dX12_isFit_87 BS_261 (Nat.le_of_ble_eq_true rfl) (Nat.le_of_ble_eq_true rfl) o5 ?_
    refine JT_iload (q := 0) dX12_isFit_88 rfl ?_
    refine JT_isub dX12_isFit_90 ?_
    obtain ⟨o6, h⟩ := h
    refine JS_iast dX12_isFit_91 BS_261 (Nat.le_of_ble_eq_true rfl) (Nat.le_of_ble_eq_true rfl) o6 ?_
    obtain ⟨s7, hs7⟩ : ∃ z, z = (pI s4 261 ((vX12_of s4 (vX12_lostOf s a2) (1 : Int32))).toNatClampNeg ((gI s4 261 ((vX12_of s4 (vX12_lostOf s a2) (1 : Int32))).toNatClampNeg) - (vX12_valueBy s (gI s 272 (a2).toNatClampNeg) (vX12_sortOf s (vX12_lostOf s a2))))) := ⟨_, rfl⟩
    replace h := h s7 hs7
    rw [← hs7]
    refine JT_iinc (q := 4) (v := (a2 + 1)) (lv' := [(2, .int (a2 + 1)), (4, .int (vX12_valueBy s (gI s 272 (a2).toNatClampNeg) (vX12_sortOf s (vX12_lostOf s a2)))), (3, .int (vX12_lostOf s a2)), (0, .ref 248), (1, .int a1)]) dX12_isFit_92 rfl (by rfl) (Nat.le_of_ble_eq_true rfl) rfl ?_
    refine JT_goto (tgt := 32) dX12_isFit_95 (by decide) ?_
    exact JT_sub [3, 4, 0] rfl h
set_option maxRecDepth 1000000 in
theorem bX12_isFit_100 (a1 : Int32) (a2 : Int32) {s : SM} {Q : Int32 → SM → Prop} (h : (((gI s 250 ((0 : Int32)).toNatClampNeg) ≤ a2 → Q (1 : Int32) s) ∧ (¬ (gI s 250 ((0 : Int32)).toNatClampNeg) ≤ a2 → (((vX12_isLiving s a2) = 0 → BI MX12_isFit 5 100 [(0, .ref 248), (1, .int a1), (2, .int (a2 + 1))] s Q) ∧ (¬ (vX12_isLiving s a2) = 0 → vp_in a2 9 ∧ vp_in a2 9 ∧ (((gI s 261 (a2).toNatClampNeg) = (gI s 273 (a2).toNatClampNeg) → BI MX12_isFit 5 100 [(0, .ref 248), (1, .int a1), (2, .int (a2 + 1))] s Q) ∧ (¬ (gI s 261 (a2).toNatClampNeg) = (gI s 273 (a2).toNatClampNeg) → Q (0 : Int32) s))))))) : BI MX12_isFit 5 100 [(0, .ref 248), (1, .int a1), (2, .int a2)] s Q := by
  refine JT_iload_n (q := 2) dX12_isFit_100 rfl rfl ?_
  refine JT_aload_n (q := 0) dX12_isFit_101 rfl rfl ?_
  refine JS_getR (x := 250) dX12_isFit_102 flX12_33 BS_248 (Nat.le_of_ble_eq_true rfl) (Nat.le_of_ble_eq_true rfl) (Or.inr ⟨_, ct_12_6⟩) RF_248_6 ?_
  refine JT_iconst (v := 0) dX12_isFit_105 ic_0 ?_
  refine JS_iald dX12_isFit_106 BS_250 (Nat.le_of_ble_eq_true rfl) (Nat.le_of_ble_eq_true rfl) (by unfold vp_in; decide) ?_
  refine JT_icmp_ge (tgt := 141) dX12_isFit_107 (by decide) (fun hc6 => ?_) (fun hc6 => ?_)
  · have h := h.1 hc6
    refine JT_iconst (v := 1) dX12_isFit_141 ic_1 ?_
    exact JS_iret dX12_isFit_142 rfl (n01 (Or.inr rfl)) h
  · have h := h.2 hc6
    refine JT_aload_n (q := 0) dX12_isFit_110 rfl rfl ?_
    refine JT_iload_n (q := 2) dX12_isFit_111 rfl rfl ?_
    refine JS_callVI (M' := MX12_isLiving) (d' := 1) (As := [.int a2]) (rest := []) (P := (fun zv9 wm9 => (vX12_isLiving s a2) = zv9 ∧ s = wm9)) dX12_isFit_112 cvX12_294 okX12_isLiving rfl (Nat.le_of_ble_eq_true rfl) BS_248 (Nat.le_of_ble_eq_true rfl) (Nat.le_of_ble_eq_true rfl) hci_12 (Nat.le_of_ble_eq_true rfl) (Nat.le_of_ble_eq_true rfl) (pX12_isLiving  (a2)  ⟨rfl, rfl⟩) (fun zv9 wm9 hq9 => ?_)
    obtain ⟨rfl, rfl⟩ := hq9
    refine JT_if_eq (tgt := 135) dX12_isFit_115 (by decide) (fun hc4 => ?_) (fun hc4 => ?_)
    · have h := h.1 hc4
      refine JT_iinc (q := 2) (v := (a2 + 1)) (lv' := [(2, .int (a2 + 1)), (0, .ref 248), (1, .int a1)]) dX12_isFit_135 rfl (by rfl) (Nat.le_of_ble_eq_true rfl) rfl ?_
      refine JT_goto (tgt := 100) dX12_isFit_138 (by decide) ?_
      exact JT_sub [1, 2, 0] rfl h
    · have h := h.2 hc4
      refine JT_aload_n (q := 0) dX12_isFit_118 rfl rfl ?_
      refine JS_getR (x := 261) dX12_isFit_119 flX12_68 BS_248 (Nat.le_of_ble_eq_true rfl) (Nat.le_of_ble_eq_true rfl) (Or.inr ⟨_, ct_12_33⟩) RF_248_33 ?_
      refine JT_iload_n (q := 2) dX12_isFit_122 rfl rfl ?_
      obtain ⟨o1, h⟩ := h
      refine JS_iald dX12_isFit_123 BS_261 (Nat.le_of_ble_eq_true rfl) (Nat.le_of_ble_eq_true rfl) o1 ?_
      refine JT_aload_n (q := 0) dX12_isFit_124 rfl rfl ?_
      refine JS_getR (x := 273) dX12_isFit_125 flX12_110 BS_248 (Nat.le_of_ble_eq_true rfl) (Nat.le_of_ble_eq_true rfl) (Or.inr ⟨_, ct_12_51⟩) RF_248_51 ?_
      refine JT_iload_n (q := 2) dX12_isFit_128 rfl rfl ?_
      obtain ⟨o2, h⟩ := h
      refine JS_iald dX12_isFit_129 BS_273 (Nat.le_of_ble_eq_true rfl) (Nat.le_of_ble_eq_true rfl) o2 ?_
      refine JT_icmp_eq (tgt := 135) dX12_isFit_130 (by decide) (fun hc3 => ?_) (fun hc3 => ?_)
      · have h := h.1 hc3
        refine JT_iinc (q := 2) (v := (a2 + 1)) (lv' := [(2, .int (a2 + 1)), (0, .ref 248), (1, .int a1)]) dX12_isFit_135 rfl (by rfl) (Nat.le_of_ble_eq_true rfl) rfl ?_
        refine JT_goto (tgt := 100) dX12_isFit_138 (by decide) ?_
        exact JT_sub [1, 2, 0] rfl h
      · have h := h.2 hc3
        refine JT_iconst (v := 0) dX12_isFit_133 ic_0 ?_
        exact JS_iret dX12_isFit_134 rfl (n01 (Or.inl rfl)) h
set_option maxRecDepth 1000000 in
theorem bX12_isFit (a1 : Int32) {s : SM} {Q : Int32 → SM → Prop} (h : BI MX12_isFit 5 2 [(0, .ref 248), (1, .int a1), (2, .int (0 : Int32))] s Q) : KI MX12_isFit 5 [.ref 248, .int a1] s Q := by
  show BI MX12_isFit 5 0 [(0, .ref 248), (1, .int a1)] s Q
  refine JT_iconst (v := 0) dX12_isFit_0 ic_0 ?_
  refine JT_istore_n (lv' := [(2, .int (0 : Int32)), (0, .ref 248), (1, .int a1)]) dX12_isFit_1 rfl (Nat.le_of_ble_eq_true rfl) rfl ?_
  exact JT_sub [1, 2, 0] rfl h
set_option maxRecDepth 1000000 in
theorem gX12_isFit  : ∀ n : Nat, (∀ (a1 : Int32) (a2 : Int32) (s : SM) (Q : Int32 → SM → Prop), ((qX12_isFit n).1 s a1 a2) → Q ((lX12_isFit n).1 s a1 a2).1 ((lX12_isFit n).1 s a1 a2).2 → BI MX12_isFit 5 2 [(0, .ref 248), (1, .int a1), (2, .int a2)] s Q) ∧ (∀ (a1 : Int32) (a2 : Int32) (s : SM) (Q : Int32 → SM → Prop), ((qX12_isFit n).2.1 s a1 a2) → Q ((lX12_isFit n).2.1 s a1 a2).1 ((lX12_isFit n).2.1 s a1 a2).2 → BI MX12_isFit 5 32 [(0, .ref 248), (1, .int a1), (2, .int a2)] s Q) ∧ (∀ (a1 : Int32) (a2 : Int32) (s : SM) (Q : Int32 → SM → Prop), ((qX12_isFit n).2.2 s a1 a2) → Q ((lX12_isFit n).2.2 s a1 a2).1 ((lX12_isFit n).2.2 s a1 a2).2 → BI MX12_isFit 5 100 [(0, .ref 248), (1, .int a1), (2, .int a2)] s Q) := by
  intro n
  induction n with
  | zero => exact ⟨fun _ _ _ _ hq _ => absurd hq id, fun _ _ _ _ hq _ => absurd hq id, fun _ _ _ _ hq _ => absurd hq id⟩
  | succ n ih =>
    refine ⟨?_, ?_, ?_⟩
    · intro a1 a2 s Q hr h
      replace hr : uX12_isFit_2 (qX12_isFit n) s a1 a2 := hr
      replace h : Q (tX12_isFit_2 (lX12_isFit n) s a1 a2).1 (tX12_isFit_2 (lX12_isFit n) s a1 a2).2 := h
      unfold uX12_isFit_2 at hr
      unfold tX12_isFit_2 at h
      refine bX12_isFit_2 a1 a2 ?_
      refine ⟨fun c => ?_, fun c => ?_⟩
      · replace hr := hr.1 c
        replace h := q3p c h
        first | exact ih.2.1 a1 (0 : Int32) _ Q hr h | contradiction
      · replace hr := hr.2 c
        replace h := q3n c h
        refine ⟨hr.1, ?_⟩
        replace hr := hr.2
        refine ⟨hr.1, ?_⟩
        replace hr := hr.2
        first | exact ih.1 a1 (a2 + 1) _ Q hr h | contradiction
    · intro a1 a2 s Q hr h
      replace hr : uX12_isFit_32 (qX12_isFit n) s a1 a2 := hr
      replace h : Q (tX12_isFit_32 (lX12_isFit n) s a1 a2).1 (tX12_isFit_32 (lX12_isFit n) s a1 a2).2 := h
      unfold uX12_isFit_32 at hr
      unfold tX12_isFit_32 at h
      refine bX12_isFit_32 a1 a2 ?_
      refine ⟨fun c => ?_, fun c => ?_⟩
      · replace hr := hr.1 c
        replace h := q3p c h
        first | exact ih.2.2 a1 (0 : Int32) _ Q hr h | contradiction
      · replace hr := hr.2 c
        replace h := q3n c h
        refine ⟨hr.1, ?_⟩
        replace hr := hr.2
        refine ⟨hr.1, ?_⟩
        replace hr := hr.2
        refine ⟨hr.1, ?_⟩
        replace hr := hr.2
        refine ⟨hr.1, ?_⟩
        replace hr := hr.2
        refine ⟨hr.1, ?_⟩
        replace hr := hr.2
        refine ⟨hr.1, ?_⟩
        replace hr := hr.2
        intro s4 e9
        replace hr := hr s4 e9
        try rw [← e9] at h
        try dsimp only at h
        refine ⟨hr.1, ?_⟩
        replace hr := hr.2
        refine ⟨hr.1, ?_⟩
        replace hr := hr.2
        refine ⟨hr.1, ?_⟩
        replace hr := hr.2
        intro s7 e9
        replace hr := hr s7 e9
        try rw [← e9] at h
        try dsimp only at h
        first | exact ih.2.1 a1 (a2 + 1) _ Q hr h | contradiction
    · intro a1 a2 s Q hr h
      replace hr : uX12_isFit_100 (qX12_isFit n) s a1 a2 := hr
      replace h : Q (tX12_isFit_100 (lX12_isFit n) s a1 a2).1 (tX12_isFit_100 (lX12_isFit n) s a1 a2).2 := h
      unfold uX12_isFit_100 at hr
      unfold tX12_isFit_100 at h
      refine bX12_isFit_100 a1 a2 ?_
      refine ⟨fun c => ?_, fun c => ?_⟩
      · replace h := q3p c h
        first | exact h | contradiction
      · replace hr := hr c
        replace h := q3n c h
        refine ⟨fun c => ?_, fun c => ?_⟩
        · replace hr := hr.1 c
          replace h := q3p c h
          first | exact ih.2.2 a1 (a2 + 1) _ Q hr h | contradiction
        · replace hr := hr.2 c
          replace h := q3n c h
          refine ⟨hr.1, ?_⟩
          replace hr := hr.2
          refine ⟨hr.1, ?_⟩
          replace hr := hr.2
          refine ⟨fun c => ?_, fun c => ?_⟩
          · replace hr := hr c
            replace h := q3p c h
            first | exact ih.2.2 a1 (a2 + 1) _ Q hr h | contradiction
          · replace h := q3n c h
            first | exact h | contradiction
set_option maxRecDepth 1000000 in
theorem pX12_isFit (a1 : Int32) {s : SM} {Q : Int32 → SM → Prop} (hr : rX12_isFit s a1) (h : Q (vX12_isFit s a1) (mX12_isFit s a1)) : KI MX12_isFit 5 [.ref 248, .int a1] s Q := by
  replace h : Q (fX12_isFit s a1).1 (fX12_isFit s a1).2 := h
  unfold rX12_isFit at hr
  unfold fX12_isFit at h
  refine bX12_isFit a1 ?_
  first | exact (gX12_isFit  FU).1 a1 (0 : Int32) _ Q hr h | contradiction
set_option maxRecDepth 1000000 in
theorem bX12_lost (a1 : Int32) {s : SM} {Q : Int32 → SM → Prop} (h : (((-1 : Int32) ≤ a1 → rX12_lostOf (pI s 248 0 (0 : Int32)) a1 ∧ Q (vX12_lostOf (pI s 248 0 (0 : Int32)) a1) (pI s 248 0 (0 : Int32))) ∧ (¬ (-1 : Int32) ≤ a1 → Q (-1 : Int32) (pI s 248 0 (0 : Int32))))) : KI MX12_lost 5 [.ref 248, .int a1] s Q := by
  show BI MX12_lost 5 0 [(0, .ref 248), (1, .int a1)] s Q
  refine JT_aload_n (q := 0) dX12_lost_0 rfl rfl ?_
  refine JT_iconst (v := 0) dX12_lost_1 ic_0 ?_
  refine JS_putI dX12_lost_2 flX12_1 BS_248 (Nat.le_of_ble_eq_true rfl) (Nat.le_of_ble_eq_true rfl) ct_12_0 ?_
  refine JT_iload_n (q := 1) dX12_lost_5 rfl rfl ?_
  refine JT_iconst (v := -1) dX12_lost_6 ic_m1 ?_
  refine JT_icmp_ge (tgt := 14) dX12_lost_7 (by decide) (fun hc2 => ?_) (fun hc2 => ?_)
  · have h := h.1 hc2
    refine JT_aload_n (q := 0) dX12_lost_14 rfl rfl ?_
    refine JT_iload_n (q := 1) dX12_lost_15 rfl rfl ?_
    obtain ⟨o1, h⟩ := h
    refine JS_callVI (M' := MX12_lostOf) (d' := 4) (As := [.int a1]) (rest := []) (P := (fun zv9 wm9 => (vX12_lostOf (pI s 248 0 (0 : Int32)) a1) = zv9 ∧ (pI s 248 0 (0 : Int32)) = wm9)) dX12_lost_16 cvX12_436 okX12_lostOf rfl (Nat.le_of_ble_eq_true rfl) BS_248 (Nat.le_of_ble_eq_true rfl) (Nat.le_of_ble_eq_true rfl) hci_12 (Nat.le_of_ble_eq_true rfl) (Nat.le_of_ble_eq_true rfl) (pX12_lostOf  (a1) o1 ⟨rfl, rfl⟩) (fun zv9 wm9 hq9 => ?_)
    obtain ⟨rfl, rfl⟩ := hq9
    exact JS_iret dX12_lost_19 rfl rfl h
  · have h := h.2 hc2
    refine JT_iconst (v := -1) dX12_lost_10 ic_m1 ?_
    refine JT_goto (tgt := 19) dX12_lost_11 (by decide) ?_
    exact JS_iret dX12_lost_19 rfl rfl h
set_option maxRecDepth 1000000 in
theorem pX12_lost (a1 : Int32) {s : SM} {Q : Int32 → SM → Prop} (hr : rX12_lost s a1) (h : Q (vX12_lost s a1) (mX12_lost s a1)) : KI MX12_lost 5 [.ref 248, .int a1] s Q := by
  refine bX12_lost a1 ?_
  unfold rX12_lost at hr
  unfold vX12_lost mX12_lost at h
  refine ⟨fun c => ?_, fun c => ?_⟩
  · replace hr := hr c
    replace h := qlp c h
    refine ⟨hr, ?_⟩
    first | exact h | contradiction
  · replace h := qln c h
    first | exact h | contradiction
set_option maxRecDepth 1000000 in
theorem bX12_pack_40 (a1 : Int32) {s : SM} {Q : Int32 → SM → Prop} (h : (((gI s 248 3) ≤ a1 → BI MX12_pack 5 108 [(0, .ref 248), (1, .int (0 : Int32))] (pI s 248 45 ((gI s 248 3) / (3 : Int32))) Q) ∧ (¬ (gI s 248 3) ≤ a1 → rX12_octet s a1 ∧ (((vX12_isBody s (vX12_octet s a1)) = 0 → Q (-1 : Int32) s) ∧ (¬ (vX12_isBody s (vX12_octet s a1)) = 0 → rX12_octet s (a1 + (1 : Int32)) ∧ (((vX12_isBody s (vX12_octet s (a1 + (1 : Int32)))) = 0 → Q (-1 : Int32) s) ∧ (¬ (vX12_isBody s (vX12_octet s (a1 + (1 : Int32)))) = 0 → rX12_octet s (a1 + (2 : Int32)) ∧ ((¬ (vX12_isKind s (vX12_octet s (a1 + (2 : Int32)))) = 0 → BI MX12_pack 5 40 [(0, .ref 248), (1, .int (a1 + 3))] s Q) ∧ ((vX12_isKind s (vX12_octet s (a1 + (2 : Int32)))) = 0 → Q (-1 : Int32) s))))))))) : BI MX12_pack 5 40 [(0, .ref 248), (1, .int a1)] s Q := by
  refine JT_iload_n (q := 1) dX12_pack_40 rfl rfl ?_
  refine JT_aload_n (q := 0) dX12_pack_41 rfl rfl ?_
  refine JS_getI dX12_pack_42 flX12_18 BS_248 (Nat.le_of_ble_eq_true rfl) (Nat.le_of_ble_eq_true rfl) (Or.inl ct_12_3) ?_
  refine JT_icmp_ge (tgt := 96) dX12_pack_45 (by decide) (fun hc10 => ?_) (fun hc10 => ?_)
  · have h := h.1 hc10
    refine JT_aload_n (q := 0) dX12_pack_96 rfl rfl ?_
    refine JT_aload_n (q := 0) dX12_pack_97 rfl rfl ?_
    refine JS_getI dX12_pack_98 flX12_18 BS_248 (Nat.le_of_ble_eq_true rfl) (Nat.le_of_ble_eq_true rfl) (Or.inl ct_12_3) ?_
    refine JT_iconst (v := 3) dX12_pack_101 ic_3 ?_
    refine JT_idiv dX12_pack_102 (by decide) ?_
    refine JS_putI dX12_pack_103 flX12_419 BS_248 (Nat.le_of_ble_eq_true rfl) (Nat.le_of_ble_eq_true rfl) ct_12_45 ?_
    refine JT_iconst (v := 0) dX12_pack_106 ic_0 ?_
    refine JT_istore_n (lv' := [(1, .int (0 : Int32)), (0, .ref 248)]) dX12_pack_107 rfl (Nat.le_of_ble_eq_true rfl) rfl ?_
    exact JT_sub [1, 0] rfl h
  · have h := h.2 hc10
    refine JT_aload_n (q := 0) dX12_pack_48 rfl rfl ?_
    refine JT_aload_n (q := 0) dX12_pack_49 rfl rfl ?_
    refine JT_iload_n (q := 1) dX12_pack_50 rfl rfl ?_
    obtain ⟨o9, h⟩ := h
    refine JS_callVI (M' := MX12_octet) (d' := 0) (As := [.int a1]) (rest := [.ref 248]) (P := (fun zv9 wm9 => (vX12_octet s a1) = zv9 ∧ s = wm9)) dX12_pack_51 cvX12_427 okX12_octet rfl (Nat.le_of_ble_eq_true rfl) BS_248 (Nat.le_of_ble_eq_true rfl) (Nat.le_of_ble_eq_true rfl) hci_12 (Nat.le_of_ble_eq_true rfl) (Nat.le_of_ble_eq_true rfl) (pX12_octet  (a1) o9 ⟨rfl, rfl⟩) (fun zv9 wm9 hq9 => ?_)
    obtain ⟨rfl, rfl⟩ := hq9
    refine JS_callVI (M' := MX12_isBody) (d' := 1) (As := [.int (vX12_octet s a1)]) (rest := []) (P := (fun zv9 wm9 => (vX12_isBody s (vX12_octet s a1)) = zv9 ∧ s = wm9)) dX12_pack_54 cvX12_287 okX12_isBody rfl (Nat.le_of_ble_eq_true rfl) BS_248 (Nat.le_of_ble_eq_true rfl) (Nat.le_of_ble_eq_true rfl) hci_12 (Nat.le_of_ble_eq_true rfl) (Nat.le_of_ble_eq_true rfl) (pX12_isBody  ((vX12_octet s a1))  ⟨rfl, rfl⟩) (fun zv9 wm9 hq9 => ?_)
    obtain ⟨rfl, rfl⟩ := hq9
    refine JT_if_eq (tgt := 88) dX12_pack_57 (by decide) (fun hc7 => ?_) (fun hc7 => ?_)
    · have h := h.1 hc7
      refine JT_iconst (v := -1) dX12_pack_88 ic_m1 ?_
      exact JS_iret dX12_pack_89 rfl rfl h
    · have h := h.2 hc7
      refine JT_aload_n (q := 0) dX12_pack_60 rfl rfl ?_
      refine JT_aload_n (q := 0) dX12_pack_61 rfl rfl ?_
      refine JT_iload_n (q := 1) dX12_pack_62 rfl rfl ?_
      refine JT_iconst (v := 1) dX12_pack_63 ic_1 ?_
      refine JT_iadd dX12_pack_64 ?_
      obtain ⟨o6, h⟩ := h
      refine JS_callVI (M' := MX12_octet) (d' := 0) (As := [.int (a1 + (1 : Int32))]) (rest := [.ref 248]) (P := (fun zv9 wm9 => (vX12_octet s (a1 + (1 : Int32))) = zv9 ∧ s = wm9)) dX12_pack_65 cvX12_427 okX12_octet rfl (Nat.le_of_ble_eq_true rfl) BS_248 (Nat.le_of_ble_eq_true rfl) (Nat.le_of_ble_eq_true rfl) hci_12 (Nat.le_of_ble_eq_true rfl) (Nat.le_of_ble_eq_true rfl) (pX12_octet  ((a1 + (1 : Int32))) o6 ⟨rfl, rfl⟩) (fun zv9 wm9 hq9 => ?_)
      obtain ⟨rfl, rfl⟩ := hq9
      refine JS_callVI (M' := MX12_isBody) (d' := 1) (As := [.int (vX12_octet s (a1 + (1 : Int32)))]) (rest := []) (P := (fun zv9 wm9 => (vX12_isBody s (vX12_octet s (a1 + (1 : Int32)))) = zv9 ∧ s = wm9)) dX12_pack_68 cvX12_287 okX12_isBody rfl (Nat.le_of_ble_eq_true rfl) BS_248 (Nat.le_of_ble_eq_true rfl) (Nat.le_of_ble_eq_true rfl) hci_12 (Nat.le_of_ble_eq_true rfl) (Nat.le_of_ble_eq_true rfl) (pX12_isBody  ((vX12_octet s (a1 + (1 : Int32))))  ⟨rfl, rfl⟩) (fun zv9 wm9 hq9 => ?_)
      obtain ⟨rfl, rfl⟩ := hq9
      refine JT_if_eq (tgt := 88) dX12_pack_71 (by decide) (fun hc4 => ?_) (fun hc4 => ?_)
      · have h := h.1 hc4
        refine JT_iconst (v := -1) dX12_pack_88 ic_m1 ?_
        exact JS_iret dX12_pack_89 rfl rfl h
      · have h := h.2 hc4
        refine JT_aload_n (q := 0) dX12_pack_74 rfl rfl ?_
        refine JT_aload_n (q := 0) dX12_pack_75 rfl rfl ?_
        refine JT_iload_n (q := 1) dX12_pack_76 rfl rfl ?_
        refine JT_iconst (v := 2) dX12_pack_77 ic_2 ?_
        refine JT_iadd dX12_pack_78 ?_
        obtain ⟨o3, h⟩ := h
        refine JS_callVI (M' := MX12_octet) (d' := 0) (As := [.int (a1 + (2 : Int32))]) (rest := [.ref 248]) (P := (fun zv9 wm9 => (vX12_octet s (a1 + (2 : Int32))) = zv9 ∧ s = wm9)) dX12_pack_79 cvX12_427 okX12_octet rfl (Nat.le_of_ble_eq_true rfl) BS_248 (Nat.le_of_ble_eq_true rfl) (Nat.le_of_ble_eq_true rfl) hci_12 (Nat.le_of_ble_eq_true rfl) (Nat.le_of_ble_eq_true rfl) (pX12_octet  ((a1 + (2 : Int32))) o3 ⟨rfl, rfl⟩) (fun zv9 wm9 hq9 => ?_)
        obtain ⟨rfl, rfl⟩ := hq9
        refine JS_callVI (M' := MX12_isKind) (d' := 1) (As := [.int (vX12_octet s (a1 + (2 : Int32)))]) (rest := []) (P := (fun zv9 wm9 => (vX12_isKind s (vX12_octet s (a1 + (2 : Int32)))) = zv9 ∧ s = wm9)) dX12_pack_82 cvX12_306 okX12_isKind rfl (Nat.le_of_ble_eq_true rfl) BS_248 (Nat.le_of_ble_eq_true rfl) (Nat.le_of_ble_eq_true rfl) hci_12 (Nat.le_of_ble_eq_true rfl) (Nat.le_of_ble_eq_true rfl) (pX12_isKind  ((vX12_octet s (a1 + (2 : Int32))))  ⟨rfl, rfl⟩) (fun zv9 wm9 hq9 => ?_)
        obtain ⟨rfl, rfl⟩ := hq9
        refine JT_if_ne (tgt := 90) dX12_pack_85 (by decide) (fun hc1 => ?_) (fun hc1 => ?_)
        · have h := h.1 hc1
          refine JT_iinc (q := 1) (v := (a1 + 3)) (lv' := [(1, .int (a1 + 3)), (0, .ref 248)]) dX12_pack_90 rfl (by rfl) (Nat.le_of_ble_eq_true rfl) rfl ?_
          refine JT_goto (tgt := 40) dX12_pack_93 (by decide) ?_
          exact JT_sub [1, 0] rfl h
        · have h := h.2 hc1
          refine JT_iconst (v := -1) dX12_pack_88 ic_m1 ?_
          exact JS_iret dX12_pack_89 rfl rfl h
set_option maxRecDepth 1000000 in
theorem bX12_pack_108 (a1 : Int32) {s : SM} {Q : Int32 → SM → Prop} (h : (((gI s 248 3) ≤ a1 → rX12_bestPack s (-1 : Int32) (0 : Int32) ∧ (∀ s1, s1 = (pI (pI (mX12_bestPack s (-1 : Int32) (0 : Int32)) 248 46 (gI (mX12_bestPack s (-1 : Int32) (0 : Int32)) 248 45)) 248 47 (gI (pI (mX12_bestPack s (-1 : Int32) (0 : Int32)) 248 46 (gI (mX12_bestPack s (-1 : Int32) (0 : Int32)) 248 45)) 248 22)) → BI MX12_pack 5 158 [(0, .ref 248), (1, .int (vX12_bestPack s (-1 : Int32) (0 : Int32))), (2, .int (0 : Int32))] s1 Q)) ∧ (¬ (gI s 248 3) ≤ a1 → rX12_octet s a1 ∧ vp_in a1 18 ∧ BI MX12_pack 5 108 [(0, .ref 248), (1, .int (a1 + 1))] (pI s 264 (a1).toNatClampNeg (vX12_octet s a1)) Q))) : BI MX12_pack 5 108 [(0, .ref 248), (1, .int a1)] s Q := by
  refine JT_iload_n (q := 1) dX12_pack_108 rfl rfl ?_
  refine JT_aload_n (q := 0) dX12_pack_109 rfl rfl ?_
  refine JS_getI dX12_pack_110 flX12_18 BS_248 (Nat.le_of_ble_eq_true rfl) (Nat.le_of_ble_eq_true rfl) (Or.inl ct_12_3) ?_
  refine JT_icmp_ge (tgt := 133) dX12_pack_113 (by decide) (fun hc5 => ?_) (fun hc5 => ?_)
  · have h := h.1 hc5
    refine JT_aload_n (q := 0) dX12_pack_133 rfl rfl ?_
    refine JT_iconst (v := -1) dX12_pack_134 ic_m1 ?_
    refine JT_iconst (v := 0) dX12_pack_135 ic_0 ?_
    obtain ⟨o2, h⟩ := h
    refine JS_callVI (M' := MX12_bestPack) (d' := 4) (As := [.int (-1 : Int32), .int (0 : Int32)]) (rest := []) (P := (fun zv9 wm9 => (vX12_bestPack s (-1 : Int32) (0 : Int32)) = zv9 ∧ (mX12_bestPack s (-1 : Int32) (0 : Int32)) = wm9)) dX12_pack_136 cvX12_430 okX12_bestPack rfl (Nat.le_of_ble_eq_true rfl) BS_248 (Nat.le_of_ble_eq_true rfl) (Nat.le_of_ble_eq_true rfl) hci_12 (Nat.le_of_ble_eq_true rfl) (Nat.le_of_ble_eq_true rfl) (pX12_bestPack  ((-1 : Int32)) ((0 : Int32)) o2 ⟨rfl, rfl⟩) (fun zv9 wm9 hq9 => ?_)
    obtain ⟨rfl, rfl⟩ := hq9
    refine JT_istore_n (lv' := [(1, .int (vX12_bestPack s (-1 : Int32) (0 : Int32))), (0, .ref 248)]) dX12_pack_139 rfl (Nat.le_of_ble_eq_true rfl) rfl ?_
    refine JT_aload_n (q := 1) dX12_pack_140 rfl rfl ?_
    refine JT_aload_n (q := 1) dX12_pack_141 rfl rfl ?_
    refine JS_getI dX12_pack_142 flX12_419 BS_248 (Nat.le_of_ble_eq_true rfl) (Nat.le_of_ble_eq_true rfl) (Or.inl ct_12_45) ?_
    refine JS_putI dX12_pack_145 flX12_95 BS_248 (Nat.le_of_ble_eq_true rfl) (Nat.le_of_ble_eq_true rfl) ct_12_46 ?_
    refine JT_aload_n (q := 1) dX12_pack_148 rfl rfl ?_
    refine JT_aload_n (q := 1) dX12_pack_149 rfl rfl ?_
    refine JS_getI dX12_pack_150 flX12_256 BS_248 (Nat.le_of_ble_eq_true rfl) (Nat.le_of_ble_eq_true rfl) (Or.inl ct_12_22) ?_
    refine JS_putI dX12_pack_153 flX12_98 BS_248 (Nat.le_of_ble_eq_true rfl) (Nat.le_of_ble_eq_true rfl) ct_12_47 ?_
    obtain ⟨s1, hs1⟩ : ∃ z, z = (pI (pI (mX12_bestPack s (-1 : Int32) (0 : Int32)) 248 46 (gI (mX12_bestPack s (-1 : Int32) (0 : Int32)) 248 45)) 248 47 (gI (pI (mX12_bestPack s (-1 : Int32) (0 : Int32)) 248 46 (gI (mX12_bestPack s (-1 : Int32) (0 : Int32)) 248 45)) 248 22)) := ⟨_, rfl⟩
    replace h := h s1 hs1
    rw [← hs1]
    refine JT_iconst (v := 0) dX12_pack_156 ic_0 ?_
    refine JT_istore_n (lv' := [(2, .int (0 : Int32)), (1, .int (vX12_bestPack s (-1 : Int32) (0 : Int32))), (0, .ref 248)]) dX12_pack_157 rfl (Nat.le_of_ble_eq_true rfl) rfl ?_
    exact JT_sub [2, 1, 0] rfl h
  · have h := h.2 hc5
    refine JT_aload_n (q := 0) dX12_pack_116 rfl rfl ?_
    refine JS_getR (x := 264) dX12_pack_117 flX12_77 BS_248 (Nat.le_of_ble_eq_true rfl) (Nat.le_of_ble_eq_true rfl) (Or.inr ⟨_, ct_12_39⟩) RF_248_39 ?_
    refine JT_iload_n (q := 1) dX12_pack_120 rfl rfl ?_
    refine JT_aload_n (q := 0) dX12_pack_121 rfl rfl ?_
    refine JT_iload_n (q := 1) dX12_pack_122 rfl rfl ?_
    obtain ⟨o4, h⟩ := h
    refine JS_callVI (M' := MX12_octet) (d' := 0) (As := [.int a1]) (rest := [.int a1, .ref 264]) (P := (fun zv9 wm9 => (vX12_octet s a1) = zv9 ∧ s = wm9)) dX12_pack_123 cvX12_427 okX12_octet rfl (Nat.le_of_ble_eq_true rfl) BS_248 (Nat.le_of_ble_eq_true rfl) (Nat.le_of_ble_eq_true rfl) hci_12 (Nat.le_of_ble_eq_true rfl) (Nat.le_of_ble_eq_true rfl) (pX12_octet  (a1) o4 ⟨rfl, rfl⟩) (fun zv9 wm9 hq9 => ?_)
    obtain ⟨rfl, rfl⟩ := hq9
    obtain ⟨o3, h⟩ := h
    refine JS_iast dX12_pack_126 BS_264 (Nat.le_of_ble_eq_true rfl) (Nat.le_of_ble_eq_true rfl) o3 ?_
    refine JT_iinc (q := 1) (v := (a1 + 1)) (lv' := [(1, .int (a1 + 1)), (0, .ref 248)]) dX12_pack_127 rfl (by rfl) (Nat.le_of_ble_eq_true rfl) rfl ?_
    refine JT_goto (tgt := 108) dX12_pack_130 (by decide) ?_
    exact JT_sub [1, 0] rfl h
set_option maxRecDepth 1000000 in
theorem bX12_pack_158 (a1 : Int32) (a2 : Int32) {s : SM} {Q : Int32 → SM → Prop} (h : (((gI s 248 3) ≤ a2 → BI MX12_pack 5 186 [(0, .ref 248), (1, .int a1), (2, .int (0 : Int32))] s Q) ∧ (¬ (gI s 248 3) ≤ a2 → vp_in a2 18 ∧ vp_in a2 18 ∧ BI MX12_pack 5 158 [(0, .ref 248), (1, .int a1), (2, .int (a2 + 1))] (pI s 265 (a2).toNatClampNeg (gI s 264 (a2).toNatClampNeg)) Q))) : BI MX12_pack 5 158 [(0, .ref 248), (1, .int a1), (2, .int a2)] s Q := by
  refine JT_iload_n (q := 2) dX12_pack_158 rfl rfl ?_
  refine JT_aload_n (q := 0) dX12_pack_159 rfl rfl ?_
  refine JS_getI dX12_pack_160 flX12_18 BS_248 (Nat.le_of_ble_eq_true rfl) (Nat.le_of_ble_eq_true rfl) (Or.inl ct_12_3) ?_
  refine JT_icmp_ge (tgt := 184) dX12_pack_163 (by decide) (fun hc3 => ?_) (fun hc3 => ?_)
  · have h := h.1 hc3
    refine JT_iconst (v := 0) dX12_pack_184 ic_0 ?_
    refine JT_istore_n (lv' := [(2, .int (0 : Int32)), (0, .ref 248), (1, .int a1)]) dX12_pack_185 rfl (Nat.le_of_ble_eq_true rfl) rfl ?_
    exact JT_sub [1, 2, 0] rfl h
  · have h := h.2 hc3
    refine JT_aload_n (q := 0) dX12_pack_166 rfl rfl ?_
    refine JS_getR (x := 265) dX12_pack_167 flX12_80 BS_248 (Nat.le_of_ble_eq_true rfl) (Nat.le_of_ble_eq_true rfl) (Or.inr ⟨_, ct_12_40⟩) RF_248_40 ?_
    refine JT_iload_n (q := 2) dX12_pack_170 rfl rfl ?_
    refine JT_aload_n (q := 0) dX12_pack_171 rfl rfl ?_
    refine JS_getR (x := 264) dX12_pack_172 flX12_77 BS_248 (Nat.le_of_ble_eq_true rfl) (Nat.le_of_ble_eq_true rfl) (Or.inr ⟨_, ct_12_39⟩) RF_248_39 ?_
    refine JT_iload_n (q := 2) dX12_pack_175 rfl rfl ?_
    obtain ⟨o1, h⟩ := h
    refine JS_iald dX12_pack_176 BS_264 (Nat.le_of_ble_eq_true rfl) (Nat.le_of_ble_eq_true rfl) o1 ?_
    obtain ⟨o2, h⟩ := h
    refine JS_iast dX12_pack_177 BS_265 (Nat.le_of_ble_eq_true rfl) (Nat.le_of_ble_eq_true rfl) o2 ?_
    refine JT_iinc (q := 2) (v := (a2 + 1)) (lv' := [(2, .int (a2 + 1)), (0, .ref 248), (1, .int a1)]) dX12_pack_178 rfl (by rfl) (Nat.le_of_ble_eq_true rfl) rfl ?_
    refine JT_goto (tgt := 158) dX12_pack_181 (by decide) ?_
    exact JT_sub [1, 2, 0] rfl h
set_option maxRecDepth 1000000 in
theorem bX12_pack_186 (a1 : Int32) (a2 : Int32) {s : SM} {Q : Int32 → SM → Prop} (h : (((gI s 248 45) ≤ a2 → Q a1 s) ∧ (¬ (gI s 248 45) ≤ a2 → vp_in a2 6 ∧ vp_in a2 6 ∧ BI MX12_pack 5 186 [(0, .ref 248), (1, .int a1), (2, .int (a2 + 1))] (pI s 268 (a2).toNatClampNeg (gI s 267 (a2).toNatClampNeg)) Q))) : BI MX12_pack 5 186 [(0, .ref 248), (1, .int a1), (2, .int a2)] s Q := by
  refine JT_iload_n (q := 2) dX12_pack_186 rfl rfl ?_
  refine JT_aload_n (q := 0) dX12_pack_187 rfl rfl ?_
  refine JS_getI dX12_pack_188 flX12_419 BS_248 (Nat.le_of_ble_eq_true rfl) (Nat.le_of_ble_eq_true rfl) (Or.inl ct_12_45) ?_
  refine JT_icmp_ge (tgt := 212) dX12_pack_191 (by decide) (fun hc3 => ?_) (fun hc3 => ?_)
  · have h := h.1 hc3
    refine JT_iload_n (q := 1) dX12_pack_212 rfl rfl ?_
    exact JS_iret dX12_pack_213 rfl rfl h
  · have h := h.2 hc3
    refine JT_aload_n (q := 0) dX12_pack_194 rfl rfl ?_
    refine JS_getR (x := 268) dX12_pack_195 flX12_89 BS_248 (Nat.le_of_ble_eq_true rfl) (Nat.le_of_ble_eq_true rfl) (Or.inr ⟨_, ct_12_43⟩) RF_248_43 ?_
    refine JT_iload_n (q := 2) dX12_pack_198 rfl rfl ?_
    refine JT_aload_n (q := 0) dX12_pack_199 rfl rfl ?_
    refine JS_getR (x := 267) dX12_pack_200 flX12_86 BS_248 (Nat.le_of_ble_eq_true rfl) (Nat.le_of_ble_eq_true rfl) (Or.inr ⟨_, ct_12_42⟩) RF_248_42 ?_
    refine JT_iload_n (q := 2) dX12_pack_203 rfl rfl ?_
    obtain ⟨o1, h⟩ := h
    refine JS_iald dX12_pack_204 BS_267 (Nat.le_of_ble_eq_true rfl) (Nat.le_of_ble_eq_true rfl) o1 ?_
    obtain ⟨o2, h⟩ := h
    refine JS_iast dX12_pack_205 BS_268 (Nat.le_of_ble_eq_true rfl) (Nat.le_of_ble_eq_true rfl) o2 ?_
    refine JT_iinc (q := 2) (v := (a2 + 1)) (lv' := [(2, .int (a2 + 1)), (0, .ref 248), (1, .int a1)]) dX12_pack_206 rfl (by rfl) (Nat.le_of_ble_eq_true rfl) rfl ?_
    refine JT_goto (tgt := 186) dX12_pack_209 (by decide) ?_
    exact JT_sub [1, 2, 0] rfl h
set_option maxRecDepth 1000000 in
theorem bX12_pack  {s : SM} {Q : Int32 → SM → Prop} (h : ((¬ ((gI (mX12_taken (pI s 248 0 (0 : Int32)) (640 : Int32)) 248 3) - (gI (mX12_taken (pI s 248 0 (0 : Int32)) (640 : Int32)) 248 3) / (3 : Int32) * (3 : Int32)) = 0 → Q (-1 : Int32) (mX12_taken (pI s 248 0 (0 : Int32)) (640 : Int32))) ∧ (((gI (mX12_taken (pI s 248 0 (0 : Int32)) (640 : Int32)) 248 3) - (gI (mX12_taken (pI s 248 0 (0 : Int32)) (640 : Int32)) 248 3) / (3 : Int32) * (3 : Int32)) = 0 → ((¬ (vX12_isIn (mX12_taken (pI s 248 0 (0 : Int32)) (640 : Int32)) ((gI (mX12_taken (pI s 248 0 (0 : Int32)) (640 : Int32)) 248 3) / (3 : Int32)) (1 : Int32) (6 : Int32)) = 0 → BI MX12_pack 5 40 [(0, .ref 248), (1, .int (0 : Int32))] (mX12_taken (pI s 248 0 (0 : Int32)) (640 : Int32)) Q) ∧ ((vX12_isIn (mX12_taken (pI s 248 0 (0 : Int32)) (640 : Int32)) ((gI (mX12_taken (pI s 248 0 (0 : Int32)) (640 : Int32)) 248 3) / (3 : Int32)) (1 : Int32) (6 : Int32)) = 0 → Q (-1 : Int32) (mX12_taken (pI s 248 0 (0 : Int32)) (640 : Int32))))))) : KI MX12_pack 5 [.ref 248] s Q := by
  show BI MX12_pack 5 0 [(0, .ref 248)] s Q
  refine JT_aload_n (q := 0) dX12_pack_0 rfl rfl ?_
  refine JT_iconst (v := 0) dX12_pack_1 ic_0 ?_
  refine JS_putI dX12_pack_2 flX12_1 BS_248 (Nat.le_of_ble_eq_true rfl) (Nat.le_of_ble_eq_true rfl) ct_12_0 ?_
  refine JT_aload_n (q := 0) dX12_pack_5 rfl rfl ?_
  refine JT_sipush (v := 640) dX12_pack_6 sp_640 ?_
  refine JS_callVV (M' := MX12_taken) (d' := 0) (As := [.int (640 : Int32)]) (rest := []) (P := (fun wm9 => (mX12_taken (pI s 248 0 (0 : Int32)) (640 : Int32)) = wm9)) dX12_pack_9 cvX12_238 okX12_taken rfl (Nat.le_of_ble_eq_true rfl) BS_248 (Nat.le_of_ble_eq_true rfl) (Nat.le_of_ble_eq_true rfl) hci_12 (Nat.le_of_ble_eq_true rfl) (Nat.le_of_ble_eq_true rfl) (pX12_taken  ((640 : Int32))  rfl) (fun wm9 hq9 => ?_)
  subst hq9
  refine JT_aload_n (q := 0) dX12_pack_12 rfl rfl ?_
  refine JS_getI dX12_pack_13 flX12_18 BS_248 (Nat.le_of_ble_eq_true rfl) (Nat.le_of_ble_eq_true rfl) (Or.inl ct_12_3) ?_
  refine JT_iconst (v := 3) dX12_pack_16 ic_3 ?_
  refine JT_irem dX12_pack_17 (by decide) ?_
  refine JT_if_ne (tgt := 36) dX12_pack_18 (by decide) (fun hc3 => ?_) (fun hc3 => ?_)
  · have h := h.1 hc3
    refine JT_iconst (v := -1) dX12_pack_36 ic_m1 ?_
    exact JS_iret dX12_pack_37 rfl rfl h
  · have h := h.2 hc3
    refine JT_aload_n (q := 0) dX12_pack_21 rfl rfl ?_
    refine JS_getI dX12_pack_22 flX12_18 BS_248 (Nat.le_of_ble_eq_true rfl) (Nat.le_of_ble_eq_true rfl) (Or.inl ct_12_3) ?_
    refine JT_iconst (v := 3) dX12_pack_25 ic_3 ?_
    refine JT_idiv dX12_pack_26 (by decide) ?_
    refine JT_iconst (v := 1) dX12_pack_27 ic_1 ?_
    refine JT_bipush (v := 6) dX12_pack_28 bp_6 ?_
    refine JS_callSI (M' := MX12_isIn) (d' := 0) (As := [.int ((gI (mX12_taken (pI s 248 0 (0 : Int32)) (640 : Int32)) 248 3) / (3 : Int32)), .int (1 : Int32), .int (6 : Int32)]) (rest := []) (P := (fun zv9 wm9 => (vX12_isIn (mX12_taken (pI s 248 0 (0 : Int32)) (640 : Int32)) ((gI (mX12_taken (pI s 248 0 (0 : Int32)) (640 : Int32)) 248 3) / (3 : Int32)) (1 : Int32) (6 : Int32)) = zv9 ∧ (mX12_taken (pI s 248 0 (0 : Int32)) (640 : Int32)) = wm9)) dX12_pack_30 cvX12_202 okX12_isIn rfl (Nat.le_of_ble_eq_true rfl) (Nat.le_of_ble_eq_true rfl) (Nat.le_of_ble_eq_true rfl) (pX12_isIn  (((gI (mX12_taken (pI s 248 0 (0 : Int32)) (640 : Int32)) 248 3) / (3 : Int32))) ((1 : Int32)) ((6 : Int32))  ⟨rfl, rfl⟩) (fun zv9 wm9 hq9 => ?_)
    obtain ⟨rfl, rfl⟩ := hq9
    refine JT_if_ne (tgt := 38) dX12_pack_33 (by decide) (fun hc1 => ?_) (fun hc1 => ?_)
    · have h := h.1 hc1
      refine JT_iconst (v := 0) dX12_pack_38 ic_0 ?_
      refine JT_istore_n (lv' := [(1, .int (0 : Int32)), (0, .ref 248)]) dX12_pack_39 rfl (Nat.le_of_ble_eq_true rfl) rfl ?_
      exact JT_sub [1, 0] rfl h
    · have h := h.2 hc1
      refine JT_iconst (v := -1) dX12_pack_36 ic_m1 ?_
      exact JS_iret dX12_pack_37 rfl rfl h
set_option maxRecDepth 1000000 in
theorem gX12_pack  : ∀ n : Nat, (∀ (a1 : Int32) (s : SM) (Q : Int32 → SM → Prop), ((qX12_pack n).1 s a1) → Q ((lX12_pack n).1 s a1).1 ((lX12_pack n).1 s a1).2 → BI MX12_pack 5 40 [(0, .ref 248), (1, .int a1)] s Q) ∧ (∀ (a1 : Int32) (s : SM) (Q : Int32 → SM → Prop), ((qX12_pack n).2.1 s a1) → Q ((lX12_pack n).2.1 s a1).1 ((lX12_pack n).2.1 s a1).2 → BI MX12_pack 5 108 [(0, .ref 248), (1, .int a1)] s Q) ∧ (∀ (a1 : Int32) (a2 : Int32) (s : SM) (Q : Int32 → SM → Prop), ((qX12_pack n).2.2.1 s a1 a2) → Q ((lX12_pack n).2.2.1 s a1 a2).1 ((lX12_pack n).2.2.1 s a1 a2).2 → BI MX12_pack 5 158 [(0, .ref 248), (1, .int a1), (2, .int a2)] s Q) ∧ (∀ (a1 : Int32) (a2 : Int32) (s : SM) (Q : Int32 → SM → Prop), ((qX12_pack n).2.2.2 s a1 a2) → Q ((lX12_pack n).2.2.2 s a1 a2).1 ((lX12_pack n).2.2.2 s a1 a2).2 → BI MX12_pack 5 186 [(0, .ref 248), (1, .int a1), (2, .int a2)] s Q) := by
  intro n
  induction n with
  | zero => exact ⟨fun _ _ _ hq _ => absurd hq id, fun _ _ _ hq _ => absurd hq id, fun _ _ _ _ hq _ => absurd hq id, fun _ _ _ _ hq _ => absurd hq id⟩
  | succ n ih =>
    refine ⟨?_, ?_, ?_, ?_⟩
    · intro a1 s Q hr h
      replace hr : uX12_pack_40 (qX12_pack n) s a1 := hr
      replace h : Q (tX12_pack_40 (lX12_pack n) s a1).1 (tX12_pack_40 (lX12_pack n) s a1).2 := h
      unfold uX12_pack_40 at hr
      unfold tX12_pack_40 at h
      refine bX12_pack_40 a1 ?_
      refine ⟨fun c => ?_, fun c => ?_⟩
      · replace hr := hr.1 c
        replace h := q3p c h
        first | exact ih.2.1 (0 : Int32) _ Q hr h | contradiction
      · replace hr := hr.2 c
        replace h := q3n c h
        refine ⟨hr.1, ?_⟩
        replace hr := hr.2
        refine ⟨fun c => ?_, fun c => ?_⟩
        · replace h := q3p c h
          first | exact h | contradiction
        · replace hr := hr c
          replace h := q3n c h
          refine ⟨hr.1, ?_⟩
          replace hr := hr.2
          refine ⟨fun c => ?_, fun c => ?_⟩
          · replace h := q3p c h
            first | exact h | contradiction
          · replace hr := hr c
            replace h := q3n c h
            refine ⟨hr.1, ?_⟩
            replace hr := hr.2
            refine ⟨fun c => ?_, fun c => ?_⟩
            · replace hr := hr c
              replace h := q3n c h
              first | exact ih.1 (a1 + 3) _ Q hr h | contradiction
            · replace h := q3p c h
              first | exact h | contradiction
    · intro a1 s Q hr h
      replace hr : uX12_pack_108 (qX12_pack n) s a1 := hr
      replace h : Q (tX12_pack_108 (lX12_pack n) s a1).1 (tX12_pack_108 (lX12_pack n) s a1).2 := h
      unfold uX12_pack_108 at hr
      unfold tX12_pack_108 at h
      refine bX12_pack_108 a1 ?_
      refine ⟨fun c => ?_, fun c => ?_⟩
      · replace hr := hr.1 c
        replace h := q3p c h
        refine ⟨hr.1, ?_⟩
        replace hr := hr.2
        intro s1 e9
        replace hr := hr s1 e9
        try rw [← e9] at h
        try dsimp only at h
        first | exact ih.2.2.1 (vX12_bestPack s (-1 : Int32) (0 : Int32)) (0 : Int32) _ Q hr h | contradiction
      · replace hr := hr.2 c
        replace h := q3n c h
        refine ⟨hr.1, ?_⟩
        replace hr := hr.2
        refine ⟨hr.1, ?_⟩
        replace hr := hr.2
        first | exact ih.2.1 (a1 + 1) _ Q hr h | contradiction
    · intro a1 a2 s Q hr h
      replace hr : uX12_pack_158 (qX12_pack n) s a1 a2 := hr
      replace h : Q (tX12_pack_158 (lX12_pack n) s a1 a2).1 (tX12_pack_158 (lX12_pack n) s a1 a2).2 := h
      unfold uX12_pack_158 at hr
      unfold tX12_pack_158 at h
      refine bX12_pack_158 a1 a2 ?_
      refine ⟨fun c => ?_, fun c => ?_⟩
      · replace hr := hr.1 c
        replace h := q3p c h
        first | exact ih.2.2.2 a1 (0 : Int32) _ Q hr h | contradiction
      · replace hr := hr.2 c
        replace h := q3n c h
        refine ⟨hr.1, ?_⟩
        replace hr := hr.2
        refine ⟨hr.1, ?_⟩
        replace hr := hr.2
        first | exact ih.2.2.1 a1 (a2 + 1) _ Q hr h | contradiction
    · intro a1 a2 s Q hr h
      replace hr : uX12_pack_186 (qX12_pack n) s a1 a2 := hr
      replace h : Q (tX12_pack_186 (lX12_pack n) s a1 a2).1 (tX12_pack_186 (lX12_pack n) s a1 a2).2 := h
      unfold uX12_pack_186 at hr
      unfold tX12_pack_186 at h
      refine bX12_pack_186 a1 a2 ?_
      refine ⟨fun c => ?_, fun c => ?_⟩
      · replace h := q3p c h
        first | exact h | contradiction
      · replace hr := hr c
        replace h := q3n c h
        refine ⟨hr.1, ?_⟩
        replace hr := hr.2
        refine ⟨hr.1, ?_⟩
        replace hr := hr.2
        first | exact ih.2.2.2 a1 (a2 + 1) _ Q hr h | contradiction
set_option maxRecDepth 1000000 in
theorem pX12_pack  {s : SM} {Q : Int32 → SM → Prop} (hr : rX12_pack s ) (h : Q (vX12_pack s ) (mX12_pack s )) : KI MX12_pack 5 [.ref 248] s Q := by
  replace h : Q (fX12_pack s ).1 (fX12_pack s ).2 := h
  unfold rX12_pack at hr
  unfold fX12_pack at h
  refine bX12_pack  ?_
  refine ⟨fun c => ?_, fun c => ?_⟩
  · replace h := q3n c h
    first | exact h | contradiction
  · replace hr := hr c
    replace h := q3p c h
    refine ⟨fun c => ?_, fun c => ?_⟩
    · replace hr := hr c
      replace h := q3n c h
      first | exact (gX12_pack  FU).1 (0 : Int32) _ Q hr h | contradiction
    · replace h := q3p c h
      first | exact h | contradiction
set_option maxRecDepth 1000000 in
theorem bX12_price_53 (a1 : Int32) (a2 : Int32) (a3 : Int32) {s : SM} {Q : Int32 → SM → Prop} (h : ((((3 : Int32) * (gI s 248 45)) ≤ a3 → rX12_bestPack s (-1 : Int32) (0 : Int32) ∧ rX12_bestPack (mX12_bestPack s (-1 : Int32) (0 : Int32)) a1 a2 ∧ Q ((vX12_bestPack (mX12_bestPack s (-1 : Int32) (0 : Int32)) a1 a2) - (vX12_bestPack s (-1 : Int32) (0 : Int32))) (mX12_bestPack (mX12_bestPack s (-1 : Int32) (0 : Int32)) a1 a2)) ∧ (¬ ((3 : Int32) * (gI s 248 45)) ≤ a3 → vp_in a3 18 ∧ vp_in a3 18 ∧ BI MX12_price 5 53 [(0, .ref 248), (1, .int a1), (2, .int a2), (3, .int (a3 + 1))] (pI s 264 (a3).toNatClampNeg (gI s 265 (a3).toNatClampNeg)) Q))) : BI MX12_price 5 53 [(0, .ref 248), (1, .int a1), (2, .int a2), (3, .int a3)] s Q := by
  refine JT_iload_n (q := 3) dX12_price_53 rfl rfl ?_
  refine JT_iconst (v := 3) dX12_price_54 ic_3 ?_
  refine JT_aload_n (q := 0) dX12_price_55 rfl rfl ?_
  refine JS_getI dX12_price_56 flX12_419 BS_248 (Nat.le_of_ble_eq_true rfl) (Nat.le_of_ble_eq_true rfl) (Or.inl ct_12_45) ?_
  refine JT_imul dX12_price_59 ?_
  refine JT_icmp_ge (tgt := 81) dX12_price_60 (by decide) (fun hc5 => ?_) (fun hc5 => ?_)
  · have h := h.1 hc5
    refine JT_aload_n (q := 0) dX12_price_81 rfl rfl ?_
    refine JT_iconst (v := -1) dX12_price_82 ic_m1 ?_
    refine JT_iconst (v := 0) dX12_price_83 ic_0 ?_
    obtain ⟨o2, h⟩ := h
    refine JS_callVI (M' := MX12_bestPack) (d' := 4) (As := [.int (-1 : Int32), .int (0 : Int32)]) (rest := []) (P := (fun zv9 wm9 => (vX12_bestPack s (-1 : Int32) (0 : Int32)) = zv9 ∧ (mX12_bestPack s (-1 : Int32) (0 : Int32)) = wm9)) dX12_price_84 cvX12_430 okX12_bestPack rfl (Nat.le_of_ble_eq_true rfl) BS_248 (Nat.le_of_ble_eq_true rfl) (Nat.le_of_ble_eq_true rfl) hci_12 (Nat.le_of_ble_eq_true rfl) (Nat.le_of_ble_eq_true rfl) (pX12_bestPack  ((-1 : Int32)) ((0 : Int32)) o2 ⟨rfl, rfl⟩) (fun zv9 wm9 hq9 => ?_)
    obtain ⟨rfl, rfl⟩ := hq9
    refine JT_istore_n (lv' := [(3, .int (vX12_bestPack s (-1 : Int32) (0 : Int32))), (0, .ref 248), (1, .int a1), (2, .int a2)]) dX12_price_87 rfl (Nat.le_of_ble_eq_true rfl) rfl ?_
    refine JT_aload_n (q := 1) dX12_price_88 rfl rfl ?_
    refine JT_iload_n (q := 2) dX12_price_89 rfl rfl ?_
    refine JT_iload_n (q := 3) dX12_price_90 rfl rfl ?_
    obtain ⟨o1, h⟩ := h
    refine JS_callVI (M' := MX12_bestPack) (d' := 4) (As := [.int a1, .int a2]) (rest := []) (P := (fun zv9 wm9 => (vX12_bestPack (mX12_bestPack s (-1 : Int32) (0 : Int32)) a1 a2) = zv9 ∧ (mX12_bestPack (mX12_bestPack s (-1 : Int32) (0 : Int32)) a1 a2) = wm9)) dX12_price_91 cvX12_430 okX12_bestPack rfl (Nat.le_of_ble_eq_true rfl) BS_248 (Nat.le_of_ble_eq_true rfl) (Nat.le_of_ble_eq_true rfl) hci_12 (Nat.le_of_ble_eq_true rfl) (Nat.le_of_ble_eq_true rfl) (pX12_bestPack  (a1) (a2) o1 ⟨rfl, rfl⟩) (fun zv9 wm9 hq9 => ?_)
    obtain ⟨rfl, rfl⟩ := hq9
    refine JT_iload_n (q := 0) dX12_price_94 rfl rfl ?_
    refine JT_isub dX12_price_95 ?_
    exact JS_iret dX12_price_96 rfl rfl h
  · have h := h.2 hc5
    refine JT_aload_n (q := 0) dX12_price_63 rfl rfl ?_
    refine JS_getR (x := 264) dX12_price_64 flX12_77 BS_248 (Nat.le_of_ble_eq_true rfl) (Nat.le_of_ble_eq_true rfl) (Or.inr ⟨_, ct_12_39⟩) RF_248_39 ?_
    refine JT_iload_n (q := 3) dX12_price_67 rfl rfl ?_
    refine JT_aload_n (q := 0) dX12_price_68 rfl rfl ?_
    refine JS_getR (x := 265) dX12_price_69 flX12_80 BS_248 (Nat.le_of_ble_eq_true rfl) (Nat.le_of_ble_eq_true rfl) (Or.inr ⟨_, ct_12_40⟩) RF_248_40 ?_
    refine JT_iload_n (q := 3) dX12_price_72 rfl rfl ?_
    obtain ⟨o3, h⟩ := h
    refine JS_iald dX12_price_73 BS_265 (Nat.le_of_ble_eq_true rfl) (Nat.le_of_ble_eq_true rfl) o3 ?_
    obtain ⟨o4, h⟩ := h
    refine JS_iast dX12_price_74 BS_264 (Nat.le_of_ble_eq_true rfl) (Nat.le_of_ble_eq_true rfl) o4 ?_
    refine JT_iinc (q := 3) (v := (a3 + 1)) (lv' := [(3, .int (a3 + 1)), (0, .ref 248), (1, .int a1), (2, .int a2)]) dX12_price_75 rfl (by rfl) (Nat.le_of_ble_eq_true rfl) rfl ?_
    refine JT_goto (tgt := 53) dX12_price_78 (by decide) ?_
    exact JT_sub [1, 2, 3, 0] rfl h
set_option maxRecDepth 1000000 in
theorem bX12_price (a1 : Int32) (a2 : Int32) {s : SM} {Q : Int32 → SM → Prop} (h : (((vX12_isBody (pI s 248 0 (0 : Int32)) a1) = 0 → Q (-1 : Int32) (pI s 248 0 (0 : Int32))) ∧ (¬ (vX12_isBody (pI s 248 0 (0 : Int32)) a1) = 0 → (((vX12_isIn (pI s 248 0 (0 : Int32)) a2 (1 : Int32) (99 : Int32)) = 0 → Q (-1 : Int32) (pI s 248 0 (0 : Int32))) ∧ (¬ (vX12_isIn (pI s 248 0 (0 : Int32)) a2 (1 : Int32) (99 : Int32)) = 0 → (((gI (pI s 248 0 (0 : Int32)) 248 46) < 0 → Q (-1 : Int32) (pI s 248 0 (0 : Int32))) ∧ (¬ (gI (pI s 248 0 (0 : Int32)) 248 46) < 0 → (((gI (pI s 248 0 (0 : Int32)) 248 47) = (gI (pI s 248 0 (0 : Int32)) 248 22) → BI MX12_price 5 53 [(0, .ref 248), (1, .int a1), (2, .int a2), (3, .int (0 : Int32))] (pI (pI s 248 0 (0 : Int32)) 248 45 (gI (pI s 248 0 (0 : Int32)) 248 46)) Q) ∧ (¬ (gI (pI s 248 0 (0 : Int32)) 248 47) = (gI (pI s 248 0 (0 : Int32)) 248 22) → Q (-1 : Int32) (pI s 248 0 (0 : Int32))))))))))) : KI MX12_price 5 [.ref 248, .int a1, .int a2] s Q := by
  show BI MX12_price 5 0 [(0, .ref 248), (1, .int a1), (2, .int a2)] s Q
  refine JT_aload_n (q := 0) dX12_price_0 rfl rfl ?_
  refine JT_iconst (v := 0) dX12_price_1 ic_0 ?_
  refine JS_putI dX12_price_2 flX12_1 BS_248 (Nat.le_of_ble_eq_true rfl) (Nat.le_of_ble_eq_true rfl) ct_12_0 ?_
  refine JT_aload_n (q := 0) dX12_price_5 rfl rfl ?_
  refine JT_iload_n (q := 1) dX12_price_6 rfl rfl ?_
  refine JS_callVI (M' := MX12_isBody) (d' := 1) (As := [.int a1]) (rest := []) (P := (fun zv9 wm9 => (vX12_isBody (pI s 248 0 (0 : Int32)) a1) = zv9 ∧ (pI s 248 0 (0 : Int32)) = wm9)) dX12_price_7 cvX12_287 okX12_isBody rfl (Nat.le_of_ble_eq_true rfl) BS_248 (Nat.le_of_ble_eq_true rfl) (Nat.le_of_ble_eq_true rfl) hci_12 (Nat.le_of_ble_eq_true rfl) (Nat.le_of_ble_eq_true rfl) (pX12_isBody  (a1)  ⟨rfl, rfl⟩) (fun zv9 wm9 hq9 => ?_)
  obtain ⟨rfl, rfl⟩ := hq9
  refine JT_if_eq (tgt := 41) dX12_price_10 (by decide) (fun hc5 => ?_) (fun hc5 => ?_)
  · have h := h.1 hc5
    refine JT_iconst (v := -1) dX12_price_41 ic_m1 ?_
    exact JS_iret dX12_price_42 rfl rfl h
  · have h := h.2 hc5
    refine JT_iload_n (q := 2) dX12_price_13 rfl rfl ?_
    refine JT_iconst (v := 1) dX12_price_14 ic_1 ?_
    refine JT_bipush (v := 99) dX12_price_15 bp_99 ?_
    refine JS_callSI (M' := MX12_isIn) (d' := 0) (As := [.int a2, .int (1 : Int32), .int (99 : Int32)]) (rest := []) (P := (fun zv9 wm9 => (vX12_isIn (pI s 248 0 (0 : Int32)) a2 (1 : Int32) (99 : Int32)) = zv9 ∧ (pI s 248 0 (0 : Int32)) = wm9)) dX12_price_17 cvX12_202 okX12_isIn rfl (Nat.le_of_ble_eq_true rfl) (Nat.le_of_ble_eq_true rfl) (Nat.le_of_ble_eq_true rfl) (pX12_isIn  (a2) ((1 : Int32)) ((99 : Int32))  ⟨rfl, rfl⟩) (fun zv9 wm9 hq9 => ?_)
    obtain ⟨rfl, rfl⟩ := hq9
    refine JT_if_eq (tgt := 41) dX12_price_20 (by decide) (fun hc3 => ?_) (fun hc3 => ?_)
    · have h := h.1 hc3
      refine JT_iconst (v := -1) dX12_price_41 ic_m1 ?_
      exact JS_iret dX12_price_42 rfl rfl h
    · have h := h.2 hc3
      refine JT_aload_n (q := 0) dX12_price_23 rfl rfl ?_
      refine JS_getI dX12_price_24 flX12_95 BS_248 (Nat.le_of_ble_eq_true rfl) (Nat.le_of_ble_eq_true rfl) (Or.inl ct_12_46) ?_
      refine JT_if_lt (tgt := 41) dX12_price_27 (by decide) (fun hc2 => ?_) (fun hc2 => ?_)
      · have h := h.1 hc2
        refine JT_iconst (v := -1) dX12_price_41 ic_m1 ?_
        exact JS_iret dX12_price_42 rfl rfl h
      · have h := h.2 hc2
        refine JT_aload_n (q := 0) dX12_price_30 rfl rfl ?_
        refine JS_getI dX12_price_31 flX12_98 BS_248 (Nat.le_of_ble_eq_true rfl) (Nat.le_of_ble_eq_true rfl) (Or.inl ct_12_47) ?_
        refine JT_aload_n (q := 0) dX12_price_34 rfl rfl ?_
        refine JS_getI dX12_price_35 flX12_256 BS_248 (Nat.le_of_ble_eq_true rfl) (Nat.le_of_ble_eq_true rfl) (Or.inl ct_12_22) ?_
        refine JT_icmp_eq (tgt := 43) dX12_price_38 (by decide) (fun hc1 => ?_) (fun hc1 => ?_)
        · have h := h.1 hc1
          refine JT_aload_n (q := 0) dX12_price_43 rfl rfl ?_
          refine JT_aload_n (q := 0) dX12_price_44 rfl rfl ?_
          refine JS_getI dX12_price_45 flX12_95 BS_248 (Nat.le_of_ble_eq_true rfl) (Nat.le_of_ble_eq_true rfl) (Or.inl ct_12_46) ?_
          refine JS_putI dX12_price_48 flX12_419 BS_248 (Nat.le_of_ble_eq_true rfl) (Nat.le_of_ble_eq_true rfl) ct_12_45 ?_
          refine JT_iconst (v := 0) dX12_price_51 ic_0 ?_
          refine JT_istore_n (lv' := [(3, .int (0 : Int32)), (0, .ref 248), (1, .int a1), (2, .int a2)]) dX12_price_52 rfl (Nat.le_of_ble_eq_true rfl) rfl ?_
          exact JT_sub [1, 2, 3, 0] rfl h
        · have h := h.2 hc1
          refine JT_iconst (v := -1) dX12_price_41 ic_m1 ?_
          exact JS_iret dX12_price_42 rfl rfl h
set_option maxRecDepth 1000000 in
theorem gX12_price  : ∀ n : Nat, (∀ (a1 : Int32) (a2 : Int32) (a3 : Int32) (s : SM) (Q : Int32 → SM → Prop), ((qX12_price n) s a1 a2 a3) → Q ((lX12_price n) s a1 a2 a3).1 ((lX12_price n) s a1 a2 a3).2 → BI MX12_price 5 53 [(0, .ref 248), (1, .int a1), (2, .int a2), (3, .int a3)] s Q) := by
  intro n
  induction n with
  | zero => exact fun _ _ _ _ _ hq _ => absurd hq id
  | succ n ih =>
    intro a1 a2 a3 s Q hr h
    replace hr : uX12_price_53 (qX12_price n) s a1 a2 a3 := hr
    replace h : Q (tX12_price_53 (lX12_price n) s a1 a2 a3).1 (tX12_price_53 (lX12_price n) s a1 a2 a3).2 := h
    unfold uX12_price_53 at hr
    unfold tX12_price_53 at h
    refine bX12_price_53 a1 a2 a3 ?_
    refine ⟨fun c => ?_, fun c => ?_⟩
    · replace hr := hr.1 c
      replace h := q3p c h
      refine ⟨hr.1, ?_⟩
      replace hr := hr.2
      refine ⟨hr, ?_⟩
      first | exact h | contradiction
    · replace hr := hr.2 c
      replace h := q3n c h
      refine ⟨hr.1, ?_⟩
      replace hr := hr.2
      refine ⟨hr.1, ?_⟩
      replace hr := hr.2
      first | exact ih a1 a2 (a3 + 1) _ Q hr h | contradiction
set_option maxRecDepth 1000000 in
theorem pX12_price (a1 : Int32) (a2 : Int32) {s : SM} {Q : Int32 → SM → Prop} (hr : rX12_price s a1 a2) (h : Q (vX12_price s a1 a2) (mX12_price s a1 a2)) : KI MX12_price 5 [.ref 248, .int a1, .int a2] s Q := by
  replace h : Q (fX12_price s a1 a2).1 (fX12_price s a1 a2).2 := h
  unfold rX12_price at hr
  unfold fX12_price at h
  refine bX12_price a1 a2 ?_
  refine ⟨fun c => ?_, fun c => ?_⟩
  · replace h := q3p c h
    first | exact h | contradiction
  · replace hr := hr c
    replace h := q3n c h
    refine ⟨fun c => ?_, fun c => ?_⟩
    · replace h := q3p c h
      first | exact h | contradiction
    · replace hr := hr c
      replace h := q3n c h
      refine ⟨fun c => ?_, fun c => ?_⟩
      · replace h := q3p c h
        first | exact h | contradiction
      · replace hr := hr c
        replace h := q3n c h
        refine ⟨fun c => ?_, fun c => ?_⟩
        · replace hr := hr c
          replace h := q3p c h
          first | exact (gX12_price  FU) a1 a2 (0 : Int32) _ Q hr h | contradiction
        · replace h := q3n c h
          first | exact h | contradiction
set_option maxRecDepth 1000000 in
theorem bX12_write (a1 : Int32) (a2 : Int32) (a3 : Int32) (a4 : Int32) {s : SM} {Q : Int32 → SM → Prop} (h : (((vX12_isBody (pI s 248 0 (0 : Int32)) a1) = 0 → Q (-1 : Int32) (pI s 248 0 (0 : Int32))) ∧ (¬ (vX12_isBody (pI s 248 0 (0 : Int32)) a1) = 0 → (((vX12_isBody (pI s 248 0 (0 : Int32)) a2) = 0 → Q (-1 : Int32) (pI s 248 0 (0 : Int32))) ∧ (¬ (vX12_isBody (pI s 248 0 (0 : Int32)) a2) = 0 → (((vX12_isKind (pI s 248 0 (0 : Int32)) a4) = 0 → Q (-1 : Int32) (pI s 248 0 (0 : Int32))) ∧ (¬ (vX12_isKind (pI s 248 0 (0 : Int32)) a4) = 0 → ((¬ (vX12_isIn (pI s 248 0 (0 : Int32)) a3 (1 : Int32) (99 : Int32)) = 0 → rX12_whyWrite (pI s 248 0 (0 : Int32)) a1 a2 a4 ∧ (((vX12_whyWrite (pI s 248 0 (0 : Int32)) a1 a2 a4) ≤ 0 → rX12_keep (pI s 248 0 (0 : Int32))  ∧ rX12_writes (mX12_keep (pI s 248 0 (0 : Int32)) ) a1 a2 a3 a4 ∧ Q ((gI (mX12_writes (mX12_keep (pI s 248 0 (0 : Int32)) ) a1 a2 a3 a4) 250 ((34 : Int32)).toNatClampNeg) - (1 : Int32)) (mX12_writes (mX12_keep (pI s 248 0 (0 : Int32)) ) a1 a2 a3 a4)) ∧ (¬ (vX12_whyWrite (pI s 248 0 (0 : Int32)) a1 a2 a4) ≤ 0 → Q ((-10 : Int32) - (vX12_whyWrite (pI s 248 0 (0 : Int32)) a1 a2 a4)) (pI s 248 0 (0 : Int32))))) ∧ ((vX12_isIn (pI s 248 0 (0 : Int32)) a3 (1 : Int32) (99 : Int32)) = 0 → Q (-1 : Int32) (pI s 248 0 (0 : Int32))))))))))) : KI MX12_write 5 [.ref 248, .int a1, .int a2, .int a3, .int a4] s Q := by
  show BI MX12_write 5 0 [(0, .ref 248), (1, .int a1), (2, .int a2), (3, .int a3), (4, .int a4)] s Q
  refine JT_aload_n (q := 0) dX12_write_0 rfl rfl ?_
  refine JT_iconst (v := 0) dX12_write_1 ic_0 ?_
  refine JS_putI dX12_write_2 flX12_1 BS_248 (Nat.le_of_ble_eq_true rfl) (Nat.le_of_ble_eq_true rfl) ct_12_0 ?_
  refine JT_aload_n (q := 0) dX12_write_5 rfl rfl ?_
  refine JT_iload_n (q := 1) dX12_write_6 rfl rfl ?_
  refine JS_callVI (M' := MX12_isBody) (d' := 1) (As := [.int a1]) (rest := []) (P := (fun zv9 wm9 => (vX12_isBody (pI s 248 0 (0 : Int32)) a1) = zv9 ∧ (pI s 248 0 (0 : Int32)) = wm9)) dX12_write_7 cvX12_287 okX12_isBody rfl (Nat.le_of_ble_eq_true rfl) BS_248 (Nat.le_of_ble_eq_true rfl) (Nat.le_of_ble_eq_true rfl) hci_12 (Nat.le_of_ble_eq_true rfl) (Nat.le_of_ble_eq_true rfl) (pX12_isBody  (a1)  ⟨rfl, rfl⟩) (fun zv9 wm9 hq9 => ?_)
  obtain ⟨rfl, rfl⟩ := hq9
  refine JT_if_eq (tgt := 40) dX12_write_10 (by decide) (fun hc11 => ?_) (fun hc11 => ?_)
  · have h := h.1 hc11
    refine JT_iconst (v := -1) dX12_write_40 ic_m1 ?_
    exact JS_iret dX12_write_41 rfl rfl h
  · have h := h.2 hc11
    refine JT_aload_n (q := 0) dX12_write_13 rfl rfl ?_
    refine JT_iload_n (q := 2) dX12_write_14 rfl rfl ?_
    refine JS_callVI (M' := MX12_isBody) (d' := 1) (As := [.int a2]) (rest := []) (P := (fun zv9 wm9 => (vX12_isBody (pI s 248 0 (0 : Int32)) a2) = zv9 ∧ (pI s 248 0 (0 : Int32)) = wm9)) dX12_write_15 cvX12_287 okX12_isBody rfl (Nat.le_of_ble_eq_true rfl) BS_248 (Nat.le_of_ble_eq_true rfl) (Nat.le_of_ble_eq_true rfl) hci_12 (Nat.le_of_ble_eq_true rfl) (Nat.le_of_ble_eq_true rfl) (pX12_isBody  (a2)  ⟨rfl, rfl⟩) (fun zv9 wm9 hq9 => ?_)
    obtain ⟨rfl, rfl⟩ := hq9
    refine JT_if_eq (tgt := 40) dX12_write_18 (by decide) (fun hc9 => ?_) (fun hc9 => ?_)
    · have h := h.1 hc9
      refine JT_iconst (v := -1) dX12_write_40 ic_m1 ?_
      exact JS_iret dX12_write_41 rfl rfl h
    · have h := h.2 hc9
      refine JT_aload_n (q := 0) dX12_write_21 rfl rfl ?_
      refine JT_iload (q := 4) dX12_write_22 rfl ?_
      refine JS_callVI (M' := MX12_isKind) (d' := 1) (As := [.int a4]) (rest := []) (P := (fun zv9 wm9 => (vX12_isKind (pI s 248 0 (0 : Int32)) a4) = zv9 ∧ (pI s 248 0 (0 : Int32)) = wm9)) dX12_write_24 cvX12_306 okX12_isKind rfl (Nat.le_of_ble_eq_true rfl) BS_248 (Nat.le_of_ble_eq_true rfl) (Nat.le_of_ble_eq_true rfl) hci_12 (Nat.le_of_ble_eq_true rfl) (Nat.le_of_ble_eq_true rfl) (pX12_isKind  (a4)  ⟨rfl, rfl⟩) (fun zv9 wm9 hq9 => ?_)
      obtain ⟨rfl, rfl⟩ := hq9
      refine JT_if_eq (tgt := 40) dX12_write_27 (by decide) (fun hc7 => ?_) (fun hc7 => ?_)
      · have h := h.1 hc7
        refine JT_iconst (v := -1) dX12_write_40 ic_m1 ?_
        exact JS_iret dX12_write_41 rfl rfl h
      · have h := h.2 hc7
        refine JT_iload_n (q := 3) dX12_write_30 rfl rfl ?_
        refine JT_iconst (v := 1) dX12_write_31 ic_1 ?_
        refine JT_bipush (v := 99) dX12_write_32 bp_99 ?_
        refine JS_callSI (M' := MX12_isIn) (d' := 0) (As := [.int a3, .int (1 : Int32), .int (99 : Int32)]) (rest := []) (P := (fun zv9 wm9 => (vX12_isIn (pI s 248 0 (0 : Int32)) a3 (1 : Int32) (99 : Int32)) = zv9 ∧ (pI s 248 0 (0 : Int32)) = wm9)) dX12_write_34 cvX12_202 okX12_isIn rfl (Nat.le_of_ble_eq_true rfl) (Nat.le_of_ble_eq_true rfl) (Nat.le_of_ble_eq_true rfl) (pX12_isIn  (a3) ((1 : Int32)) ((99 : Int32))  ⟨rfl, rfl⟩) (fun zv9 wm9 hq9 => ?_)
        obtain ⟨rfl, rfl⟩ := hq9
        refine JT_if_ne (tgt := 42) dX12_write_37 (by decide) (fun hc5 => ?_) (fun hc5 => ?_)
        · have h := h.1 hc5
          refine JT_aload_n (q := 0) dX12_write_42 rfl rfl ?_
          refine JT_iload_n (q := 1) dX12_write_43 rfl rfl ?_
          refine JT_iload_n (q := 2) dX12_write_44 rfl rfl ?_
          refine JT_iload (q := 4) dX12_write_45 rfl ?_
          obtain ⟨o4, h⟩ := h
          refine JS_callVI (M' := MX12_whyWrite) (d' := 4) (As := [.int a1, .int a2, .int a4]) (rest := []) (P := (fun zv9 wm9 => (vX12_whyWrite (pI s 248 0 (0 : Int32)) a1 a2 a4) = zv9 ∧ (pI s 248 0 (0 : Int32)) = wm9)) dX12_write_47 cvX12_326 okX12_whyWrite rfl (Nat.le_of_ble_eq_true rfl) BS_248 (Nat.le_of_ble_eq_true rfl) (Nat.le_of_ble_eq_true rfl) hci_12 (Nat.le_of_ble_eq_true rfl) (Nat.le_of_ble_eq_true rfl) (pX12_whyWrite  (a1) (a2) (a4) o4 ⟨rfl, rfl⟩) (fun zv9 wm9 hq9 => ?_)
          obtain ⟨rfl, rfl⟩ := hq9
          refine JT_istore (lv' := [(5, .int (vX12_whyWrite (pI s 248 0 (0 : Int32)) a1 a2 a4)), (0, .ref 248), (1, .int a1), (2, .int a2), (3, .int a3), (4, .int a4)]) dX12_write_50 (Nat.le_of_ble_eq_true rfl) rfl ?_
          refine JT_iload (q := 0) dX12_write_52 rfl ?_
          refine JT_if_le (tgt := 63) dX12_write_54 (by decide) (fun hc3 => ?_) (fun hc3 => ?_)
          · have h := h.1 hc3
            refine JT_aload_n (q := 1) dX12_write_63 rfl rfl ?_
            obtain ⟨o2, h⟩ := h
            refine JS_callVV (M' := MX12_keep) (d' := 0) (As := []) (rest := []) (P := (fun wm9 => (mX12_keep (pI s 248 0 (0 : Int32)) ) = wm9)) dX12_write_64 cvX12_329 okX12_keep rfl (Nat.le_of_ble_eq_true rfl) BS_248 (Nat.le_of_ble_eq_true rfl) (Nat.le_of_ble_eq_true rfl) hci_12 (Nat.le_of_ble_eq_true rfl) (Nat.le_of_ble_eq_true rfl) (pX12_keep   o2 rfl) (fun wm9 hq9 => ?_)
            subst hq9
            refine JT_aload_n (q := 1) dX12_write_67 rfl rfl ?_
            refine JT_iload_n (q := 2) dX12_write_68 rfl rfl ?_
            refine JT_iload_n (q := 3) dX12_write_69 rfl rfl ?_
            refine JT_iload_n (q := 4) dX12_write_70 rfl rfl ?_
            refine JT_iload (q := 5) dX12_write_71 rfl ?_
            obtain ⟨o1, h⟩ := h
            refine JS_callVV (M' := MX12_writes) (d' := 4) (As := [.int a1, .int a2, .int a3, .int a4]) (rest := []) (P := (fun wm9 => (mX12_writes (mX12_keep (pI s 248 0 (0 : Int32)) ) a1 a2 a3 a4) = wm9)) dX12_write_73 cvX12_332 okX12_writes rfl (Nat.le_of_ble_eq_true rfl) BS_248 (Nat.le_of_ble_eq_true rfl) (Nat.le_of_ble_eq_true rfl) hci_12 (Nat.le_of_ble_eq_true rfl) (Nat.le_of_ble_eq_true rfl) (pX12_writes  (a1) (a2) (a3) (a4) o1 rfl) (fun wm9 hq9 => ?_)
            subst hq9
            refine JT_aload_n (q := 1) dX12_write_76 rfl rfl ?_
            refine JS_getR (x := 250) dX12_write_77 flX12_33 BS_248 (Nat.le_of_ble_eq_true rfl) (Nat.le_of_ble_eq_true rfl) (Or.inr ⟨_, ct_12_6⟩) RF_248_6 ?_
            refine JT_bipush (v := 34) dX12_write_80 bp_34 ?_
            refine JS_iald dX12_write_82 BS_250 (Nat.le_of_ble_eq_true rfl) (Nat.le_of_ble_eq_true rfl) (by unfold vp_in; decide) ?_
            refine JT_iconst (v := 1) dX12_write_83 ic_1 ?_
            refine JT_isub dX12_write_84 ?_
            exact JS_iret dX12_write_85 rfl rfl h
          · have h := h.2 hc3
            refine JT_bipush (v := -10) dX12_write_57 bp_m10 ?_
            refine JT_iload (q := 0) dX12_write_59 rfl ?_
            refine JT_isub dX12_write_61 ?_
            exact JS_iret dX12_write_62 rfl rfl h
        · have h := h.2 hc5
          refine JT_iconst (v := -1) dX12_write_40 ic_m1 ?_
          exact JS_iret dX12_write_41 rfl rfl h
set_option maxRecDepth 1000000 in
theorem pX12_write (a1 : Int32) (a2 : Int32) (a3 : Int32) (a4 : Int32) {s : SM} {Q : Int32 → SM → Prop} (hr : rX12_write s a1 a2 a3 a4) (h : Q (vX12_write s a1 a2 a3 a4) (mX12_write s a1 a2 a3 a4)) : KI MX12_write 5 [.ref 248, .int a1, .int a2, .int a3, .int a4] s Q := by
  refine bX12_write a1 a2 a3 a4 ?_
  unfold rX12_write at hr
  unfold vX12_write mX12_write at h
  refine ⟨fun c => ?_, fun c => ?_⟩
  · replace h := q2p c h
    first | exact h | contradiction
  · replace hr := hr c
    replace h := q2n c h
    refine ⟨fun c => ?_, fun c => ?_⟩
    · replace h := q2p c h
      first | exact h | contradiction
    · replace hr := hr c
      replace h := q2n c h
      refine ⟨fun c => ?_, fun c => ?_⟩
      · replace h := q2p c h
        first | exact h | contradiction
      · replace hr := hr c
        replace h := q2n c h
        refine ⟨fun c => ?_, fun c => ?_⟩
        · replace hr := hr c
          replace h := q2n c h
          refine ⟨hr.1, ?_⟩
          replace hr := hr.2
          refine ⟨fun c => ?_, fun c => ?_⟩
          · replace hr := hr c
            replace h := q2p c h
            refine ⟨hr.1, ?_⟩
            replace hr := hr.2
            refine ⟨hr, ?_⟩
            first | exact h | contradiction
          · replace h := q2n c h
            first | exact h | contradiction
        · replace h := q2p c h
          first | exact h | contradiction
set_option maxRecDepth 1000000 in
theorem bX1_findLost_7 (a1 : Int32) {s : SM} {Q : Int32 → SM → Prop} (h : gD s 2 = some (gDx s 2) ∧ ((gDx s 2), rfx (gDx s 2) 8) ∈ LX ∧ (((gI s (gDx s 2) 9) ≤ a1 → Q (1 : Int32) s) ∧ (¬ (gI s (gDx s 2) 9) ≤ a1 → gD s 2 = some (gDx s 2) ∧ ((gDx s 2), rfx (gDx s 2) 8) ∈ LX ∧ rX4_isLost s (gDx s 2) (rfx (gDx s 2) 8) a1 ∧ (((vX4_isLost s (gDx s 2) (rfx (gDx s 2) 8) a1) = 0 → BI MX1_findLost 5 7 [(0, .ref 233), (1, .int (a1 + 1))] s Q) ∧ (¬ (vX4_isLost s (gDx s 2) (rfx (gDx s 2) 8) a1) = 0 → (((gI s 233 6) < (4 : Int32) → vp_in (gI s 233 6) 4 ∧ (∀ s6, s6 = (pI (pI s 234 ((gI s 233 6)).toNatClampNeg a1) 233 6 ((gI (pI s 234 ((gI s 233 6)).toNatClampNeg a1) 233 6) + (1 : Int32))) → BI MX1_findLost 5 7 [(0, .ref 233), (1, .int (a1 + 1))] s6 Q)) ∧ (¬ (gI s 233 6) < (4 : Int32) → Q (0 : Int32) s))))))) : BI MX1_findLost 5 7 [(0, .ref 233), (1, .int a1)] s Q := by
  refine JT_iload_n (q := 1) dX1_findLost_7 rfl rfl ?_
  refine JT_aload_n (q := 0) dX1_findLost_8 rfl rfl ?_
  obtain ⟨hr1, hL2, h⟩ := h
  refine JS_getR (x := (gDx s 2)) dX1_findLost_9 flX1_30 BS_233 (Nat.le_of_ble_eq_true rfl) (Nat.le_of_ble_eq_true rfl) (Or.inl ⟨_, ct_1_11⟩) (RF_233_11.trans hr1) ?_
  refine JS_getI dX1_findLost_12 flX1_70 (lxB hL2) (lx2 hL2) (lxN hL2) (Or.inl ct_4_9) ?_
  refine JT_icmp_ge (tgt := 65) dX1_findLost_15 (by decide) (fun hc10 => ?_) (fun hc10 => ?_)
  · have h := h.1 hc10
    refine JT_iconst (v := 1) dX1_findLost_65 ic_1 ?_
    exact JS_iret dX1_findLost_66 rfl (n01 (Or.inr rfl)) h
  · have h := h.2 hc10
    refine JT_aload_n (q := 0) dX1_findLost_18 rfl rfl ?_
    obtain ⟨hr3, hL4, h⟩ := h
    refine JS_getR (x := (gDx s 2)) dX1_findLost_19 flX1_30 BS_233 (Nat.le_of_ble_eq_true rfl) (Nat.le_of_ble_eq_true rfl) (Or.inl ⟨_, ct_1_11⟩) (RF_233_11.trans hr3) ?_
    refine JT_iload_n (q := 1) dX1_findLost_22 rfl rfl ?_
    obtain ⟨o9, h⟩ := h
    refine JS_callVI (M' := MX4_isLost) (d' := 4) (As := [.int a1]) (rest := []) (P := (fun zv9 wm9 => (vX4_isLost s (gDx s 2) (rfx (gDx s 2) 8) a1) = zv9 ∧ s = wm9)) dX1_findLost_23 cvX1_73 okX4_isLost rfl (Nat.le_of_ble_eq_true rfl) (lxB hL4) (lx2 hL4) (lxN hL4) hci_4 (Nat.le_of_ble_eq_true rfl) (Nat.le_of_ble_eq_true rfl) (pX4_isLost hL4 (a1) o9 ⟨rfl, rfl⟩) (fun zv9 wm9 hq9 => ?_)
    obtain ⟨rfl, rfl⟩ := hq9
    refine JT_if_eq (tgt := 59) dX1_findLost_26 (by decide) (fun hc8 => ?_) (fun hc8 => ?_)
    · have h := h.1 hc8
      refine JT_iinc (q := 1) (v := (a1 + 1)) (lv' := [(1, .int (a1 + 1)), (0, .ref 233)]) dX1_findLost_59 rfl (by rfl) (Nat.le_of_ble_eq_true rfl) rfl ?_
      refine JT_goto (tgt := 7) dX1_findLost_62 (by decide) ?_
      exact JT_sub [1, 0] rfl h
    · have h := h.2 hc8
      refine JT_aload_n (q := 0) dX1_findLost_29 rfl rfl ?_
      refine JS_getI dX1_findLost_30 flX1_67 BS_233 (Nat.le_of_ble_eq_true rfl) (Nat.le_of_ble_eq_true rfl) (Or.inl ct_1_6) ?_
      refine JT_iconst (v := 4) dX1_findLost_33 ic_4 ?_
      refine JT_icmp_lt (tgt := 39) dX1_findLost_34 (by decide) (fun hc7 => ?_) (fun hc7 => ?_)
      · have h := h.1 hc7
        refine JT_aload_n (q := 0) dX1_findLost_39 rfl rfl ?_
        refine JS_getR (x := 234) dX1_findLost_40 flX1_9 BS_233 (Nat.le_of_ble_eq_true rfl) (Nat.le_of_ble_eq_true rfl) (Or.inr ⟨_, ct_1_0⟩) RF_233_0 ?_
        refine JT_aload_n (q := 0) dX1_findLost_43 rfl rfl ?_
        refine JS_getI dX1_findLost_44 flX1_67 BS_233 (Nat.le_of_ble_eq_true rfl) (Nat.le_of_ble_eq_true rfl) (Or.inl ct_1_6) ?_
        refine JT_iload_n (q := 1) dX1_findLost_47 rfl rfl ?_
        obtain ⟨o5, h⟩ := h
        refine JS_iast dX1_findLost_48 BS_234 (Nat.le_of_ble_eq_true rfl) (Nat.le_of_ble_eq_true rfl) o5 ?_
        refine JT_aload_n (q := 0) dX1_findLost_49 rfl rfl ?_
        refine JT_dup dX1_findLost_50 rfl ?_
        refine JS_getI dX1_findLost_51 flX1_67 BS_233 (Nat.le_of_ble_eq_true rfl) (Nat.le_of_ble_eq_true rfl) (Or.inl ct_1_6) ?_
        refine JT_iconst (v := 1) dX1_findLost_54 ic_1 ?_
        refine JT_iadd dX1_findLost_55 ?_
        refine JS_putI dX1_findLost_56 flX1_67 BS_233 (Nat.le_of_ble_eq_true rfl) (Nat.le_of_ble_eq_true rfl) ct_1_6 ?_
        obtain ⟨s6, hs6⟩ : ∃ z, z = (pI (pI s 234 ((gI s 233 6)).toNatClampNeg a1) 233 6 ((gI (pI s 234 ((gI s 233 6)).toNatClampNeg a1) 233 6) + (1 : Int32))) := ⟨_, rfl⟩
        replace h := h s6 hs6
        rw [← hs6]
        refine JT_iinc (q := 1) (v := (a1 + 1)) (lv' := [(1, .int (a1 + 1)), (0, .ref 233)]) dX1_findLost_59 rfl (by rfl) (Nat.le_of_ble_eq_true rfl) rfl ?_
        refine JT_goto (tgt := 7) dX1_findLost_62 (by decide) ?_
        exact JT_sub [1, 0] rfl h
      · have h := h.2 hc7
        refine JT_iconst (v := 0) dX1_findLost_37 ic_0 ?_
        exact JS_iret dX1_findLost_38 rfl (n01 (Or.inl rfl)) h
set_option maxRecDepth 1000000 in
theorem bX1_findLost  {s : SM} {Q : Int32 → SM → Prop} (h : BI MX1_findLost 5 7 [(0, .ref 233), (1, .int (0 : Int32))] (pI s 233 6 (0 : Int32)) Q) : KI MX1_findLost 5 [.ref 233] s Q := by
  show BI MX1_findLost 5 0 [(0, .ref 233)] s Q
  refine JT_aload_n (q := 0) dX1_findLost_0 rfl rfl ?_
  refine JT_iconst (v := 0) dX1_findLost_1 ic_0 ?_
  refine JS_putI dX1_findLost_2 flX1_67 BS_233 (Nat.le_of_ble_eq_true rfl) (Nat.le_of_ble_eq_true rfl) ct_1_6 ?_
  refine JT_iconst (v := 0) dX1_findLost_5 ic_0 ?_
  refine JT_istore_n (lv' := [(1, .int (0 : Int32)), (0, .ref 233)]) dX1_findLost_6 rfl (Nat.le_of_ble_eq_true rfl) rfl ?_
  exact JT_sub [1, 0] rfl h
set_option maxRecDepth 1000000 in
theorem gX1_findLost  : ∀ n : Nat, (∀ (a1 : Int32) (s : SM) (Q : Int32 → SM → Prop), ((qX1_findLost n) s a1) → Q ((lX1_findLost n) s a1).1 ((lX1_findLost n) s a1).2 → BI MX1_findLost 5 7 [(0, .ref 233), (1, .int a1)] s Q) := by
  intro n
  induction n with
  | zero => exact fun _ _ _ hq _ => absurd hq id
  | succ n ih =>
    intro a1 s Q hr h
    replace hr : uX1_findLost_7 (qX1_findLost n) s a1 := hr
    replace h : Q (tX1_findLost_7 (lX1_findLost n) s a1).1 (tX1_findLost_7 (lX1_findLost n) s a1).2 := h
    unfold uX1_findLost_7 at hr
    unfold tX1_findLost_7 at h
    refine bX1_findLost_7 a1 ?_
    refine ⟨hr.1, ?_⟩
    replace hr := hr.2
    refine ⟨hr.1, ?_⟩
    replace hr := hr.2
    refine ⟨fun c => ?_, fun c => ?_⟩
    · replace h := q3p c h
      first | exact h | contradiction
    · replace hr := hr c
      replace h := q3n c h
      refine ⟨hr.1, ?_⟩
      replace hr := hr.2
      refine ⟨hr.1, ?_⟩
      replace hr := hr.2
      refine ⟨hr.1, ?_⟩
      replace hr := hr.2
      refine ⟨fun c => ?_, fun c => ?_⟩
      · replace hr := hr.1 c
        replace h := q3p c h
        first | exact ih (a1 + 1) _ Q hr h | contradiction
      · replace hr := hr.2 c
        replace h := q3n c h
        refine ⟨fun c => ?_, fun c => ?_⟩
        · replace hr := hr c
          replace h := q3p c h
          refine ⟨hr.1, ?_⟩
          replace hr := hr.2
          intro s6 e9
          replace hr := hr s6 e9
          try rw [← e9] at h
          try dsimp only at h
          first | exact ih (a1 + 1) _ Q hr h | contradiction
        · replace h := q3n c h
          first | exact h | contradiction
set_option maxRecDepth 1000000 in
theorem pX1_findLost  {s : SM} {Q : Int32 → SM → Prop} (hr : rX1_findLost s ) (h : Q (vX1_findLost s ) (mX1_findLost s )) : KI MX1_findLost 5 [.ref 233] s Q := by
  replace h : Q (fX1_findLost s ).1 (fX1_findLost s ).2 := h
  unfold rX1_findLost at hr
  unfold fX1_findLost at h
  refine bX1_findLost  ?_
  first | exact (gX1_findLost  FU) (0 : Int32) _ Q hr h | contradiction
set_option maxRecDepth 1000000 in
theorem bX4_owedAtMost_10 {L0 P0 : Nat} (hL0 : (L0, P0) ∈ LX) (a1 : Int32) (a2 : Int32) (a3 : Int32) (a4 : Int32) {s : SM} {Q : Int32 → SM → Prop} (h : (((gI s L0 9) ≤ a4 → Q a3 s) ∧ (¬ (gI s L0 9) ≤ a4 → rX4_isOpen s L0 P0 a4 ∧ (((vX4_isOpen s L0 P0 a4) = 0 → BI MX4_owedAtMost 5 10 [(0, .ref L0), (1, .int a1), (2, .int a2), (3, .int a3), (4, .int (a4 + 1))] s Q) ∧ (¬ (vX4_isOpen s L0 P0 a4) = 0 → vp_in a4 60 ∧ ((¬ (gI s (L0 + 1) (a4).toNatClampNeg) = a1 → BI MX4_owedAtMost 5 10 [(0, .ref L0), (1, .int a1), (2, .int a2), (3, .int a3), (4, .int (a4 + 1))] s Q) ∧ ((gI s (L0 + 1) (a4).toNatClampNeg) = a1 → rX4_isKnownBy s L0 P0 a4 a2 ∧ ((¬ (vX4_isKnownBy s L0 P0 a4 a2) = 0 → BI MX4_owedAtMost 5 10 [(0, .ref L0), (1, .int a1), (2, .int a2), (3, .int a3), (4, .int (a4 + 1))] s Q) ∧ ((vX4_isKnownBy s L0 P0 a4 a2) = 0 → rX4_isOnAny s L0 P0 a4 a2 ∧ (((vX4_isOnAny s L0 P0 a4 a2) = 0 → BI MX4_owedAtMost 5 10 [(0, .ref L0), (1, .int a1), (2, .int a2), (3, .int a3), (4, .int (a4 + 1))] s Q) ∧ (¬ (vX4_isOnAny s L0 P0 a4 a2) = 0 → vp_in a4 60 ∧ rX6_valueOf s P0 (gI s (L0 + 4) (a4).toNatClampNeg) (99 : Int32) ∧ BI MX4_owedAtMost 5 10 [(0, .ref L0), (1, .int a1), (2, .int a2), (3, .int (a3 + (vX6_valueOf s P0 (gI s (L0 + 4) (a4).toNatClampNeg) (99 : Int32)))), (4, .int (a4 + 1))] s Q))))))))))) : BI MX4_owedAtMost 5 10 [(0, .ref L0), (1, .int a1), (2, .int a2), (3, .int a3), (4, .int a4)] s Q := by
  refine JT_iload (q := 4) dX4_owedAtMost_10 rfl ?_
  refine JT_aload_n (q := 0) dX4_owedAtMost_12 rfl rfl ?_
  refine JS_getI dX4_owedAtMost_13 flX4_49 (lxB hL0) (lx2 hL0) (lxN hL0) (Or.inl ct_4_9) ?_
  refine JT_icmp_ge (tgt := 84) dX4_owedAtMost_16 (by decide) (fun hc11 => ?_) (fun hc11 => ?_)
  · have h := h.1 hc11
    refine JT_iload_n (q := 3) dX4_owedAtMost_84 rfl rfl ?_
    exact JS_iret dX4_owedAtMost_85 rfl rfl h
  · have h := h.2 hc11
    refine JT_aload_n (q := 0) dX4_owedAtMost_19 rfl rfl ?_
    refine JT_iload (q := 4) dX4_owedAtMost_20 rfl ?_
    obtain ⟨o10, h⟩ := h
    refine JS_callVI (M' := MX4_isOpen) (d' := 1) (As := [.int a4]) (rest := []) (P := (fun zv9 wm9 => (vX4_isOpen s L0 P0 a4) = zv9 ∧ s = wm9)) dX4_owedAtMost_22 cvX4_94 okX4_isOpen rfl (Nat.le_of_ble_eq_true rfl) (lxB hL0) (lx2 hL0) (lxN hL0) hci_4 (Nat.le_of_ble_eq_true rfl) (Nat.le_of_ble_eq_true rfl) (pX4_isOpen hL0 (a4) o10 ⟨rfl, rfl⟩) (fun zv9 wm9 hq9 => ?_)
    obtain ⟨rfl, rfl⟩ := hq9
    refine JT_if_eq (tgt := 78) dX4_owedAtMost_25 (by decide) (fun hc9 => ?_) (fun hc9 => ?_)
    · have h := h.1 hc9
      refine JT_iinc (q := 4) (v := (a4 + 1)) (lv' := [(4, .int (a4 + 1)), (0, .ref L0), (1, .int a1), (2, .int a2), (3, .int a3)]) dX4_owedAtMost_78 rfl (by rfl) (Nat.le_of_ble_eq_true rfl) rfl ?_
      refine JT_goto (tgt := 10) dX4_owedAtMost_81 (by decide) ?_
      exact JT_sub [1, 2, 3, 4, 0] rfl h
    · have h := h.2 hc9
      refine JT_aload_n (q := 0) dX4_owedAtMost_28 rfl rfl ?_
      refine JS_getR (x := (L0 + 1)) dX4_owedAtMost_29 flX4_9 (lxB hL0) (lx2 hL0) (lxN hL0) (Or.inr ⟨_, ct_4_0⟩) (lxR0 hL0) ?_
      refine JT_iload (q := 4) dX4_owedAtMost_32 rfl ?_
      obtain ⟨o1, h⟩ := h
      refine JS_iald dX4_owedAtMost_34 (lxB1 hL0) (lx2k hL0 _) (lxNk hL0 (Nat.le_of_ble_eq_true rfl)) o1 ?_
      refine JT_iload_n (q := 1) dX4_owedAtMost_35 rfl rfl ?_
      refine JT_icmp_ne (tgt := 78) dX4_owedAtMost_36 (by decide) (fun hc8 => ?_) (fun hc8 => ?_)
      · have h := h.1 hc8
        refine JT_iinc (q := 4) (v := (a4 + 1)) (lv' := [(4, .int (a4 + 1)), (0, .ref L0), (1, .int a1), (2, .int a2), (3, .int a3)]) dX4_owedAtMost_78 rfl (by rfl) (Nat.le_of_ble_eq_true rfl) rfl ?_
        refine JT_goto (tgt := 10) dX4_owedAtMost_81 (by decide) ?_
        exact JT_sub [1, 2, 3, 4, 0] rfl h
      · have h := h.2 hc8
        refine JT_aload_n (q := 0) dX4_owedAtMost_39 rfl rfl ?_
        refine JT_iload (q := 4) dX4_owedAtMost_40 rfl ?_
        refine JT_iload_n (q := 2) dX4_owedAtMost_42 rfl rfl ?_
        obtain ⟨o7, h⟩ := h
        refine JS_callVI (M' := MX4_isKnownBy) (d' := 3) (As := [.int a4, .int a2]) (rest := []) (P := (fun zv9 wm9 => (vX4_isKnownBy s L0 P0 a4 a2) = zv9 ∧ s = wm9)) dX4_owedAtMost_43 cvX4_113 okX4_isKnownBy rfl (Nat.le_of_ble_eq_true rfl) (lxB hL0) (lx2 hL0) (lxN hL0) hci_4 (Nat.le_of_ble_eq_true rfl) (Nat.le_of_ble_eq_true rfl) (pX4_isKnownBy hL0 (a4) (a2) o7 ⟨rfl, rfl⟩) (fun zv9 wm9 hq9 => ?_)
        obtain ⟨rfl, rfl⟩ := hq9
        refine JT_if_ne (tgt := 78) dX4_owedAtMost_46 (by decide) (fun hc6 => ?_) (fun hc6 => ?_)
        · have h := h.1 hc6
          refine JT_iinc (q := 4) (v := (a4 + 1)) (lv' := [(4, .int (a4 + 1)), (0, .ref L0), (1, .int a1), (2, .int a2), (3, .int a3)]) dX4_owedAtMost_78 rfl (by rfl) (Nat.le_of_ble_eq_true rfl) rfl ?_
          refine JT_goto (tgt := 10) dX4_owedAtMost_81 (by decide) ?_
          exact JT_sub [1, 2, 3, 4, 0] rfl h
        · have h := h.2 hc6
          refine JT_aload_n (q := 0) dX4_owedAtMost_49 rfl rfl ?_
          refine JT_iload (q := 4) dX4_owedAtMost_50 rfl ?_
          refine JT_iload_n (q := 2) dX4_owedAtMost_52 rfl rfl ?_
          obtain ⟨o5, h⟩ := h
          refine JS_callVI (M' := MX4_isOnAny) (d' := 1) (As := [.int a4, .int a2]) (rest := []) (P := (fun zv9 wm9 => (vX4_isOnAny s L0 P0 a4 a2) = zv9 ∧ s = wm9)) dX4_owedAtMost_53 cvX4_119 okX4_isOnAny rfl (Nat.le_of_ble_eq_true rfl) (lxB hL0) (lx2 hL0) (lxN hL0) hci_4 (Nat.le_of_ble_eq_true rfl) (Nat.le_of_ble_eq_true rfl) (pX4_isOnAny hL0 (a4) (a2) o5 ⟨rfl, rfl⟩) (fun zv9 wm9 hq9 => ?_)
          obtain ⟨rfl, rfl⟩ := hq9
          refine JT_if_eq (tgt := 78) dX4_owedAtMost_56 (by decide) (fun hc4 => ?_) (fun hc4 => ?_)
          · have h := h.1 hc4
            refine JT_iinc (q := 4) (v := (a4 + 1)) (lv' := [(4, .int (a4 + 1)), (0, .ref L0), (1, .int a1), (2, .int a2), (3, .int a3)]) dX4_owedAtMost_78 rfl (by rfl) (Nat.le_of_ble_eq_true rfl) rfl ?_
            refine JT_goto (tgt := 10) dX4_owedAtMost_81 (by decide) ?_
            exact JT_sub [1, 2, 3, 4, 0] rfl h
          · have h := h.2 hc4
            refine JT_iload_n (q := 3) dX4_owedAtMost_59 rfl rfl ?_
            refine JT_aload_n (q := 0) dX4_owedAtMost_60 rfl rfl ?_
            refine JS_getR (x := P0) dX4_owedAtMost_61 flX4_45 (lxB hL0) (lx2 hL0) (lxN hL0) (Or.inl ⟨_, ct_4_8⟩) (lxR8 hL0) ?_
            refine JT_aload_n (q := 0) dX4_owedAtMost_64 rfl rfl ?_
            refine JS_getR (x := (L0 + 4)) dX4_owedAtMost_65 flX4_21 (lxB hL0) (lx2 hL0) (lxN hL0) (Or.inr ⟨_, ct_4_3⟩) (lxR3 hL0) ?_
            refine JT_iload (q := 4) dX4_owedAtMost_68 rfl ?_
            obtain ⟨o2, h⟩ := h
            refine JS_iald dX4_owedAtMost_70 (lxB4 hL0) (lx2k hL0 _) (lxNk hL0 (Nat.le_of_ble_eq_true rfl)) o2 ?_
            refine JT_bipush (v := 99) dX4_owedAtMost_71 bp_99 ?_
            obtain ⟨o3, h⟩ := h
            refine JS_callVI (M' := MX6_valueOf) (d' := 0) (As := [.int (gI s (L0 + 4) (a4).toNatClampNeg), .int (99 : Int32)]) (rest := [.int a3]) (P := (fun zv9 wm9 => (vX6_valueOf s P0 (gI s (L0 + 4) (a4).toNatClampNeg) (99 : Int32)) = zv9 ∧ s = wm9)) dX4_owedAtMost_73 cvX4_100 okX6_valueOf rfl (Nat.le_of_ble_eq_true rfl) (pxB (lxP hL0)) (px2 (lxP hL0)) (pxN (lxP hL0)) hci_6 (Nat.le_of_ble_eq_true rfl) (Nat.le_of_ble_eq_true rfl) (pX6_valueOf (lxP hL0) ((gI s (L0 + 4) (a4).toNatClampNeg)) ((99 : Int32)) o3 ⟨rfl, rfl⟩) (fun zv9 wm9 hq9 => ?_)
            obtain ⟨rfl, rfl⟩ := hq9
            refine JT_iadd dX4_owedAtMost_76 ?_
            refine JT_istore_n (lv' := [(3, .int (a3 + (vX6_valueOf s P0 (gI s (L0 + 4) (a4).toNatClampNeg) (99 : Int32)))), (0, .ref L0), (1, .int a1), (2, .int a2), (4, .int a4)]) dX4_owedAtMost_77 rfl (Nat.le_of_ble_eq_true rfl) rfl ?_
            refine JT_iinc (q := 4) (v := (a4 + 1)) (lv' := [(4, .int (a4 + 1)), (3, .int (a3 + (vX6_valueOf s P0 (gI s (L0 + 4) (a4).toNatClampNeg) (99 : Int32)))), (0, .ref L0), (1, .int a1), (2, .int a2)]) dX4_owedAtMost_78 rfl (by rfl) (Nat.le_of_ble_eq_true rfl) rfl ?_
            refine JT_goto (tgt := 10) dX4_owedAtMost_81 (by decide) ?_
            exact JT_sub [2, 3, 4, 1, 0] rfl h
set_option maxRecDepth 1000000 in
theorem bX4_owedAtMost {L0 P0 : Nat} (hL0 : (L0, P0) ∈ LX) (a1 : Int32) (a2 : Int32) {s : SM} {Q : Int32 → SM → Prop} (h : rX4_owedSurely s L0 P0 a1 a2 ∧ BI MX4_owedAtMost 5 10 [(0, .ref L0), (1, .int a1), (2, .int a2), (3, .int (vX4_owedSurely s L0 P0 a1 a2)), (4, .int (0 : Int32))] s Q) : KI MX4_owedAtMost 5 [.ref L0, .int a1, .int a2] s Q := by
  show BI MX4_owedAtMost 5 0 [(0, .ref L0), (1, .int a1), (2, .int a2)] s Q
  refine JT_aload_n (q := 0) dX4_owedAtMost_0 rfl rfl ?_
  refine JT_iload_n (q := 1) dX4_owedAtMost_1 rfl rfl ?_
  refine JT_iload_n (q := 2) dX4_owedAtMost_2 rfl rfl ?_
  obtain ⟨o1, h⟩ := h
  refine JS_callVI (M' := MX4_owedSurely) (d' := 4) (As := [.int a1, .int a2]) (rest := []) (P := (fun zv9 wm9 => (vX4_owedSurely s L0 P0 a1 a2) = zv9 ∧ s = wm9)) dX4_owedAtMost_3 cvX4_116 okX4_owedSurely rfl (Nat.le_of_ble_eq_true rfl) (lxB hL0) (lx2 hL0) (lxN hL0) hci_4 (Nat.le_of_ble_eq_true rfl) (Nat.le_of_ble_eq_true rfl) (pX4_owedSurely hL0 (a1) (a2) o1 ⟨rfl, rfl⟩) (fun zv9 wm9 hq9 => ?_)
  obtain ⟨rfl, rfl⟩ := hq9
  refine JT_istore_n (lv' := [(3, .int (vX4_owedSurely s L0 P0 a1 a2)), (0, .ref L0), (1, .int a1), (2, .int a2)]) dX4_owedAtMost_6 rfl (Nat.le_of_ble_eq_true rfl) rfl ?_
  refine JT_iconst (v := 0) dX4_owedAtMost_7 ic_0 ?_
  refine JT_istore (lv' := [(4, .int (0 : Int32)), (3, .int (vX4_owedSurely s L0 P0 a1 a2)), (0, .ref L0), (1, .int a1), (2, .int a2)]) dX4_owedAtMost_8 (Nat.le_of_ble_eq_true rfl) rfl ?_
  exact JT_sub [2, 3, 4, 1, 0] rfl h
set_option maxRecDepth 1000000 in
theorem gX4_owedAtMost {L0 P0 : Nat} (hL0 : (L0, P0) ∈ LX) : ∀ n : Nat, (∀ (a1 : Int32) (a2 : Int32) (a3 : Int32) (a4 : Int32) (s : SM) (Q : Int32 → SM → Prop), ((qX4_owedAtMost n) s L0 P0 a1 a2 a3 a4) → Q ((lX4_owedAtMost n) s L0 P0 a1 a2 a3 a4) s → BI MX4_owedAtMost 5 10 [(0, .ref L0), (1, .int a1), (2, .int a2), (3, .int a3), (4, .int a4)] s Q) := by
  intro n
  induction n with
  | zero => exact fun _ _ _ _ _ _ hq _ => absurd hq id
  | succ n ih =>
    intro a1 a2 a3 a4 s Q hr h
    replace hr : uX4_owedAtMost_10 (qX4_owedAtMost n) s L0 P0 a1 a2 a3 a4 := hr
    replace h : Q (tX4_owedAtMost_10 (lX4_owedAtMost n) s L0 P0 a1 a2 a3 a4) s := h
    unfold uX4_owedAtMost_10 at hr
    unfold tX4_owedAtMost_10 at h
    refine bX4_owedAtMost_10 hL0 a1 a2 a3 a4 ?_
    refine ⟨fun c => ?_, fun c => ?_⟩
    · replace h := qlp c h
      first | exact h | contradiction
    · replace hr := hr c
      replace h := qln c h
      refine ⟨hr.1, ?_⟩
      replace hr := hr.2
      refine ⟨fun c => ?_, fun c => ?_⟩
      · replace hr := hr.1 c
        replace h := qlp c h
        first | exact ih a1 a2 a3 (a4 + 1) _ Q hr h | contradiction
      · replace hr := hr.2 c
        replace h := qln c h
        refine ⟨hr.1, ?_⟩
        replace hr := hr.2
        refine ⟨fun c => ?_, fun c => ?_⟩
        · replace hr := hr.1 c
          replace h := qln c h
          first | exact ih a1 a2 a3 (a4 + 1) _ Q hr h | contradiction
        · replace hr := hr.2 c
          replace h := qlp c h
          refine ⟨hr.1, ?_⟩
          replace hr := hr.2
          refine ⟨fun c => ?_, fun c => ?_⟩
          · replace hr := hr.1 c
            replace h := qln c h
            first | exact ih a1 a2 a3 (a4 + 1) _ Q hr h | contradiction
          · replace hr := hr.2 c
            replace h := qlp c h
            refine ⟨hr.1, ?_⟩
            replace hr := hr.2
            refine ⟨fun c => ?_, fun c => ?_⟩
            · replace hr := hr.1 c
              replace h := qlp c h
              first | exact ih a1 a2 a3 (a4 + 1) _ Q hr h | contradiction
            · replace hr := hr.2 c
              replace h := qln c h
              refine ⟨hr.1, ?_⟩
              replace hr := hr.2
              refine ⟨hr.1, ?_⟩
              replace hr := hr.2
              first | exact ih a1 a2 (a3 + (vX6_valueOf s P0 (gI s (L0 + 4) (a4).toNatClampNeg) (99 : Int32))) (a4 + 1) _ Q hr h | contradiction
set_option maxRecDepth 1000000 in
theorem pX4_owedAtMost {L0 P0 : Nat} (hL0 : (L0, P0) ∈ LX) (a1 : Int32) (a2 : Int32) {s : SM} {Q : Int32 → SM → Prop} (hr : rX4_owedAtMost s L0 P0 a1 a2) (h : Q (vX4_owedAtMost s L0 P0 a1 a2) s) : KI MX4_owedAtMost 5 [.ref L0, .int a1, .int a2] s Q := by
  replace h : Q (fX4_owedAtMost s L0 P0 a1 a2) s := h
  unfold rX4_owedAtMost at hr
  unfold fX4_owedAtMost at h
  refine bX4_owedAtMost hL0 a1 a2 ?_
  refine ⟨hr.1, ?_⟩
  replace hr := hr.2
  first | exact (gX4_owedAtMost hL0 FU) a1 a2 (vX4_owedSurely s L0 P0 a1 a2) (0 : Int32) _ Q hr h | contradiction
set_option maxRecDepth 1000000 in
theorem bX6_readLine {p0 : Nat} (hp0 : p0 ∈ PX) {s : SM} {Q : Int32 → SM → Prop} (h : (((vX9_says s (1651467385 : Int64)) = 0 → (((vX9_says s (1802071652 : Int64)) = 0 → (((vX9_says s (1818848869 : Int64)) = 0 → (((vX9_says s (6582132 : Int64)) = 0 → Q (vX9_refuse s (1 : Int32)) (mX9_refuse s (1 : Int32))) ∧ (¬ (vX9_says s (6582132 : Int64)) = 0 → rX6_readDotRoom s p0 ∧ ((vX6_readDotRoom s p0) = 0 ∨ (vX6_readDotRoom s p0) = 1) ∧ Q (vX6_readDotRoom s p0) (mX6_readDotRoom s p0)))) ∧ (¬ (vX9_says s (1818848869 : Int64)) = 0 → rX6_readLineRoom s p0 ∧ ((vX6_readLineRoom s p0) = 0 ∨ (vX6_readLineRoom s p0) = 1) ∧ Q (vX6_readLineRoom s p0) (mX6_readLineRoom s p0)))) ∧ (¬ (vX9_says s (1802071652 : Int64)) = 0 → rX6_readKind s p0 ∧ ((vX6_readKind s p0) = 0 ∨ (vX6_readKind s p0) = 1) ∧ Q (vX6_readKind s p0) (mX6_readKind s p0)))) ∧ (¬ (vX9_says s (1651467385 : Int64)) = 0 → rX6_readBody s p0 ∧ ((vX6_readBody s p0) = 0 ∨ (vX6_readBody s p0) = 1) ∧ Q (vX6_readBody s p0) (mX6_readBody s p0)))) : KI MX6_readLine 5 [.ref p0, .ref 3] s Q := by
  show BI MX6_readLine 5 0 [(0, .ref p0), (1, .ref 3)] s Q
  refine JT_aload_n (q := 1) dX6_readLine_0 rfl rfl ?_
  refine JT_ldc2 dX6_readLine_1 kwX6_98 ?_
  refine JS_callVI (M' := MX9_says) (d' := 0) (As := [.long (1651467385 : Int64)]) (rest := []) (P := (fun zv9 wm9 => (vX9_says s (1651467385 : Int64)) = zv9 ∧ s = wm9)) dX6_readLine_4 cvX6_100 okX9_says rfl (Nat.le_of_ble_eq_true rfl) BS_3 (Nat.le_of_ble_eq_true rfl) (Nat.le_of_ble_eq_true rfl) hci_9 (Nat.le_of_ble_eq_true rfl) (Nat.le_of_ble_eq_true rfl) (pX9_says  ((1651467385 : Int64))  ⟨rfl, rfl⟩) (fun zv9 wm9 hq9 => ?_)
  obtain ⟨rfl, rfl⟩ := hq9
  refine JT_if_eq (tgt := 16) dX6_readLine_7 (by decide) (fun hc12 => ?_) (fun hc12 => ?_)
  · have h := h.1 hc12
    refine JT_aload_n (q := 1) dX6_readLine_16 rfl rfl ?_
    refine JT_ldc2 dX6_readLine_17 kwX6_107 ?_
    refine JS_callVI (M' := MX9_says) (d' := 0) (As := [.long (1802071652 : Int64)]) (rest := []) (P := (fun zv9 wm9 => (vX9_says s (1802071652 : Int64)) = zv9 ∧ s = wm9)) dX6_readLine_20 cvX6_100 okX9_says rfl (Nat.le_of_ble_eq_true rfl) BS_3 (Nat.le_of_ble_eq_true rfl) (Nat.le_of_ble_eq_true rfl) hci_9 (Nat.le_of_ble_eq_true rfl) (Nat.le_of_ble_eq_true rfl) (pX9_says  ((1802071652 : Int64))  ⟨rfl, rfl⟩) (fun zv9 wm9 hq9 => ?_)
    obtain ⟨rfl, rfl⟩ := hq9
    refine JT_if_eq (tgt := 32) dX6_readLine_23 (by decide) (fun hc9 => ?_) (fun hc9 => ?_)
    · have h := h.1 hc9
      refine JT_aload_n (q := 1) dX6_readLine_32 rfl rfl ?_
      refine JT_ldc2 dX6_readLine_33 kwX6_112 ?_
      refine JS_callVI (M' := MX9_says) (d' := 0) (As := [.long (1818848869 : Int64)]) (rest := []) (P := (fun zv9 wm9 => (vX9_says s (1818848869 : Int64)) = zv9 ∧ s = wm9)) dX6_readLine_36 cvX6_100 okX9_says rfl (Nat.le_of_ble_eq_true rfl) BS_3 (Nat.le_of_ble_eq_true rfl) (Nat.le_of_ble_eq_true rfl) hci_9 (Nat.le_of_ble_eq_true rfl) (Nat.le_of_ble_eq_true rfl) (pX9_says  ((1818848869 : Int64))  ⟨rfl, rfl⟩) (fun zv9 wm9 hq9 => ?_)
      obtain ⟨rfl, rfl⟩ := hq9
      refine JT_if_eq (tgt := 48) dX6_readLine_39 (by decide) (fun hc6 => ?_) (fun hc6 => ?_)
      · have h := h.1 hc6
        refine JT_aload_n (q := 1) dX6_readLine_48 rfl rfl ?_
        refine JT_ldc2 dX6_readLine_49 kwX6_117 ?_
        refine JS_callVI (M' := MX9_says) (d' := 0) (As := [.long (6582132 : Int64)]) (rest := []) (P := (fun zv9 wm9 => (vX9_says s (6582132 : Int64)) = zv9 ∧ s = wm9)) dX6_readLine_52 cvX6_100 okX9_says rfl (Nat.le_of_ble_eq_true rfl) BS_3 (Nat.le_of_ble_eq_true rfl) (Nat.le_of_ble_eq_true rfl) hci_9 (Nat.le_of_ble_eq_true rfl) (Nat.le_of_ble_eq_true rfl) (pX9_says  ((6582132 : Int64))  ⟨rfl, rfl⟩) (fun zv9 wm9 hq9 => ?_)
        obtain ⟨rfl, rfl⟩ := hq9
        refine JT_if_eq (tgt := 66) dX6_readLine_55 (by decide) (fun hc3 => ?_) (fun hc3 => ?_)
        · have h := h.1 hc3
          refine JT_aload_n (q := 1) dX6_readLine_66 rfl rfl ?_
          refine JT_iconst (v := 1) dX6_readLine_67 ic_1 ?_
          refine JS_callVI (M' := MX9_refuse) (d' := 0) (As := [.int (1 : Int32)]) (rest := []) (P := (fun zv9 wm9 => (vX9_refuse s (1 : Int32)) = zv9 ∧ (mX9_refuse s (1 : Int32)) = wm9)) dX6_readLine_68 cvX6_122 okX9_refuse rfl (Nat.le_of_ble_eq_true rfl) BS_3 (Nat.le_of_ble_eq_true rfl) (Nat.le_of_ble_eq_true rfl) hci_9 (Nat.le_of_ble_eq_true rfl) (Nat.le_of_ble_eq_true rfl) (pX9_refuse  ((1 : Int32))  ⟨rfl, rfl⟩) (fun zv9 wm9 hq9 => ?_)
          obtain ⟨rfl, rfl⟩ := hq9
          exact JS_iret dX6_readLine_71 rfl (n01 (zX9_refuse s (1 : Int32))) h
        · have h := h.2 hc3
          refine JT_aload_n (q := 0) dX6_readLine_58 rfl rfl ?_
          refine JT_aload_n (q := 1) dX6_readLine_59 rfl rfl ?_
          obtain ⟨o2, h⟩ := h
          refine JS_callVI (M' := MX6_readDotRoom) (d' := 4) (As := [.ref 3]) (rest := []) (P := (fun zv9 wm9 => (vX6_readDotRoom s p0) = zv9 ∧ (mX6_readDotRoom s p0) = wm9)) dX6_readLine_60 cvX6_119 okX6_readDotRoom rfl (Nat.le_of_ble_eq_true rfl) (pxB hp0) (px2 hp0) (pxN hp0) hci_6 (Nat.le_of_ble_eq_true rfl) (Nat.le_of_ble_eq_true rfl) (pX6_readDotRoom hp0  o2 ⟨rfl, rfl⟩) (fun zv9 wm9 hq9 => ?_)
          obtain ⟨rfl, rfl⟩ := hq9
          refine JT_goto (tgt := 71) dX6_readLine_63 (by decide) ?_
          exact JS_iret dX6_readLine_71 rfl (n01 h.1) h.2
      · have h := h.2 hc6
        refine JT_aload_n (q := 0) dX6_readLine_42 rfl rfl ?_
        refine JT_aload_n (q := 1) dX6_readLine_43 rfl rfl ?_
        obtain ⟨o5, h⟩ := h
        refine JS_callVI (M' := MX6_readLineRoom) (d' := 4) (As := [.ref 3]) (rest := []) (P := (fun zv9 wm9 => (vX6_readLineRoom s p0) = zv9 ∧ (mX6_readLineRoom s p0) = wm9)) dX6_readLine_44 cvX6_114 okX6_readLineRoom rfl (Nat.le_of_ble_eq_true rfl) (pxB hp0) (px2 hp0) (pxN hp0) hci_6 (Nat.le_of_ble_eq_true rfl) (Nat.le_of_ble_eq_true rfl) (pX6_readLineRoom hp0  o5 ⟨rfl, rfl⟩) (fun zv9 wm9 hq9 => ?_)
        obtain ⟨rfl, rfl⟩ := hq9
        exact JS_iret dX6_readLine_47 rfl (n01 h.1) h.2
    · have h := h.2 hc9
      refine JT_aload_n (q := 0) dX6_readLine_26 rfl rfl ?_
      refine JT_aload_n (q := 1) dX6_readLine_27 rfl rfl ?_
      obtain ⟨o8, h⟩ := h
      refine JS_callVI (M' := MX6_readKind) (d' := 4) (As := [.ref 3]) (rest := []) (P := (fun zv9 wm9 => (vX6_readKind s p0) = zv9 ∧ (mX6_readKind s p0) = wm9)) dX6_readLine_28 cvX6_109 okX6_readKind rfl (Nat.le_of_ble_eq_true rfl) (pxB hp0) (px2 hp0) (pxN hp0) hci_6 (Nat.le_of_ble_eq_true rfl) (Nat.le_of_ble_eq_true rfl) (pX6_readKind hp0  o8 ⟨rfl, rfl⟩) (fun zv9 wm9 hq9 => ?_)
      obtain ⟨rfl, rfl⟩ := hq9
      exact JS_iret dX6_readLine_31 rfl (n01 h.1) h.2
  · have h := h.2 hc12
    refine JT_aload_n (q := 0) dX6_readLine_10 rfl rfl ?_
    refine JT_aload_n (q := 1) dX6_readLine_11 rfl rfl ?_
    obtain ⟨o11, h⟩ := h
    refine JS_callVI (M' := MX6_readBody) (d' := 4) (As := [.ref 3]) (rest := []) (P := (fun zv9 wm9 => (vX6_readBody s p0) = zv9 ∧ (mX6_readBody s p0) = wm9)) dX6_readLine_12 cvX6_104 okX6_readBody rfl (Nat.le_of_ble_eq_true rfl) (pxB hp0) (px2 hp0) (pxN hp0) hci_6 (Nat.le_of_ble_eq_true rfl) (Nat.le_of_ble_eq_true rfl) (pX6_readBody hp0  o11 ⟨rfl, rfl⟩) (fun zv9 wm9 hq9 => ?_)
    obtain ⟨rfl, rfl⟩ := hq9
    exact JS_iret dX6_readLine_15 rfl (n01 h.1) h.2
set_option maxRecDepth 1000000 in
theorem pX6_readLine {p0 : Nat} (hp0 : p0 ∈ PX) {s : SM} {Q : Int32 → SM → Prop} (hr : rX6_readLine s p0) (h : Q (vX6_readLine s p0) (mX6_readLine s p0)) : KI MX6_readLine 5 [.ref p0, .ref 3] s Q := by
  refine bX6_readLine hp0 ?_
  unfold rX6_readLine at hr
  unfold vX6_readLine mX6_readLine at h
  refine ⟨fun c => ?_, fun c => ?_⟩
  · replace hr := hr.1 c
    replace h := q2p c h
    refine ⟨fun c => ?_, fun c => ?_⟩
    · replace hr := hr.1 c
      replace h := q2p c h
      refine ⟨fun c => ?_, fun c => ?_⟩
      · replace hr := hr.1 c
        replace h := q2p c h
        refine ⟨fun c => ?_, fun c => ?_⟩
        · replace h := q2p c h
          first | exact h | contradiction
        · replace hr := hr c
          replace h := q2n c h
          refine ⟨hr.1, ?_⟩
          replace hr := hr.2
          refine ⟨hr, ?_⟩
          first | exact h | contradiction
      · replace hr := hr.2 c
        replace h := q2n c h
        refine ⟨hr.1, ?_⟩
        replace hr := hr.2
        refine ⟨hr, ?_⟩
        first | exact h | contradiction
    · replace hr := hr.2 c
      replace h := q2n c h
      refine ⟨hr.1, ?_⟩
      replace hr := hr.2
      refine ⟨hr, ?_⟩
      first | exact h | contradiction
  · replace hr := hr.2 c
    replace h := q2n c h
    refine ⟨hr.1, ?_⟩
    replace hr := hr.2
    refine ⟨hr, ?_⟩
    first | exact h | contradiction
set_option maxRecDepth 1000000 in
theorem bX0_readFrom_11 {k0 : Nat} (hk0 : k0 ∈ BX) {p2 : Nat} (hp2 : p2 ∈ PX) (a3 : Int32) {s : SM} {Q : Int32 → SM → Prop} (h : (((600 : Int32) < a3 → Q (0 : Int32) s) ∧ (¬ (600 : Int32) < a3 → rX9_nextToken s  ∧ (((vX9_isEnd (mX9_nextToken s ) ) = 0 → ((¬ (vX0_actTold (mX9_nextToken s ) ) = (-1 : Int32) → (((gI (mX9_nextToken s ) k0 0) < (40 : Int32) → vp_in (gI (mX9_nextToken s ) k0 0) 40 ∧ rX0_readRest (pI (mX9_nextToken s ) (k0 + 1) ((gI (mX9_nextToken s ) k0 0)).toNatClampNeg (vX0_actTold (mX9_nextToken s ) )) k0 p2 (vX0_actTold (mX9_nextToken s ) ) ∧ (∀ s2, s2 = (mX0_readRest (pI (mX9_nextToken s ) (k0 + 1) ((gI (mX9_nextToken s ) k0 0)).toNatClampNeg (vX0_actTold (mX9_nextToken s ) )) k0 p2 (vX0_actTold (mX9_nextToken s ) )) → (((vX0_readRest (pI (mX9_nextToken s ) (k0 + 1) ((gI (mX9_nextToken s ) k0 0)).toNatClampNeg (vX0_actTold (mX9_nextToken s ) )) k0 p2 (vX0_actTold (mX9_nextToken s ) )) = 0 → Q (0 : Int32) s2) ∧ (¬ (vX0_readRest (pI (mX9_nextToken s ) (k0 + 1) ((gI (mX9_nextToken s ) k0 0)).toNatClampNeg (vX0_actTold (mX9_nextToken s ) )) k0 p2 (vX0_actTold (mX9_nextToken s ) )) = 0 → rX9_takeStop s2  ∧ ((¬ (vX9_takeStop s2 ) = 0 → BI MX0_readFrom 6 11 [(0, .ref k0), (1, .ref 3), (2, .ref p2), (3, .int (a3 + 1))] (pI (mX9_takeStop s2 ) k0 0 ((gI (mX9_takeStop s2 ) k0 0) + (1 : Int32))) Q) ∧ ((vX9_takeStop s2 ) = 0 → Q (0 : Int32) (mX9_takeStop s2 ))))))) ∧ (¬ (gI (mX9_nextToken s ) k0 0) < (40 : Int32) → Q (vX9_refuse (mX9_nextToken s ) (4 : Int32)) (mX9_refuse (mX9_nextToken s ) (4 : Int32))))) ∧ ((vX0_actTold (mX9_nextToken s ) ) = (-1 : Int32) → Q (vX9_refuse (mX9_nextToken s ) (1 : Int32)) (mX9_refuse (mX9_nextToken s ) (1 : Int32))))) ∧ (¬ (vX9_isEnd (mX9_nextToken s ) ) = 0 → Q (vX9_isAllRead (mX9_nextToken s ) ) (mX9_isAllRead (mX9_nextToken s ) )))))) : BI MX0_readFrom 6 11 [(0, .ref k0), (1, .ref 3), (2, .ref p2), (3, .int a3)] s Q := by
  refine JT_iload_n (q := 3) dX0_readFrom_11 rfl rfl ?_
  refine JT_sipush (v := 600) dX0_readFrom_12 sp_600 ?_
  refine JT_icmp_gt (tgt := 114) dX0_readFrom_15 (by decide) (fun hc16 => ?_) (fun hc16 => ?_)
  · have h := h.1 hc16
    refine JT_iconst (v := 0) dX0_readFrom_114 ic_0 ?_
    exact JS_iret dX0_readFrom_115 rfl (n01 (Or.inl rfl)) h
  · have h := h.2 hc16
    refine JT_aload_n (q := 1) dX0_readFrom_18 rfl rfl ?_
    obtain ⟨o15, h⟩ := h
    refine JS_callVV (M' := MX9_nextToken) (d' := 2) (As := []) (rest := []) (P := (fun wm9 => (mX9_nextToken s ) = wm9)) dX0_readFrom_19 cvX0_42 okX9_nextToken rfl (Nat.le_of_ble_eq_true rfl) BS_3 (Nat.le_of_ble_eq_true rfl) (Nat.le_of_ble_eq_true rfl) hci_9 (Nat.le_of_ble_eq_true rfl) (Nat.le_of_ble_eq_true rfl) (pX9_nextToken   o15 rfl) (fun wm9 hq9 => ?_)
    subst hq9
    refine JT_aload_n (q := 1) dX0_readFrom_22 rfl rfl ?_
    refine JS_callVI (M' := MX9_isEnd) (d' := 0) (As := []) (rest := []) (P := (fun zv9 wm9 => (vX9_isEnd (mX9_nextToken s ) ) = zv9 ∧ (mX9_nextToken s ) = wm9)) dX0_readFrom_23 cvX0_45 okX9_isEnd rfl (Nat.le_of_ble_eq_true rfl) BS_3 (Nat.le_of_ble_eq_true rfl) (Nat.le_of_ble_eq_true rfl) hci_9 (Nat.le_of_ble_eq_true rfl) (Nat.le_of_ble_eq_true rfl) (pX9_isEnd    ⟨rfl, rfl⟩) (fun zv9 wm9 hq9 => ?_)
    obtain ⟨rfl, rfl⟩ := hq9
    refine JT_if_eq (tgt := 34) dX0_readFrom_26 (by decide) (fun hc13 => ?_) (fun hc13 => ?_)
    · have h := h.1 hc13
      refine JT_aload_n (q := 1) dX0_readFrom_34 rfl rfl ?_
      refine JS_callSI (M' := MX0_actTold) (d' := 1) (As := [.ref 3]) (rest := []) (P := (fun zv9 wm9 => (vX0_actTold (mX9_nextToken s ) ) = zv9 ∧ (mX9_nextToken s ) = wm9)) dX0_readFrom_35 cvX0_52 okX0_actTold rfl (Nat.le_of_ble_eq_true rfl) (Nat.le_of_ble_eq_true rfl) (Nat.le_of_ble_eq_true rfl) (pX0_actTold    ⟨rfl, rfl⟩) (fun zv9 wm9 hq9 => ?_)
      obtain ⟨rfl, rfl⟩ := hq9
      refine JT_istore (lv' := [(4, .int (vX0_actTold (mX9_nextToken s ) )), (0, .ref k0), (1, .ref 3), (2, .ref p2), (3, .int a3)]) dX0_readFrom_38 (Nat.le_of_ble_eq_true rfl) rfl ?_
      refine JT_iload (q := 0) dX0_readFrom_40 rfl ?_
      refine JT_iconst (v := -1) dX0_readFrom_42 ic_m1 ?_
      refine JT_icmp_ne (tgt := 52) dX0_readFrom_43 (by decide) (fun hc10 => ?_) (fun hc10 => ?_)
      · have h := h.1 hc10
        refine JT_aload_n (q := 1) dX0_readFrom_52 rfl rfl ?_
        refine JS_getI dX0_readFrom_53 flX0_33 (bxB hk0) (bx2 hk0) (bxN hk0) (Or.inl ct_0_0) ?_
        refine JT_bipush (v := 40) dX0_readFrom_56 bp_40 ?_
        refine JT_icmp_lt (tgt := 67) dX0_readFrom_58 (by decide) (fun hc8 => ?_) (fun hc8 => ?_)
        · have h := h.1 hc8
          refine JT_aload_n (q := 1) dX0_readFrom_67 rfl rfl ?_
          refine JS_getR (x := (k0 + 1)) dX0_readFrom_68 flX0_9 (bxB hk0) (bx2 hk0) (bxN hk0) (Or.inr ⟨_, ct_0_1⟩) (bxR1 hk0) ?_
          refine JT_aload_n (q := 1) dX0_readFrom_71 rfl rfl ?_
          refine JS_getI dX0_readFrom_72 flX0_33 (bxB hk0) (bx2 hk0) (bxN hk0) (Or.inl ct_0_0) ?_
          refine JT_iload (q := 0) dX0_readFrom_75 rfl ?_
          obtain ⟨o1, h⟩ := h
          refine JS_iast dX0_readFrom_77 (bxB1 hk0) (bx2k hk0 _) (bxNk hk0 (Nat.le_of_ble_eq_true rfl)) o1 ?_
          refine JT_aload_n (q := 1) dX0_readFrom_78 rfl rfl ?_
          refine JT_aload_n (q := 2) dX0_readFrom_79 rfl rfl ?_
          refine JT_aload_n (q := 3) dX0_readFrom_80 rfl rfl ?_
          refine JT_iload (q := 0) dX0_readFrom_81 rfl ?_
          obtain ⟨o6, h⟩ := h
          refine JS_callVI (M' := MX0_readRest) (d' := 5) (As := [.ref 3, .ref p2, .int (vX0_actTold (mX9_nextToken s ) )]) (rest := []) (P := (fun zv9 wm9 => (vX0_readRest (pI (mX9_nextToken s ) (k0 + 1) ((gI (mX9_nextToken s ) k0 0)).toNatClampNeg (vX0_actTold (mX9_nextToken s ) )) k0 p2 (vX0_actTold (mX9_nextToken s ) )) = zv9 ∧ (mX0_readRest (pI (mX9_nextToken s ) (k0 + 1) ((gI (mX9_nextToken s ) k0 0)).toNatClampNeg (vX0_actTold (mX9_nextToken s ) )) k0 p2 (vX0_actTold (mX9_nextToken s ) )) = wm9)) dX0_readFrom_83 cvX0_60 okX0_readRest rfl (Nat.le_of_ble_eq_true rfl) (bxB hk0) (bx2 hk0) (bxN hk0) hci_0 (Nat.le_of_ble_eq_true rfl) (Nat.le_of_ble_eq_true rfl) (pX0_readRest hk0 hp2 ((vX0_actTold (mX9_nextToken s ) )) o6 ⟨rfl, rfl⟩) (fun zv9 wm9 hq9 => ?_)
          obtain ⟨rfl, rfl⟩ := hq9
          obtain ⟨s2, hs2⟩ : ∃ z, z = (mX0_readRest (pI (mX9_nextToken s ) (k0 + 1) ((gI (mX9_nextToken s ) k0 0)).toNatClampNeg (vX0_actTold (mX9_nextToken s ) )) k0 p2 (vX0_actTold (mX9_nextToken s ) )) := ⟨_, rfl⟩
          replace h := h s2 hs2
          rw [← hs2]
          refine JT_if_eq (tgt := 96) dX0_readFrom_86 (by decide) (fun hc5 => ?_) (fun hc5 => ?_)
          · have h := h.1 hc5
            refine JT_iconst (v := 0) dX0_readFrom_96 ic_0 ?_
            exact JS_iret dX0_readFrom_97 rfl (n01 (Or.inl rfl)) h
          · have h := h.2 hc5
            refine JT_aload_n (q := 2) dX0_readFrom_89 rfl rfl ?_
            obtain ⟨o4, h⟩ := h
            refine JS_callVI (M' := MX9_takeStop) (d' := 3) (As := []) (rest := []) (P := (fun zv9 wm9 => (vX9_takeStop s2 ) = zv9 ∧ (mX9_takeStop s2 ) = wm9)) dX0_readFrom_90 cvX0_64 okX9_takeStop rfl (Nat.le_of_ble_eq_true rfl) BS_3 (Nat.le_of_ble_eq_true rfl) (Nat.le_of_ble_eq_true rfl) hci_9 (Nat.le_of_ble_eq_true rfl) (Nat.le_of_ble_eq_true rfl) (pX9_takeStop   o4 ⟨rfl, rfl⟩) (fun zv9 wm9 hq9 => ?_)
            obtain ⟨rfl, rfl⟩ := hq9
            refine JT_if_ne (tgt := 98) dX0_readFrom_93 (by decide) (fun hc3 => ?_) (fun hc3 => ?_)
            · have h := h.1 hc3
              refine JT_aload_n (q := 1) dX0_readFrom_98 rfl rfl ?_
              refine JT_dup dX0_readFrom_99 rfl ?_
              refine JS_getI dX0_readFrom_100 flX0_33 (bxB hk0) (bx2 hk0) (bxN hk0) (Or.inl ct_0_0) ?_
              refine JT_iconst (v := 1) dX0_readFrom_103 ic_1 ?_
              refine JT_iadd dX0_readFrom_104 ?_
              refine JS_putI dX0_readFrom_105 flX0_33 (bxB hk0) (bx2 hk0) (bxN hk0) ct_0_0 ?_
              refine JT_iinc (q := 4) (v := (a3 + 1)) (lv' := [(3, .int (a3 + 1)), (4, .int (vX0_actTold (mX9_nextToken s ) )), (0, .ref k0), (1, .ref 3), (2, .ref p2)]) dX0_readFrom_108 rfl (by rfl) (Nat.le_of_ble_eq_true rfl) rfl ?_
              refine JT_goto (tgt := 11) dX0_readFrom_111 (by decide) ?_
              exact JT_sub [2, 3, 4, 0] rfl h
            · have h := h.2 hc3
              refine JT_iconst (v := 0) dX0_readFrom_96 ic_0 ?_
              exact JS_iret dX0_readFrom_97 rfl (n01 (Or.inl rfl)) h
        · have h := h.2 hc8
          refine JT_aload_n (q := 2) dX0_readFrom_61 rfl rfl ?_
          refine JT_iconst (v := 4) dX0_readFrom_62 ic_4 ?_
          refine JS_callVI (M' := MX9_refuse) (d' := 0) (As := [.int (4 : Int32)]) (rest := []) (P := (fun zv9 wm9 => (vX9_refuse (mX9_nextToken s ) (4 : Int32)) = zv9 ∧ (mX9_refuse (mX9_nextToken s ) (4 : Int32)) = wm9)) dX0_readFrom_63 cvX0_56 okX9_refuse rfl (Nat.le_of_ble_eq_true rfl) BS_3 (Nat.le_of_ble_eq_true rfl) (Nat.le_of_ble_eq_true rfl) hci_9 (Nat.le_of_ble_eq_true rfl) (Nat.le_of_ble_eq_true rfl) (pX9_refuse  ((4 : Int32))  ⟨rfl, rfl⟩) (fun zv9 wm9 hq9 => ?_)
          obtain ⟨rfl, rfl⟩ := hq9
          exact JS_iret dX0_readFrom_66 rfl (n01 (zX9_refuse (mX9_nextToken s ) (4 : Int32))) h
      · have h := h.2 hc10
        refine JT_aload_n (q := 2) dX0_readFrom_46 rfl rfl ?_
        refine JT_iconst (v := 1) dX0_readFrom_47 ic_1 ?_
        refine JS_callVI (M' := MX9_refuse) (d' := 0) (As := [.int (1 : Int32)]) (rest := []) (P := (fun zv9 wm9 => (vX9_refuse (mX9_nextToken s ) (1 : Int32)) = zv9 ∧ (mX9_refuse (mX9_nextToken s ) (1 : Int32)) = wm9)) dX0_readFrom_48 cvX0_56 okX9_refuse rfl (Nat.le_of_ble_eq_true rfl) BS_3 (Nat.le_of_ble_eq_true rfl) (Nat.le_of_ble_eq_true rfl) hci_9 (Nat.le_of_ble_eq_true rfl) (Nat.le_of_ble_eq_true rfl) (pX9_refuse  ((1 : Int32))  ⟨rfl, rfl⟩) (fun zv9 wm9 hq9 => ?_)
        obtain ⟨rfl, rfl⟩ := hq9
        exact JS_iret dX0_readFrom_51 rfl (n01 (zX9_refuse (mX9_nextToken s ) (1 : Int32))) h
    · have h := h.2 hc13
      refine JT_aload_n (q := 1) dX0_readFrom_29 rfl rfl ?_
      refine JS_callVI (M' := MX9_isAllRead) (d' := 1) (As := []) (rest := []) (P := (fun zv9 wm9 => (vX9_isAllRead (mX9_nextToken s ) ) = zv9 ∧ (mX9_isAllRead (mX9_nextToken s ) ) = wm9)) dX0_readFrom_30 cvX0_49 okX9_isAllRead rfl (Nat.le_of_ble_eq_true rfl) BS_3 (Nat.le_of_ble_eq_true rfl) (Nat.le_of_ble_eq_true rfl) hci_9 (Nat.le_of_ble_eq_true rfl) (Nat.le_of_ble_eq_true rfl) (pX9_isAllRead    ⟨rfl, rfl⟩) (fun zv9 wm9 hq9 => ?_)
      obtain ⟨rfl, rfl⟩ := hq9
      exact JS_iret dX0_readFrom_33 rfl (n01 (zX9_isAllRead (mX9_nextToken s ) )) h
set_option maxRecDepth 1000000 in
theorem bX0_readFrom {k0 : Nat} (hk0 : k0 ∈ BX) {p2 : Nat} (hp2 : p2 ∈ PX) {s : SM} {Q : Int32 → SM → Prop} (h : BI MX0_readFrom 6 11 [(0, .ref k0), (1, .ref 3), (2, .ref p2), (3, .int (0 : Int32))] (mX9_begin (pI s k0 0 (0 : Int32)) ) Q) : KI MX0_readFrom 6 [.ref k0, .ref 3, .ref p2] s Q := by
  show BI MX0_readFrom 6 0 [(0, .ref k0), (1, .ref 3), (2, .ref p2)] s Q
  refine JT_aload_n (q := 0) dX0_readFrom_0 rfl rfl ?_
  refine JT_iconst (v := 0) dX0_readFrom_1 ic_0 ?_
  refine JS_putI dX0_readFrom_2 flX0_33 (bxB hk0) (bx2 hk0) (bxN hk0) ct_0_0 ?_
  refine JT_aload_n (q := 1) dX0_readFrom_5 rfl rfl ?_
  refine JS_callVV (M' := MX9_begin) (d' := 0) (As := []) (rest := []) (P := (fun wm9 => (mX9_begin (pI s k0 0 (0 : Int32)) ) = wm9)) dX0_readFrom_6 cvX0_37 okX9_begin rfl (Nat.le_of_ble_eq_true rfl) BS_3 (Nat.le_of_ble_eq_true rfl) (Nat.le_of_ble_eq_true rfl) hci_9 (Nat.le_of_ble_eq_true rfl) (Nat.le_of_ble_eq_true rfl) (pX9_begin    rfl) (fun wm9 hq9 => ?_)
  subst hq9
  refine JT_iconst (v := 0) dX0_readFrom_9 ic_0 ?_
  refine JT_istore_n (lv' := [(3, .int (0 : Int32)), (0, .ref k0), (1, .ref 3), (2, .ref p2)]) dX0_readFrom_10 rfl (Nat.le_of_ble_eq_true rfl) rfl ?_
  exact JT_sub [1, 2, 3, 0] rfl h
set_option maxRecDepth 1000000 in
theorem gX0_readFrom {k0 : Nat} (hk0 : k0 ∈ BX) {p2 : Nat} (hp2 : p2 ∈ PX) : ∀ n : Nat, (∀ (a3 : Int32) (s : SM) (Q : Int32 → SM → Prop), ((qX0_readFrom n) s k0 p2 a3) → Q ((lX0_readFrom n) s k0 p2 a3).1 ((lX0_readFrom n) s k0 p2 a3).2 → BI MX0_readFrom 6 11 [(0, .ref k0), (1, .ref 3), (2, .ref p2), (3, .int a3)] s Q) := by
  intro n
  induction n with
  | zero => exact fun _ _ _ hq _ => absurd hq id
  | succ n ih =>
    intro a3 s Q hr h
    replace hr : uX0_readFrom_11 (qX0_readFrom n) s k0 p2 a3 := hr
    replace h : Q (tX0_readFrom_11 (lX0_readFrom n) s k0 p2 a3).1 (tX0_readFrom_11 (lX0_readFrom n) s k0 p2 a3).2 := h
    unfold uX0_readFrom_11 at hr
    unfold tX0_readFrom_11 at h
    refine bX0_readFrom_11 hk0 hp2 a3 ?_
    refine ⟨fun c => ?_, fun c => ?_⟩
    · replace h := q3p c h
      first | exact h | contradiction
    · replace hr := hr c
      replace h := q3n c h
      refine ⟨hr.1, ?_⟩
      replace hr := hr.2
      refine ⟨fun c => ?_, fun c => ?_⟩
      · replace hr := hr c
        replace h := q3p c h
        refine ⟨fun c => ?_, fun c => ?_⟩
        · replace hr := hr c
          replace h := q3n c h
          refine ⟨fun c => ?_, fun c => ?_⟩
          · replace hr := hr c
            replace h := q3p c h
            refine ⟨hr.1, ?_⟩
            replace hr := hr.2
            refine ⟨hr.1, ?_⟩
            replace hr := hr.2
            intro s2 e9
            replace hr := hr s2 e9
            try rw [← e9] at h
            try dsimp only at h
            refine ⟨fun c => ?_, fun c => ?_⟩
            · replace h := q3p c h
              first | exact h | contradiction
            · replace hr := hr c
              replace h := q3n c h
              refine ⟨hr.1, ?_⟩
              replace hr := hr.2
              refine ⟨fun c => ?_, fun c => ?_⟩
              · replace hr := hr c
                replace h := q3n c h
                first | exact ih (a3 + 1) _ Q hr h | contradiction
              · replace h := q3p c h
                first | exact h | contradiction
          · replace h := q3n c h
            first | exact h | contradiction
        · replace h := q3p c h
          first | exact h | contradiction
      · replace h := q3n c h
        first | exact h | contradiction
set_option maxRecDepth 1000000 in
theorem pX0_readFrom {k0 : Nat} (hk0 : k0 ∈ BX) {p2 : Nat} (hp2 : p2 ∈ PX) {s : SM} {Q : Int32 → SM → Prop} (hr : rX0_readFrom s k0 p2) (h : Q (vX0_readFrom s k0 p2) (mX0_readFrom s k0 p2)) : KI MX0_readFrom 6 [.ref k0, .ref 3, .ref p2] s Q := by
  replace h : Q (fX0_readFrom s k0 p2).1 (fX0_readFrom s k0 p2).2 := h
  unfold rX0_readFrom at hr
  unfold fX0_readFrom at h
  refine bX0_readFrom hk0 hp2 ?_
  first | exact (gX0_readFrom hk0 hp2 FU) (0 : Int32) _ Q hr h | contradiction
set_option maxRecDepth 1000000 in
theorem bX11_owed (a1 : Int32) (a2 : Int32) (a3 : Int32) {s : SM} {Q : Int32 → SM → Prop} (h : (((vX6_hasBody s 5 a1) = 0 → Q (-1 : Int32) s) ∧ (¬ (vX6_hasBody s 5 a1) = 0 → ((a2 < 0 → Q (-1 : Int32) s) ∧ (¬ a2 < 0 → ((((1 : Int32) <<< ((gI s 5 6) &&& 31)) ≤ a2 → Q (-1 : Int32) s) ∧ (¬ ((1 : Int32) <<< ((gI s 5 6) &&& 31)) ≤ a2 → ((a3 < 0 → Q (-1 : Int32) s) ∧ (¬ a3 < 0 → ((a3 ≤ (1 : Int32) → ((¬ a3 = 0 → rX4_owedAtMost s 31 5 a1 a2 ∧ Q (vX4_owedAtMost s 31 5 a1 a2) s) ∧ (a3 = 0 → rX4_owedSurely s 31 5 a1 a2 ∧ Q (vX4_owedSurely s 31 5 a1 a2) s))) ∧ (¬ a3 ≤ (1 : Int32) → Q (-1 : Int32) s))))))))))) : KI MX11_owed 6 [.ref 2, .int a1, .int a2, .int a3] s Q := by
  show BI MX11_owed 6 0 [(0, .ref 2), (1, .int a1), (2, .int a2), (3, .int a3)] s Q
  refine JT_aload_n (q := 0) dX11_owed_0 rfl rfl ?_
  refine JS_getR (x := 5) dX11_owed_1 flX11_19 BS_2 (Nat.le_of_ble_eq_true rfl) (Nat.le_of_ble_eq_true rfl) (Or.inl ⟨_, ct_11_1⟩) RF_2_1 ?_
  refine JT_iload_n (q := 1) dX11_owed_4 rfl rfl ?_
  refine JS_callVI (M' := MX6_hasBody) (d' := 0) (As := [.int a1]) (rest := []) (P := (fun zv9 wm9 => (vX6_hasBody s 5 a1) = zv9 ∧ s = wm9)) dX11_owed_5 cvX11_172 okX6_hasBody rfl (Nat.le_of_ble_eq_true rfl) BS_5 (Nat.le_of_ble_eq_true rfl) (Nat.le_of_ble_eq_true rfl) hci_6 (Nat.le_of_ble_eq_true rfl) (Nat.le_of_ble_eq_true rfl) (pX6_hasBody hp_5 (a1)  ⟨rfl, rfl⟩) (fun zv9 wm9 hq9 => ?_)
  obtain ⟨rfl, rfl⟩ := hq9
  refine JT_if_eq (tgt := 37) dX11_owed_8 (by decide) (fun hc8 => ?_) (fun hc8 => ?_)
  · have h := h.1 hc8
    refine JT_iconst (v := -1) dX11_owed_37 ic_m1 ?_
    exact JS_iret dX11_owed_38 rfl rfl h
  · have h := h.2 hc8
    refine JT_iload_n (q := 2) dX11_owed_11 rfl rfl ?_
    refine JT_if_lt (tgt := 37) dX11_owed_12 (by decide) (fun hc7 => ?_) (fun hc7 => ?_)
    · have h := h.1 hc7
      refine JT_iconst (v := -1) dX11_owed_37 ic_m1 ?_
      exact JS_iret dX11_owed_38 rfl rfl h
    · have h := h.2 hc7
      refine JT_iload_n (q := 2) dX11_owed_15 rfl rfl ?_
      refine JT_iconst (v := 1) dX11_owed_16 ic_1 ?_
      refine JT_aload_n (q := 0) dX11_owed_17 rfl rfl ?_
      refine JS_getR (x := 5) dX11_owed_18 flX11_19 BS_2 (Nat.le_of_ble_eq_true rfl) (Nat.le_of_ble_eq_true rfl) (Or.inl ⟨_, ct_11_1⟩) RF_2_1 ?_
      refine JS_getI dX11_owed_21 flX11_150 BS_5 (Nat.le_of_ble_eq_true rfl) (Nat.le_of_ble_eq_true rfl) (Or.inl ct_6_6) ?_
      refine JT_ishl dX11_owed_24 ?_
      refine JT_icmp_ge (tgt := 37) dX11_owed_25 (by decide) (fun hc6 => ?_) (fun hc6 => ?_)
      · have h := h.1 hc6
        refine JT_iconst (v := -1) dX11_owed_37 ic_m1 ?_
        exact JS_iret dX11_owed_38 rfl rfl h
      · have h := h.2 hc6
        refine JT_iload_n (q := 3) dX11_owed_28 rfl rfl ?_
        refine JT_if_lt (tgt := 37) dX11_owed_29 (by decide) (fun hc5 => ?_) (fun hc5 => ?_)
        · have h := h.1 hc5
          refine JT_iconst (v := -1) dX11_owed_37 ic_m1 ?_
          exact JS_iret dX11_owed_38 rfl rfl h
        · have h := h.2 hc5
          refine JT_iload_n (q := 3) dX11_owed_32 rfl rfl ?_
          refine JT_iconst (v := 1) dX11_owed_33 ic_1 ?_
          refine JT_icmp_le (tgt := 39) dX11_owed_34 (by decide) (fun hc4 => ?_) (fun hc4 => ?_)
          · have h := h.1 hc4
            refine JT_iload_n (q := 3) dX11_owed_39 rfl rfl ?_
            refine JT_if_ne (tgt := 55) dX11_owed_40 (by decide) (fun hc3 => ?_) (fun hc3 => ?_)
            · have h := h.1 hc3
              refine JT_aload_n (q := 0) dX11_owed_55 rfl rfl ?_
              refine JS_getR (x := 31) dX11_owed_56 flX11_41 BS_2 (Nat.le_of_ble_eq_true rfl) (Nat.le_of_ble_eq_true rfl) (Or.inl ⟨_, ct_11_5⟩) RF_2_5 ?_
              refine JT_iload_n (q := 1) dX11_owed_59 rfl rfl ?_
              refine JT_iload_n (q := 2) dX11_owed_60 rfl rfl ?_
              obtain ⟨o1, h⟩ := h
              refine JS_callVI (M' := MX4_owedAtMost) (d' := 5) (As := [.int a1, .int a2]) (rest := []) (P := (fun zv9 wm9 => (vX4_owedAtMost s 31 5 a1 a2) = zv9 ∧ s = wm9)) dX11_owed_61 cvX11_411 okX4_owedAtMost rfl (Nat.le_of_ble_eq_true rfl) BS_31 (Nat.le_of_ble_eq_true rfl) (Nat.le_of_ble_eq_true rfl) hci_4 (Nat.le_of_ble_eq_true rfl) (Nat.le_of_ble_eq_true rfl) (pX4_owedAtMost hL_31 (a1) (a2) o1 ⟨rfl, rfl⟩) (fun zv9 wm9 hq9 => ?_)
              obtain ⟨rfl, rfl⟩ := hq9
              exact JS_iret dX11_owed_64 rfl rfl h
            · have h := h.2 hc3
              refine JT_aload_n (q := 0) dX11_owed_43 rfl rfl ?_
              refine JS_getR (x := 31) dX11_owed_44 flX11_41 BS_2 (Nat.le_of_ble_eq_true rfl) (Nat.le_of_ble_eq_true rfl) (Or.inl ⟨_, ct_11_5⟩) RF_2_5 ?_
              refine JT_iload_n (q := 1) dX11_owed_47 rfl rfl ?_
              refine JT_iload_n (q := 2) dX11_owed_48 rfl rfl ?_
              obtain ⟨o2, h⟩ := h
              refine JS_callVI (M' := MX4_owedSurely) (d' := 4) (As := [.int a1, .int a2]) (rest := []) (P := (fun zv9 wm9 => (vX4_owedSurely s 31 5 a1 a2) = zv9 ∧ s = wm9)) dX11_owed_49 cvX11_408 okX4_owedSurely rfl (Nat.le_of_ble_eq_true rfl) BS_31 (Nat.le_of_ble_eq_true rfl) (Nat.le_of_ble_eq_true rfl) hci_4 (Nat.le_of_ble_eq_true rfl) (Nat.le_of_ble_eq_true rfl) (pX4_owedSurely hL_31 (a1) (a2) o2 ⟨rfl, rfl⟩) (fun zv9 wm9 hq9 => ?_)
              obtain ⟨rfl, rfl⟩ := hq9
              refine JT_goto (tgt := 64) dX11_owed_52 (by decide) ?_
              exact JS_iret dX11_owed_64 rfl rfl h
          · have h := h.2 hc4
            refine JT_iconst (v := -1) dX11_owed_37 ic_m1 ?_
            exact JS_iret dX11_owed_38 rfl rfl h
set_option maxRecDepth 1000000 in
theorem pX11_owed (a1 : Int32) (a2 : Int32) (a3 : Int32) {s : SM} {Q : Int32 → SM → Prop} (hr : rX11_owed s a1 a2 a3) (h : Q (vX11_owed s a1 a2 a3) s) : KI MX11_owed 6 [.ref 2, .int a1, .int a2, .int a3] s Q := by
  refine bX11_owed a1 a2 a3 ?_
  unfold rX11_owed at hr
  unfold vX11_owed at h
  refine ⟨fun c => ?_, fun c => ?_⟩
  · replace h := qlp c h
    first | exact h | contradiction
  · replace hr := hr c
    replace h := qln c h
    refine ⟨fun c => ?_, fun c => ?_⟩
    · replace h := qlp c h
      first | exact h | contradiction
    · replace hr := hr c
      replace h := qln c h
      refine ⟨fun c => ?_, fun c => ?_⟩
      · replace h := qlp c h
        first | exact h | contradiction
      · replace hr := hr c
        replace h := qln c h
        refine ⟨fun c => ?_, fun c => ?_⟩
        · replace h := qlp c h
          first | exact h | contradiction
        · replace hr := hr c
          replace h := qln c h
          refine ⟨fun c => ?_, fun c => ?_⟩
          · replace hr := hr c
            replace h := qlp c h
            refine ⟨fun c => ?_, fun c => ?_⟩
            · replace hr := hr.1 c
              replace h := qln c h
              refine ⟨hr, ?_⟩
              first | exact h | contradiction
            · replace hr := hr.2 c
              replace h := qlp c h
              refine ⟨hr, ?_⟩
              first | exact h | contradiction
          · replace h := qln c h
            first | exact h | contradiction
set_option maxRecDepth 1000000 in
theorem bX12_cut  {s : SM} {Q : Int32 → SM → Prop} (h : rX12_bestOf (pI s 248 0 (0 : Int32)) (-1 : Int32) ∧ ((0 ≤ (vX12_bestOf (pI s 248 0 (0 : Int32)) (-1 : Int32)) → rX12_keep (mX12_bestOf (pI s 248 0 (0 : Int32)) (-1 : Int32))  ∧ rX12_cuts (mX12_keep (mX12_bestOf (pI s 248 0 (0 : Int32)) (-1 : Int32)) )  ∧ Q (vX12_cuts (mX12_keep (mX12_bestOf (pI s 248 0 (0 : Int32)) (-1 : Int32)) ) ) (mX12_cuts (mX12_keep (mX12_bestOf (pI s 248 0 (0 : Int32)) (-1 : Int32)) ) )) ∧ (¬ 0 ≤ (vX12_bestOf (pI s 248 0 (0 : Int32)) (-1 : Int32)) → Q (-1 : Int32) (mX12_bestOf (pI s 248 0 (0 : Int32)) (-1 : Int32))))) : KI MX12_cut 6 [.ref 248] s Q := by
  show BI MX12_cut 6 0 [(0, .ref 248)] s Q
  refine JT_aload_n (q := 0) dX12_cut_0 rfl rfl ?_
  refine JT_iconst (v := 0) dX12_cut_1 ic_0 ?_
  refine JS_putI dX12_cut_2 flX12_1 BS_248 (Nat.le_of_ble_eq_true rfl) (Nat.le_of_ble_eq_true rfl) ct_12_0 ?_
  refine JT_aload_n (q := 0) dX12_cut_5 rfl rfl ?_
  refine JT_iconst (v := -1) dX12_cut_6 ic_m1 ?_
  obtain ⟨o4, h⟩ := h
  refine JS_callVI (M' := MX12_bestOf) (d' := 5) (As := [.int (-1 : Int32)]) (rest := []) (P := (fun zv9 wm9 => (vX12_bestOf (pI s 248 0 (0 : Int32)) (-1 : Int32)) = zv9 ∧ (mX12_bestOf (pI s 248 0 (0 : Int32)) (-1 : Int32)) = wm9)) dX12_cut_7 cvX12_365 okX12_bestOf rfl (Nat.le_of_ble_eq_true rfl) BS_248 (Nat.le_of_ble_eq_true rfl) (Nat.le_of_ble_eq_true rfl) hci_12 (Nat.le_of_ble_eq_true rfl) (Nat.le_of_ble_eq_true rfl) (pX12_bestOf  ((-1 : Int32)) o4 ⟨rfl, rfl⟩) (fun zv9 wm9 hq9 => ?_)
  obtain ⟨rfl, rfl⟩ := hq9
  refine JT_if_ge (tgt := 15) dX12_cut_10 (by decide) (fun hc3 => ?_) (fun hc3 => ?_)
  · have h := h.1 hc3
    refine JT_aload_n (q := 0) dX12_cut_15 rfl rfl ?_
    obtain ⟨o2, h⟩ := h
    refine JS_callVV (M' := MX12_keep) (d' := 0) (As := []) (rest := []) (P := (fun wm9 => (mX12_keep (mX12_bestOf (pI s 248 0 (0 : Int32)) (-1 : Int32)) ) = wm9)) dX12_cut_16 cvX12_329 okX12_keep rfl (Nat.le_of_ble_eq_true rfl) BS_248 (Nat.le_of_ble_eq_true rfl) (Nat.le_of_ble_eq_true rfl) hci_12 (Nat.le_of_ble_eq_true rfl) (Nat.le_of_ble_eq_true rfl) (pX12_keep   o2 rfl) (fun wm9 hq9 => ?_)
    subst hq9
    refine JT_aload_n (q := 0) dX12_cut_19 rfl rfl ?_
    obtain ⟨o1, h⟩ := h
    refine JS_callVI (M' := MX12_cuts) (d' := 3) (As := []) (rest := []) (P := (fun zv9 wm9 => (vX12_cuts (mX12_keep (mX12_bestOf (pI s 248 0 (0 : Int32)) (-1 : Int32)) ) ) = zv9 ∧ (mX12_cuts (mX12_keep (mX12_bestOf (pI s 248 0 (0 : Int32)) (-1 : Int32)) ) ) = wm9)) dX12_cut_20 cvX12_371 okX12_cuts rfl (Nat.le_of_ble_eq_true rfl) BS_248 (Nat.le_of_ble_eq_true rfl) (Nat.le_of_ble_eq_true rfl) hci_12 (Nat.le_of_ble_eq_true rfl) (Nat.le_of_ble_eq_true rfl) (pX12_cuts   o1 ⟨rfl, rfl⟩) (fun zv9 wm9 hq9 => ?_)
    obtain ⟨rfl, rfl⟩ := hq9
    exact JS_iret dX12_cut_23 rfl rfl h
  · have h := h.2 hc3
    refine JT_iconst (v := -1) dX12_cut_13 ic_m1 ?_
    exact JS_iret dX12_cut_14 rfl rfl h
set_option maxRecDepth 1000000 in
theorem pX12_cut  {s : SM} {Q : Int32 → SM → Prop} (hr : rX12_cut s ) (h : Q (vX12_cut s ) (mX12_cut s )) : KI MX12_cut 6 [.ref 248] s Q := by
  refine bX12_cut  ?_
  unfold rX12_cut at hr
  unfold vX12_cut mX12_cut at h
  refine ⟨hr.1, ?_⟩
  replace hr := hr.2
  refine ⟨fun c => ?_, fun c => ?_⟩
  · replace hr := hr c
    replace h := q2p c h
    refine ⟨hr.1, ?_⟩
    replace hr := hr.2
    refine ⟨hr, ?_⟩
    first | exact h | contradiction
  · replace h := q2n c h
    first | exact h | contradiction
