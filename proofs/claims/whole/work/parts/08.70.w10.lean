set_option maxRecDepth 1000000 in
theorem bX12_settled_9 (a1 : Int32) (a2 : Int32) {s : SM} {Q : Int32 → SM → Prop} (h : (((gI s 250 ((0 : Int32)).toNatClampNeg) ≤ a2 → BI MX12_settled 4 50 [(0, .ref 248), (1, .int a1), (2, .int (0 : Int32))] s Q) ∧ (¬ (gI s 250 ((0 : Int32)).toNatClampNeg) ≤ a2 → rX12_netOf s a2 ∧ ((¬ (vX12_netOf s a2) = 0 → vp_in a1 9 ∧ BI MX12_settled 4 9 [(0, .ref 248), (1, .int (a1 + 1)), (2, .int (a2 + 1))] (pI s 261 (a1).toNatClampNeg (vX12_netOf s a2)) Q) ∧ ((vX12_netOf s a2) = 0 → BI MX12_settled 4 9 [(0, .ref 248), (1, .int a1), (2, .int (a2 + 1))] s Q))))) : BI MX12_settled 4 9 [(0, .ref 248), (1, .int a1), (2, .int a2)] s Q := by
  refine JT_iload_n (q := 2) dX12_settled_9 rfl rfl ?_
  refine JT_aload_n (q := 0) dX12_settled_10 rfl rfl ?_
  refine JS_getR (x := 250) dX12_settled_11 flX12_33 BS_248 (Nat.le_of_ble_eq_true rfl) (Nat.le_of_ble_eq_true rfl) (Or.inr ⟨_, ct_12_6⟩) RF_248_6 ?_
  refine JT_iconst (v := 0) dX12_settled_14 ic_0 ?_
  refine JS_iald dX12_settled_15 BS_250 (Nat.le_of_ble_eq_true rfl) (Nat.le_of_ble_eq_true rfl) (by unfold vp_in; decide) ?_
  refine JT_icmp_ge (tgt := 48) dX12_settled_16 (by decide) (fun hc4 => ?_) (fun hc4 => ?_)
  · have h := h.1 hc4
    refine JT_iconst (v := 0) dX12_settled_48 ic_0 ?_
    refine JT_istore_n (lv' := [(2, .int (0 : Int32)), (0, .ref 248), (1, .int a1)]) dX12_settled_49 rfl (Nat.le_of_ble_eq_true rfl) rfl ?_
    exact JT_sub [1, 2, 0] rfl h
  · have h := h.2 hc4
    refine JT_aload_n (q := 0) dX12_settled_19 rfl rfl ?_
    refine JT_iload_n (q := 2) dX12_settled_20 rfl rfl ?_
    obtain ⟨o3, h⟩ := h
    refine JS_callVI (M' := MX12_netOf) (d' := 3) (As := [.int a2]) (rest := []) (P := (fun zv9 wm9 => (vX12_netOf s a2) = zv9 ∧ s = wm9)) dX12_settled_21 cvX12_300 okX12_netOf rfl (Nat.le_of_ble_eq_true rfl) BS_248 (Nat.le_of_ble_eq_true rfl) (Nat.le_of_ble_eq_true rfl) hci_12 (Nat.le_of_ble_eq_true rfl) (Nat.le_of_ble_eq_true rfl) (pX12_netOf  (a2) o3 ⟨rfl, rfl⟩) (fun zv9 wm9 hq9 => ?_)
    obtain ⟨rfl, rfl⟩ := hq9
    refine JT_istore_n (lv' := [(3, .int (vX12_netOf s a2)), (0, .ref 248), (1, .int a1), (2, .int a2)]) dX12_settled_24 rfl (Nat.le_of_ble_eq_true rfl) rfl ?_
    refine JT_iload_n (q := 0) dX12_settled_25 rfl rfl ?_
    refine JT_if_ne (tgt := 32) dX12_settled_26 (by decide) (fun hc2 => ?_) (fun hc2 => ?_)
    · have h := h.1 hc2
      refine JT_aload_n (q := 1) dX12_settled_32 rfl rfl ?_
      refine JS_getR (x := 261) dX12_settled_33 flX12_68 BS_248 (Nat.le_of_ble_eq_true rfl) (Nat.le_of_ble_eq_true rfl) (Or.inr ⟨_, ct_12_33⟩) RF_248_33 ?_
      refine JT_iload_n (q := 2) dX12_settled_36 rfl rfl ?_
      refine JT_iload_n (q := 0) dX12_settled_37 rfl rfl ?_
      obtain ⟨o1, h⟩ := h
      refine JS_iast dX12_settled_38 BS_261 (Nat.le_of_ble_eq_true rfl) (Nat.le_of_ble_eq_true rfl) o1 ?_
      refine JT_iinc (q := 2) (v := (a1 + 1)) (lv' := [(1, .int (a1 + 1)), (3, .int (vX12_netOf s a2)), (0, .ref 248), (2, .int a2)]) dX12_settled_39 rfl (by rfl) (Nat.le_of_ble_eq_true rfl) rfl ?_
      refine JT_iinc (q := 3) (v := (a2 + 1)) (lv' := [(2, .int (a2 + 1)), (1, .int (a1 + 1)), (3, .int (vX12_netOf s a2)), (0, .ref 248)]) dX12_settled_42 rfl (by rfl) (Nat.le_of_ble_eq_true rfl) rfl ?_
      refine JT_goto (tgt := 9) dX12_settled_45 (by decide) ?_
      exact JT_sub [3, 1, 0] rfl h
    · have h := h.2 hc2
      refine JT_goto (tgt := 42) dX12_settled_29 (by decide) ?_
      refine JT_iinc (q := 3) (v := (a2 + 1)) (lv' := [(2, .int (a2 + 1)), (3, .int (vX12_netOf s a2)), (0, .ref 248), (1, .int a1)]) dX12_settled_42 rfl (by rfl) (Nat.le_of_ble_eq_true rfl) rfl ?_
      refine JT_goto (tgt := 9) dX12_settled_45 (by decide) ?_
      exact JT_sub [2, 3, 0] rfl h
set_option maxRecDepth 1000000 in
theorem bX12_settled_50 (a1 : Int32) (a2 : Int32) {s : SM} {Q : Int32 → SM → Prop} (h : ((((1 : Int32) <<< (a1 &&& 31)) ≤ a2 → vp_in (((1 : Int32) <<< (a1 &&& 31)) - (1 : Int32)) 512 ∧ Q (a1 - (gI s 260 ((((1 : Int32) <<< (a1 &&& 31)) - (1 : Int32))).toNatClampNeg)) s) ∧ (¬ ((1 : Int32) <<< (a1 &&& 31)) ≤ a2 → BI MX12_settled 4 65 [(0, .ref 248), (1, .int a1), (2, .int a2), (3, .int (0 : Int32)), (4, .int (0 : Int32)), (5, .int (0 : Int32))] s Q))) : BI MX12_settled 4 50 [(0, .ref 248), (1, .int a1), (2, .int a2)] s Q := by
  refine JT_iload_n (q := 2) dX12_settled_50 rfl rfl ?_
  refine JT_iconst (v := 1) dX12_settled_51 ic_1 ?_
  refine JT_iload_n (q := 1) dX12_settled_52 rfl rfl ?_
  refine JT_ishl dX12_settled_53 ?_
  refine JT_icmp_ge (tgt := 158) dX12_settled_54 (by decide) (fun hc2 => ?_) (fun hc2 => ?_)
  · have h := h.1 hc2
    refine JT_iload_n (q := 1) dX12_settled_158 rfl rfl ?_
    refine JT_aload_n (q := 0) dX12_settled_159 rfl rfl ?_
    refine JS_getR (x := 260) dX12_settled_160 flX12_65 BS_248 (Nat.le_of_ble_eq_true rfl) (Nat.le_of_ble_eq_true rfl) (Or.inr ⟨_, ct_12_32⟩) RF_248_32 ?_
    refine JT_iconst (v := 1) dX12_settled_163 ic_1 ?_
    refine JT_iload_n (q := 1) dX12_settled_164 rfl rfl ?_
    refine JT_ishl dX12_settled_165 ?_
    refine JT_iconst (v := 1) dX12_settled_166 ic_1 ?_
    refine JT_isub dX12_settled_167 ?_
    obtain ⟨o1, h⟩ := h
    refine JS_iald dX12_settled_168 BS_260 (Nat.le_of_ble_eq_true rfl) (Nat.le_of_ble_eq_true rfl) o1 ?_
    refine JT_isub dX12_settled_169 ?_
    exact JS_iret dX12_settled_170 rfl rfl h
  · have h := h.2 hc2
    refine JT_iconst (v := 0) dX12_settled_57 ic_0 ?_
    refine JT_istore_n (lv' := [(3, .int (0 : Int32)), (0, .ref 248), (1, .int a1), (2, .int a2)]) dX12_settled_58 rfl (Nat.le_of_ble_eq_true rfl) rfl ?_
    refine JT_iconst (v := 0) dX12_settled_59 ic_0 ?_
    refine JT_istore (lv' := [(4, .int (0 : Int32)), (3, .int (0 : Int32)), (0, .ref 248), (1, .int a1), (2, .int a2)]) dX12_settled_60 (Nat.le_of_ble_eq_true rfl) rfl ?_
    refine JT_iconst (v := 0) dX12_settled_62 ic_0 ?_
    refine JT_istore (lv' := [(5, .int (0 : Int32)), (4, .int (0 : Int32)), (3, .int (0 : Int32)), (0, .ref 248), (1, .int a1), (2, .int a2)]) dX12_settled_63 (Nat.le_of_ble_eq_true rfl) rfl ?_
    exact JT_sub [3, 4, 5, 2, 1, 0] rfl h
set_option maxRecDepth 1000000 in
theorem bX12_settled_65 (a1 : Int32) (a2 : Int32) (a3 : Int32) (a4 : Int32) (a5 : Int32) {s : SM} {Q : Int32 → SM → Prop} (h : ((a1 ≤ a5 → vp_in a2 512 ∧ BI MX12_settled 4 50 [(0, .ref 248), (1, .int a1), (2, .int (a2 + 1))] (pI s 260 (a2).toNatClampNeg (a4 + (if a2 = 0 then (0 : Int32) else (if a3 = 0 then (1 : Int32) else (0 : Int32))))) Q) ∧ (¬ a1 ≤ a5 → ((¬ (vX12_has s a2 a5) = 0 → vp_in a5 9 ∧ vp_in (a2 &&& (((1 : Int32) <<< (a5 &&& 31)) ^^^ (-1 : Int32))) 512 ∧ BI MX12_settled 4 65 [(0, .ref 248), (1, .int a1), (2, .int a2), (3, .int (a3 + (gI s 261 (a5).toNatClampNeg))), (4, .int (if (gI s 260 ((a2 &&& (((1 : Int32) <<< (a5 &&& 31)) ^^^ (-1 : Int32)))).toNatClampNeg) ≤ a4 then a4 else (gI s 260 ((a2 &&& (((1 : Int32) <<< (a5 &&& 31)) ^^^ (-1 : Int32)))).toNatClampNeg))), (5, .int (a5 + 1))] s Q) ∧ ((vX12_has s a2 a5) = 0 → BI MX12_settled 4 65 [(0, .ref 248), (1, .int a1), (2, .int a2), (3, .int a3), (4, .int a4), (5, .int (a5 + 1))] s Q))))) : BI MX12_settled 4 65 [(0, .ref 248), (1, .int a1), (2, .int a2), (3, .int a3), (4, .int a4), (5, .int a5)] s Q := by
  refine JT_iload (q := 5) dX12_settled_65 rfl ?_
  refine JT_iload_n (q := 1) dX12_settled_67 rfl rfl ?_
  refine JT_icmp_ge (tgt := 130) dX12_settled_68 (by decide) (fun hc11 => ?_) (fun hc11 => ?_)
  · have h := h.1 hc11
    refine JT_aload_n (q := 0) dX12_settled_130 rfl rfl ?_
    refine JS_getR (x := 260) dX12_settled_131 flX12_65 BS_248 (Nat.le_of_ble_eq_true rfl) (Nat.le_of_ble_eq_true rfl) (Or.inr ⟨_, ct_12_32⟩) RF_248_32 ?_
    refine JT_iload_n (q := 2) dX12_settled_134 rfl rfl ?_
    refine JT_iload (q := 4) dX12_settled_135 rfl ?_
    refine JT_iload_n (q := 2) dX12_settled_137 rfl rfl ?_
    have hj2 : ∀ v : Int32, v = (if a2 = 0 then (0 : Int32) else (if a3 = 0 then (1 : Int32) else (0 : Int32))) → JT MX12_settled 4 0 0 150 [(0, .ref 248), (1, .int a1), (2, .int a2), (3, .int a3), (4, .int a4), (5, .int a5)] [.int v, .int a4, .int a2, .ref 260] (std s) (KQ Q) := by
      intro v hv
      subst hv
      refine JT_iadd dX12_settled_150 ?_
      obtain ⟨o1, h⟩ := h
      refine JS_iast dX12_settled_151 BS_260 (Nat.le_of_ble_eq_true rfl) (Nat.le_of_ble_eq_true rfl) o1 ?_
      refine JT_iinc (q := 2) (v := (a2 + 1)) (lv' := [(2, .int (a2 + 1)), (0, .ref 248), (1, .int a1), (3, .int a3), (4, .int a4), (5, .int a5)]) dX12_settled_152 rfl (by rfl) (Nat.le_of_ble_eq_true rfl) rfl ?_
      refine JT_goto (tgt := 50) dX12_settled_155 (by decide) ?_
      exact JT_sub [1, 2, 0] rfl h
    refine JT_if_eq (tgt := 149) dX12_settled_138 (by decide) (fun hc3 => ?_) (fun hc3 => ?_)
    · refine JT_iconst (v := 0) dX12_settled_149 ic_0 ?_
      exact hj2 _ (by rw [if_pos hc3])
    · refine JT_iload_n (q := 3) dX12_settled_141 rfl rfl ?_
      refine JT_if_ne (tgt := 149) dX12_settled_142 (by decide) (fun hc4 => ?_) (fun hc4 => ?_)
      · refine JT_iconst (v := 0) dX12_settled_149 ic_0 ?_
        exact hj2 _ (by rw [if_neg hc3, if_neg hc4])
      · refine JT_iconst (v := 1) dX12_settled_145 ic_1 ?_
        refine JT_goto (tgt := 150) dX12_settled_146 (by decide) ?_
        exact hj2 _ (by rw [if_neg hc3, if_pos hc4])
  · have h := h.2 hc11
    refine JT_iload_n (q := 2) dX12_settled_71 rfl rfl ?_
    refine JT_iload (q := 5) dX12_settled_72 rfl ?_
    refine JS_callSI (M' := MX12_has) (d' := 0) (As := [.int a2, .int a5]) (rest := []) (P := (fun zv9 wm9 => (vX12_has s a2 a5) = zv9 ∧ s = wm9)) dX12_settled_74 cvX12_259 okX12_has rfl (Nat.le_of_ble_eq_true rfl) (Nat.le_of_ble_eq_true rfl) (Nat.le_of_ble_eq_true rfl) (pX12_has  (a2) (a5)  ⟨rfl, rfl⟩) (fun zv9 wm9 hq9 => ?_)
    obtain ⟨rfl, rfl⟩ := hq9
    refine JT_if_ne (tgt := 83) dX12_settled_77 (by decide) (fun hc9 => ?_) (fun hc9 => ?_)
    · have h := h.1 hc9
      refine JT_iload_n (q := 3) dX12_settled_83 rfl rfl ?_
      refine JT_aload_n (q := 0) dX12_settled_84 rfl rfl ?_
      refine JS_getR (x := 261) dX12_settled_85 flX12_68 BS_248 (Nat.le_of_ble_eq_true rfl) (Nat.le_of_ble_eq_true rfl) (Or.inr ⟨_, ct_12_33⟩) RF_248_33 ?_
      refine JT_iload (q := 5) dX12_settled_88 rfl ?_
      obtain ⟨o5, h⟩ := h
      refine JS_iald dX12_settled_90 BS_261 (Nat.le_of_ble_eq_true rfl) (Nat.le_of_ble_eq_true rfl) o5 ?_
      refine JT_iadd dX12_settled_91 ?_
      refine JT_istore_n (lv' := [(3, .int (a3 + (gI s 261 (a5).toNatClampNeg))), (0, .ref 248), (1, .int a1), (2, .int a2), (4, .int a4), (5, .int a5)]) dX12_settled_92 rfl (Nat.le_of_ble_eq_true rfl) rfl ?_
      refine JT_aload_n (q := 1) dX12_settled_93 rfl rfl ?_
      refine JS_getR (x := 260) dX12_settled_94 flX12_65 BS_248 (Nat.le_of_ble_eq_true rfl) (Nat.le_of_ble_eq_true rfl) (Or.inr ⟨_, ct_12_32⟩) RF_248_32 ?_
      refine JT_iload_n (q := 3) dX12_settled_97 rfl rfl ?_
      refine JT_iconst (v := 1) dX12_settled_98 ic_1 ?_
      refine JT_iload (q := 5) dX12_settled_99 rfl ?_
      refine JT_ishl dX12_settled_101 ?_
      refine JT_iconst (v := -1) dX12_settled_102 ic_m1 ?_
      refine JT_ixor dX12_settled_103 ?_
      refine JT_iand dX12_settled_104 ?_
      obtain ⟨o6, h⟩ := h
      refine JS_iald dX12_settled_105 BS_260 (Nat.le_of_ble_eq_true rfl) (Nat.le_of_ble_eq_true rfl) o6 ?_
      refine JT_istore (lv' := [(6, .int (gI s 260 ((a2 &&& (((1 : Int32) <<< (a5 &&& 31)) ^^^ (-1 : Int32)))).toNatClampNeg)), (3, .int (a3 + (gI s 261 (a5).toNatClampNeg))), (0, .ref 248), (1, .int a1), (2, .int a2), (4, .int a4), (5, .int a5)]) dX12_settled_106 (Nat.le_of_ble_eq_true rfl) rfl ?_
      refine JT_iload (q := 0) dX12_settled_108 rfl ?_
      refine JT_iload (q := 5) dX12_settled_110 rfl ?_
      have hj7 : ∀ v : Int32, v = (if (gI s 260 ((a2 &&& (((1 : Int32) <<< (a5 &&& 31)) ^^^ (-1 : Int32)))).toNatClampNeg) ≤ a4 then a4 else (gI s 260 ((a2 &&& (((1 : Int32) <<< (a5 &&& 31)) ^^^ (-1 : Int32)))).toNatClampNeg)) → JT MX12_settled 4 0 0 122 [(6, .int (gI s 260 ((a2 &&& (((1 : Int32) <<< (a5 &&& 31)) ^^^ (-1 : Int32)))).toNatClampNeg)), (3, .int (a3 + (gI s 261 (a5).toNatClampNeg))), (0, .ref 248), (1, .int a1), (2, .int a2), (4, .int a4), (5, .int a5)] [.int v] (std s) (KQ Q) := by
        intro v hv
        subst hv
        refine JT_istore (lv' := [(4, .int (if (gI s 260 ((a2 &&& (((1 : Int32) <<< (a5 &&& 31)) ^^^ (-1 : Int32)))).toNatClampNeg) ≤ a4 then a4 else (gI s 260 ((a2 &&& (((1 : Int32) <<< (a5 &&& 31)) ^^^ (-1 : Int32)))).toNatClampNeg))), (6, .int (gI s 260 ((a2 &&& (((1 : Int32) <<< (a5 &&& 31)) ^^^ (-1 : Int32)))).toNatClampNeg)), (3, .int (a3 + (gI s 261 (a5).toNatClampNeg))), (0, .ref 248), (1, .int a1), (2, .int a2), (5, .int a5)]) dX12_settled_122 (Nat.le_of_ble_eq_true rfl) rfl ?_
        refine JT_iinc (q := 6) (v := (a5 + 1)) (lv' := [(5, .int (a5 + 1)), (4, .int (if (gI s 260 ((a2 &&& (((1 : Int32) <<< (a5 &&& 31)) ^^^ (-1 : Int32)))).toNatClampNeg) ≤ a4 then a4 else (gI s 260 ((a2 &&& (((1 : Int32) <<< (a5 &&& 31)) ^^^ (-1 : Int32)))).toNatClampNeg))), (6, .int (gI s 260 ((a2 &&& (((1 : Int32) <<< (a5 &&& 31)) ^^^ (-1 : Int32)))).toNatClampNeg)), (3, .int (a3 + (gI s 261 (a5).toNatClampNeg))), (0, .ref 248), (1, .int a1), (2, .int a2)]) dX12_settled_124 rfl (by rfl) (Nat.le_of_ble_eq_true rfl) rfl ?_
        refine JT_goto (tgt := 65) dX12_settled_127 (by decide) ?_
        exact JT_sub [4, 5, 6, 3, 1, 0] rfl h
      refine JT_icmp_le (tgt := 120) dX12_settled_112 (by decide) (fun hc8 => ?_) (fun hc8 => ?_)
      · refine JT_iload (q := 5) dX12_settled_120 rfl ?_
        exact hj7 _ (by rw [if_pos hc8])
      · refine JT_iload (q := 0) dX12_settled_115 rfl ?_
        refine JT_goto (tgt := 122) dX12_settled_117 (by decide) ?_
        exact hj7 _ (by rw [if_neg hc8])
    · have h := h.2 hc9
      refine JT_goto (tgt := 124) dX12_settled_80 (by decide) ?_
      refine JT_iinc (q := 5) (v := (a5 + 1)) (lv' := [(5, .int (a5 + 1)), (0, .ref 248), (1, .int a1), (2, .int a2), (3, .int a3), (4, .int a4)]) dX12_settled_124 rfl (by rfl) (Nat.le_of_ble_eq_true rfl) rfl ?_
      refine JT_goto (tgt := 65) dX12_settled_127 (by decide) ?_
      exact JT_sub [1, 2, 3, 4, 5, 0] rfl h
set_option maxRecDepth 1000000 in
theorem bX12_settled  {s : SM} {Q : Int32 → SM → Prop} (h : BI MX12_settled 4 9 [(0, .ref 248), (1, .int (0 : Int32)), (2, .int (0 : Int32))] (pI s 248 0 (0 : Int32)) Q) : KI MX12_settled 4 [.ref 248] s Q := by
  show BI MX12_settled 4 0 [(0, .ref 248)] s Q
  refine JT_aload_n (q := 0) dX12_settled_0 rfl rfl ?_
  refine JT_iconst (v := 0) dX12_settled_1 ic_0 ?_
  refine JS_putI dX12_settled_2 flX12_1 BS_248 (Nat.le_of_ble_eq_true rfl) (Nat.le_of_ble_eq_true rfl) ct_12_0 ?_
  refine JT_iconst (v := 0) dX12_settled_5 ic_0 ?_
  refine JT_istore_n (lv' := [(1, .int (0 : Int32)), (0, .ref 248)]) dX12_settled_6 rfl (Nat.le_of_ble_eq_true rfl) rfl ?_
  refine JT_iconst (v := 0) dX12_settled_7 ic_0 ?_
  refine JT_istore_n (lv' := [(2, .int (0 : Int32)), (1, .int (0 : Int32)), (0, .ref 248)]) dX12_settled_8 rfl (Nat.le_of_ble_eq_true rfl) rfl ?_
  exact JT_sub [2, 1, 0] rfl h
set_option maxRecDepth 1000000 in
theorem gX12_settled  : ∀ n : Nat, (∀ (a1 : Int32) (a2 : Int32) (s : SM) (Q : Int32 → SM → Prop), ((qX12_settled n).1 s a1 a2) → Q ((lX12_settled n).1 s a1 a2).1 ((lX12_settled n).1 s a1 a2).2 → BI MX12_settled 4 9 [(0, .ref 248), (1, .int a1), (2, .int a2)] s Q) ∧ (∀ (a1 : Int32) (a2 : Int32) (s : SM) (Q : Int32 → SM → Prop), ((qX12_settled n).2.1 s a1 a2) → Q ((lX12_settled n).2.1 s a1 a2).1 ((lX12_settled n).2.1 s a1 a2).2 → BI MX12_settled 4 50 [(0, .ref 248), (1, .int a1), (2, .int a2)] s Q) ∧ (∀ (a1 : Int32) (a2 : Int32) (a3 : Int32) (a4 : Int32) (a5 : Int32) (s : SM) (Q : Int32 → SM → Prop), ((qX12_settled n).2.2 s a1 a2 a3 a4 a5) → Q ((lX12_settled n).2.2 s a1 a2 a3 a4 a5).1 ((lX12_settled n).2.2 s a1 a2 a3 a4 a5).2 → BI MX12_settled 4 65 [(0, .ref 248), (1, .int a1), (2, .int a2), (3, .int a3), (4, .int a4), (5, .int a5)] s Q) := by
  intro n
  induction n with
  | zero => exact ⟨fun _ _ _ _ hq _ => absurd hq id, fun _ _ _ _ hq _ => absurd hq id, fun _ _ _ _ _ _ _ hq _ => absurd hq id⟩
  | succ n ih =>
    refine ⟨?_, ?_, ?_⟩
    · intro a1 a2 s Q hr h
      replace hr : uX12_settled_9 (qX12_settled n) s a1 a2 := hr
      replace h : Q (tX12_settled_9 (lX12_settled n) s a1 a2).1 (tX12_settled_9 (lX12_settled n) s a1 a2).2 := h
      unfold uX12_settled_9 at hr
      unfold tX12_settled_9 at h
      refine bX12_settled_9 a1 a2 ?_
      refine ⟨fun c => ?_, fun c => ?_⟩
      · replace hr := hr.1 c
        replace h := q3p c h
        first | exact ih.2.1 a1 (0 : Int32) _ Q hr h | contradiction
      · replace hr := hr.2 c
        replace h := q3n c h
        refine ⟨hr.1, ?_⟩
        replace hr := hr.2
        refine ⟨fun c => ?_, fun c => ?_⟩
        · replace hr := hr.1 c
          replace h := q3n c h
          refine ⟨hr.1, ?_⟩
          replace hr := hr.2
          first | exact ih.1 (a1 + 1) (a2 + 1) _ Q hr h | contradiction
        · replace hr := hr.2 c
          replace h := q3p c h
          first | exact ih.1 a1 (a2 + 1) _ Q hr h | contradiction
    · intro a1 a2 s Q hr h
      replace hr : uX12_settled_50 (qX12_settled n) s a1 a2 := hr
      replace h : Q (tX12_settled_50 (lX12_settled n) s a1 a2).1 (tX12_settled_50 (lX12_settled n) s a1 a2).2 := h
      unfold uX12_settled_50 at hr
      unfold tX12_settled_50 at h
      refine bX12_settled_50 a1 a2 ?_
      refine ⟨fun c => ?_, fun c => ?_⟩
      · replace hr := hr.1 c
        replace h := q3p c h
        refine ⟨hr, ?_⟩
        first | exact h | contradiction
      · replace hr := hr.2 c
        replace h := q3n c h
        first | exact ih.2.2 a1 a2 (0 : Int32) (0 : Int32) (0 : Int32) _ Q hr h | contradiction
    · intro a1 a2 a3 a4 a5 s Q hr h
      replace hr : uX12_settled_65 (qX12_settled n) s a1 a2 a3 a4 a5 := hr
      replace h : Q (tX12_settled_65 (lX12_settled n) s a1 a2 a3 a4 a5).1 (tX12_settled_65 (lX12_settled n) s a1 a2 a3 a4 a5).2 := h
      unfold uX12_settled_65 at hr
      unfold tX12_settled_65 at h
      refine bX12_settled_65 a1 a2 a3 a4 a5 ?_
      refine ⟨fun c => ?_, fun c => ?_⟩
      · replace hr := hr.1 c
        replace h := q3p c h
        refine ⟨hr.1, ?_⟩
        replace hr := hr.2
        first | exact ih.2.1 a1 (a2 + 1) _ Q hr h | contradiction
      · replace hr := hr.2 c
        replace h := q3n c h
        refine ⟨fun c => ?_, fun c => ?_⟩
        · replace hr := hr.1 c
          replace h := q3n c h
          refine ⟨hr.1, ?_⟩
          replace hr := hr.2
          refine ⟨hr.1, ?_⟩
          replace hr := hr.2
          first | exact ih.2.2 a1 a2 (a3 + (gI s 261 (a5).toNatClampNeg)) (if (gI s 260 ((a2 &&& (((1 : Int32) <<< (a5 &&& 31)) ^^^ (-1 : Int32)))).toNatClampNeg) ≤ a4 then a4 else (gI s 260 ((a2 &&& (((1 : Int32) <<< (a5 &&& 31)) ^^^ (-1 : Int32)))).toNatClampNeg)) (a5 + 1) _ Q hr h | contradiction
        · replace hr := hr.2 c
          replace h := q3p c h
          first | exact ih.2.2 a1 a2 a3 a4 (a5 + 1) _ Q hr h | contradiction
set_option maxRecDepth 1000000 in
theorem pX12_settled  {s : SM} {Q : Int32 → SM → Prop} (hr : rX12_settled s ) (h : Q (vX12_settled s ) (mX12_settled s )) : KI MX12_settled 4 [.ref 248] s Q := by
  replace h : Q (fX12_settled s ).1 (fX12_settled s ).2 := h
  unfold rX12_settled at hr
  unfold fX12_settled at h
  refine bX12_settled  ?_
  first | exact (gX12_settled  FU).1 (0 : Int32) (0 : Int32) _ Q hr h | contradiction
set_option maxRecDepth 1000000 in
theorem bX12_strike (a1 : Int32) {s : SM} {Q : Int32 → SM → Prop} (h : rX12_whyStrike (pI s 248 0 (0 : Int32)) a1 ∧ (((vX12_whyStrike (pI s 248 0 (0 : Int32)) a1) ≤ 0 → rX12_keep (pI s 248 0 (0 : Int32))  ∧ rX12_strikes (mX12_keep (pI s 248 0 (0 : Int32)) ) a1 ∧ Q (0 : Int32) (mX12_strikes (mX12_keep (pI s 248 0 (0 : Int32)) ) a1)) ∧ (¬ (vX12_whyStrike (pI s 248 0 (0 : Int32)) a1) ≤ 0 → Q (vX12_whyStrike (pI s 248 0 (0 : Int32)) a1) (pI s 248 0 (0 : Int32))))) : KI MX12_strike 4 [.ref 248, .int a1] s Q := by
  show BI MX12_strike 4 0 [(0, .ref 248), (1, .int a1)] s Q
  refine JT_aload_n (q := 0) dX12_strike_0 rfl rfl ?_
  refine JT_iconst (v := 0) dX12_strike_1 ic_0 ?_
  refine JS_putI dX12_strike_2 flX12_1 BS_248 (Nat.le_of_ble_eq_true rfl) (Nat.le_of_ble_eq_true rfl) ct_12_0 ?_
  refine JT_aload_n (q := 0) dX12_strike_5 rfl rfl ?_
  refine JT_iload_n (q := 1) dX12_strike_6 rfl rfl ?_
  obtain ⟨o4, h⟩ := h
  refine JS_callVI (M' := MX12_whyStrike) (d' := 3) (As := [.int a1]) (rest := []) (P := (fun zv9 wm9 => (vX12_whyStrike (pI s 248 0 (0 : Int32)) a1) = zv9 ∧ (pI s 248 0 (0 : Int32)) = wm9)) dX12_strike_7 cvX12_336 okX12_whyStrike rfl (Nat.le_of_ble_eq_true rfl) BS_248 (Nat.le_of_ble_eq_true rfl) (Nat.le_of_ble_eq_true rfl) hci_12 (Nat.le_of_ble_eq_true rfl) (Nat.le_of_ble_eq_true rfl) (pX12_whyStrike  (a1) o4 ⟨rfl, rfl⟩) (fun zv9 wm9 hq9 => ?_)
  obtain ⟨rfl, rfl⟩ := hq9
  refine JT_istore_n (lv' := [(2, .int (vX12_whyStrike (pI s 248 0 (0 : Int32)) a1)), (0, .ref 248), (1, .int a1)]) dX12_strike_10 rfl (Nat.le_of_ble_eq_true rfl) rfl ?_
  refine JT_iload_n (q := 0) dX12_strike_11 rfl rfl ?_
  refine JT_if_le (tgt := 17) dX12_strike_12 (by decide) (fun hc3 => ?_) (fun hc3 => ?_)
  · have h := h.1 hc3
    refine JT_aload_n (q := 1) dX12_strike_17 rfl rfl ?_
    obtain ⟨o2, h⟩ := h
    refine JS_callVV (M' := MX12_keep) (d' := 0) (As := []) (rest := []) (P := (fun wm9 => (mX12_keep (pI s 248 0 (0 : Int32)) ) = wm9)) dX12_strike_18 cvX12_329 okX12_keep rfl (Nat.le_of_ble_eq_true rfl) BS_248 (Nat.le_of_ble_eq_true rfl) (Nat.le_of_ble_eq_true rfl) hci_12 (Nat.le_of_ble_eq_true rfl) (Nat.le_of_ble_eq_true rfl) (pX12_keep   o2 rfl) (fun wm9 hq9 => ?_)
    subst hq9
    refine JT_aload_n (q := 1) dX12_strike_21 rfl rfl ?_
    refine JT_iload_n (q := 2) dX12_strike_22 rfl rfl ?_
    obtain ⟨o1, h⟩ := h
    refine JS_callVV (M' := MX12_strikes) (d' := 2) (As := [.int a1]) (rest := []) (P := (fun wm9 => (mX12_strikes (mX12_keep (pI s 248 0 (0 : Int32)) ) a1) = wm9)) dX12_strike_23 cvX12_339 okX12_strikes rfl (Nat.le_of_ble_eq_true rfl) BS_248 (Nat.le_of_ble_eq_true rfl) (Nat.le_of_ble_eq_true rfl) hci_12 (Nat.le_of_ble_eq_true rfl) (Nat.le_of_ble_eq_true rfl) (pX12_strikes  (a1) o1 rfl) (fun wm9 hq9 => ?_)
    subst hq9
    refine JT_iconst (v := 0) dX12_strike_26 ic_0 ?_
    exact JS_iret dX12_strike_27 rfl rfl h
  · have h := h.2 hc3
    refine JT_iload_n (q := 0) dX12_strike_15 rfl rfl ?_
    exact JS_iret dX12_strike_16 rfl rfl h
set_option maxRecDepth 1000000 in
theorem pX12_strike (a1 : Int32) {s : SM} {Q : Int32 → SM → Prop} (hr : rX12_strike s a1) (h : Q (vX12_strike s a1) (mX12_strike s a1)) : KI MX12_strike 4 [.ref 248, .int a1] s Q := by
  refine bX12_strike a1 ?_
  unfold rX12_strike at hr
  unfold vX12_strike mX12_strike at h
  refine ⟨hr.1, ?_⟩
  replace hr := hr.2
  refine ⟨fun c => ?_, fun c => ?_⟩
  · replace hr := hr c
    replace h := q2p c h
    refine ⟨hr.1, ?_⟩
    replace hr := hr.2
    refine ⟨hr, ?_⟩
    first | exact h | contradiction
  · replace h := q2n c h
    first | exact h | contradiction
set_option maxRecDepth 1000000 in
theorem bX12_whyWrite (a1 : Int32) (a2 : Int32) (a3 : Int32) {s : SM} {Q : Int32 → SM → Prop} (h : ((a1 = a2 → Q (1 : Int32) s) ∧ (¬ a1 = a2 → (((vX12_isLiving s a1) = 0 → Q (1 : Int32) s) ∧ (¬ (vX12_isLiving s a1) = 0 → ((¬ (vX12_isLiving s a2) = 0 → vp_in ((22 : Int32) + a3) 787 ∧ rX12_bearerOf s a1 (gI s 250 (((22 : Int32) + a3)).toNatClampNeg) (-1 : Int32) ∧ ((0 ≤ (vX12_bearerOf s a1 (gI s 250 (((22 : Int32) + a3)).toNatClampNeg) (-1 : Int32)) → vp_in ((22 : Int32) + a3) 787 ∧ rX12_bearerOf s a2 (gI s 250 (((22 : Int32) + a3)).toNatClampNeg) (vX12_bearerOf s a1 (gI s 250 (((22 : Int32) + a3)).toNatClampNeg) (-1 : Int32)) ∧ ((0 ≤ (vX12_bearerOf s a2 (gI s 250 (((22 : Int32) + a3)).toNatClampNeg) (vX12_bearerOf s a1 (gI s 250 (((22 : Int32) + a3)).toNatClampNeg) (-1 : Int32))) → Q (if (gI s 250 ((34 : Int32)).toNatClampNeg) = (60 : Int32) then (7 : Int32) else (0 : Int32)) s) ∧ (¬ 0 ≤ (vX12_bearerOf s a2 (gI s 250 (((22 : Int32) + a3)).toNatClampNeg) (vX12_bearerOf s a1 (gI s 250 (((22 : Int32) + a3)).toNatClampNeg) (-1 : Int32))) → Q (3 : Int32) s))) ∧ (¬ 0 ≤ (vX12_bearerOf s a1 (gI s 250 (((22 : Int32) + a3)).toNatClampNeg) (-1 : Int32)) → Q (2 : Int32) s))) ∧ ((vX12_isLiving s a2) = 0 → Q (1 : Int32) s))))))) : KI MX12_whyWrite 4 [.ref 248, .int a1, .int a2, .int a3] s Q := by
  show BI MX12_whyWrite 4 0 [(0, .ref 248), (1, .int a1), (2, .int a2), (3, .int a3)] s Q
  refine JT_iload_n (q := 1) dX12_whyWrite_0 rfl rfl ?_
  refine JT_iload_n (q := 2) dX12_whyWrite_1 rfl rfl ?_
  refine JT_icmp_eq (tgt := 21) dX12_whyWrite_2 (by decide) (fun hc13 => ?_) (fun hc13 => ?_)
  · have h := h.1 hc13
    refine JT_iconst (v := 1) dX12_whyWrite_21 ic_1 ?_
    exact JS_iret dX12_whyWrite_22 rfl rfl h
  · have h := h.2 hc13
    refine JT_aload_n (q := 0) dX12_whyWrite_5 rfl rfl ?_
    refine JT_iload_n (q := 1) dX12_whyWrite_6 rfl rfl ?_
    refine JS_callVI (M' := MX12_isLiving) (d' := 1) (As := [.int a1]) (rest := []) (P := (fun zv9 wm9 => (vX12_isLiving s a1) = zv9 ∧ s = wm9)) dX12_whyWrite_7 cvX12_294 okX12_isLiving rfl (Nat.le_of_ble_eq_true rfl) BS_248 (Nat.le_of_ble_eq_true rfl) (Nat.le_of_ble_eq_true rfl) hci_12 (Nat.le_of_ble_eq_true rfl) (Nat.le_of_ble_eq_true rfl) (pX12_isLiving  (a1)  ⟨rfl, rfl⟩) (fun zv9 wm9 hq9 => ?_)
    obtain ⟨rfl, rfl⟩ := hq9
    refine JT_if_eq (tgt := 21) dX12_whyWrite_10 (by decide) (fun hc11 => ?_) (fun hc11 => ?_)
    · have h := h.1 hc11
      refine JT_iconst (v := 1) dX12_whyWrite_21 ic_1 ?_
      exact JS_iret dX12_whyWrite_22 rfl rfl h
    · have h := h.2 hc11
      refine JT_aload_n (q := 0) dX12_whyWrite_13 rfl rfl ?_
      refine JT_iload_n (q := 2) dX12_whyWrite_14 rfl rfl ?_
      refine JS_callVI (M' := MX12_isLiving) (d' := 1) (As := [.int a2]) (rest := []) (P := (fun zv9 wm9 => (vX12_isLiving s a2) = zv9 ∧ s = wm9)) dX12_whyWrite_15 cvX12_294 okX12_isLiving rfl (Nat.le_of_ble_eq_true rfl) BS_248 (Nat.le_of_ble_eq_true rfl) (Nat.le_of_ble_eq_true rfl) hci_12 (Nat.le_of_ble_eq_true rfl) (Nat.le_of_ble_eq_true rfl) (pX12_isLiving  (a2)  ⟨rfl, rfl⟩) (fun zv9 wm9 hq9 => ?_)
      obtain ⟨rfl, rfl⟩ := hq9
      refine JT_if_ne (tgt := 23) dX12_whyWrite_18 (by decide) (fun hc9 => ?_) (fun hc9 => ?_)
      · have h := h.1 hc9
        refine JT_aload_n (q := 0) dX12_whyWrite_23 rfl rfl ?_
        refine JT_iload_n (q := 1) dX12_whyWrite_24 rfl rfl ?_
        refine JT_aload_n (q := 0) dX12_whyWrite_25 rfl rfl ?_
        refine JS_getR (x := 250) dX12_whyWrite_26 flX12_33 BS_248 (Nat.le_of_ble_eq_true rfl) (Nat.le_of_ble_eq_true rfl) (Or.inr ⟨_, ct_12_6⟩) RF_248_6 ?_
        refine JT_bipush (v := 22) dX12_whyWrite_29 bp_22 ?_
        refine JT_iload_n (q := 3) dX12_whyWrite_31 rfl rfl ?_
        refine JT_iadd dX12_whyWrite_32 ?_
        obtain ⟨o1, h⟩ := h
        refine JS_iald dX12_whyWrite_33 BS_250 (Nat.le_of_ble_eq_true rfl) (Nat.le_of_ble_eq_true rfl) o1 ?_
        refine JT_iconst (v := -1) dX12_whyWrite_34 ic_m1 ?_
        obtain ⟨o8, h⟩ := h
        refine JS_callVI (M' := MX12_bearerOf) (d' := 3) (As := [.int a1, .int (gI s 250 (((22 : Int32) + a3)).toNatClampNeg), .int (-1 : Int32)]) (rest := []) (P := (fun zv9 wm9 => (vX12_bearerOf s a1 (gI s 250 (((22 : Int32) + a3)).toNatClampNeg) (-1 : Int32)) = zv9 ∧ s = wm9)) dX12_whyWrite_35 cvX12_318 okX12_bearerOf rfl (Nat.le_of_ble_eq_true rfl) BS_248 (Nat.le_of_ble_eq_true rfl) (Nat.le_of_ble_eq_true rfl) hci_12 (Nat.le_of_ble_eq_true rfl) (Nat.le_of_ble_eq_true rfl) (pX12_bearerOf  (a1) ((gI s 250 (((22 : Int32) + a3)).toNatClampNeg)) ((-1 : Int32)) o8 ⟨rfl, rfl⟩) (fun zv9 wm9 hq9 => ?_)
        obtain ⟨rfl, rfl⟩ := hq9
        refine JT_istore (lv' := [(4, .int (vX12_bearerOf s a1 (gI s 250 (((22 : Int32) + a3)).toNatClampNeg) (-1 : Int32))), (0, .ref 248), (1, .int a1), (2, .int a2), (3, .int a3)]) dX12_whyWrite_38 (Nat.le_of_ble_eq_true rfl) rfl ?_
        refine JT_iload (q := 0) dX12_whyWrite_40 rfl ?_
        refine JT_if_ge (tgt := 47) dX12_whyWrite_42 (by decide) (fun hc7 => ?_) (fun hc7 => ?_)
        · have h := h.1 hc7
          refine JT_aload_n (q := 1) dX12_whyWrite_47 rfl rfl ?_
          refine JT_iload_n (q := 3) dX12_whyWrite_48 rfl rfl ?_
          refine JT_aload_n (q := 1) dX12_whyWrite_49 rfl rfl ?_
          refine JS_getR (x := 250) dX12_whyWrite_50 flX12_33 BS_248 (Nat.le_of_ble_eq_true rfl) (Nat.le_of_ble_eq_true rfl) (Or.inr ⟨_, ct_12_6⟩) RF_248_6 ?_
          refine JT_bipush (v := 22) dX12_whyWrite_53 bp_22 ?_
          refine JT_iload_n (q := 4) dX12_whyWrite_55 rfl rfl ?_
          refine JT_iadd dX12_whyWrite_56 ?_
          obtain ⟨o2, h⟩ := h
          refine JS_iald dX12_whyWrite_57 BS_250 (Nat.le_of_ble_eq_true rfl) (Nat.le_of_ble_eq_true rfl) o2 ?_
          refine JT_iload (q := 0) dX12_whyWrite_58 rfl ?_
          obtain ⟨o6, h⟩ := h
          refine JS_callVI (M' := MX12_bearerOf) (d' := 3) (As := [.int a2, .int (gI s 250 (((22 : Int32) + a3)).toNatClampNeg), .int (vX12_bearerOf s a1 (gI s 250 (((22 : Int32) + a3)).toNatClampNeg) (-1 : Int32))]) (rest := []) (P := (fun zv9 wm9 => (vX12_bearerOf s a2 (gI s 250 (((22 : Int32) + a3)).toNatClampNeg) (vX12_bearerOf s a1 (gI s 250 (((22 : Int32) + a3)).toNatClampNeg) (-1 : Int32))) = zv9 ∧ s = wm9)) dX12_whyWrite_60 cvX12_318 okX12_bearerOf rfl (Nat.le_of_ble_eq_true rfl) BS_248 (Nat.le_of_ble_eq_true rfl) (Nat.le_of_ble_eq_true rfl) hci_12 (Nat.le_of_ble_eq_true rfl) (Nat.le_of_ble_eq_true rfl) (pX12_bearerOf  (a2) ((gI s 250 (((22 : Int32) + a3)).toNatClampNeg)) ((vX12_bearerOf s a1 (gI s 250 (((22 : Int32) + a3)).toNatClampNeg) (-1 : Int32))) o6 ⟨rfl, rfl⟩) (fun zv9 wm9 hq9 => ?_)
          obtain ⟨rfl, rfl⟩ := hq9
          refine JT_if_ge (tgt := 68) dX12_whyWrite_63 (by decide) (fun hc5 => ?_) (fun hc5 => ?_)
          · have h := h.1 hc5
            refine JT_aload_n (q := 1) dX12_whyWrite_68 rfl rfl ?_
            refine JS_getR (x := 250) dX12_whyWrite_69 flX12_33 BS_248 (Nat.le_of_ble_eq_true rfl) (Nat.le_of_ble_eq_true rfl) (Or.inr ⟨_, ct_12_6⟩) RF_248_6 ?_
            refine JT_bipush (v := 34) dX12_whyWrite_72 bp_34 ?_
            refine JS_iald dX12_whyWrite_74 BS_250 (Nat.le_of_ble_eq_true rfl) (Nat.le_of_ble_eq_true rfl) (by unfold vp_in; decide) ?_
            refine JT_bipush (v := 60) dX12_whyWrite_75 bp_60 ?_
            have hj3 : ∀ v : Int32, v = (if (gI s 250 ((34 : Int32)).toNatClampNeg) = (60 : Int32) then (7 : Int32) else (0 : Int32)) → JT MX12_whyWrite 4 0 0 86 [(4, .int (vX12_bearerOf s a1 (gI s 250 (((22 : Int32) + a3)).toNatClampNeg) (-1 : Int32))), (0, .ref 248), (1, .int a1), (2, .int a2), (3, .int a3)] [.int v] (std s) (KQ Q) := by
              intro v hv
              subst hv
              exact JS_iret dX12_whyWrite_86 rfl rfl h
            refine JT_icmp_ne (tgt := 85) dX12_whyWrite_77 (by decide) (fun hc4 => ?_) (fun hc4 => ?_)
            · refine JT_iconst (v := 0) dX12_whyWrite_85 ic_0 ?_
              exact hj3 _ (by rw [if_neg hc4])
            · refine JT_bipush (v := 7) dX12_whyWrite_80 bp_7 ?_
              refine JT_goto (tgt := 86) dX12_whyWrite_82 (by decide) ?_
              exact hj3 _ (by rw [if_pos hc4])
          · have h := h.2 hc5
            refine JT_iconst (v := 3) dX12_whyWrite_66 ic_3 ?_
            exact JS_iret dX12_whyWrite_67 rfl rfl h
        · have h := h.2 hc7
          refine JT_iconst (v := 2) dX12_whyWrite_45 ic_2 ?_
          exact JS_iret dX12_whyWrite_46 rfl rfl h
      · have h := h.2 hc9
        refine JT_iconst (v := 1) dX12_whyWrite_21 ic_1 ?_
        exact JS_iret dX12_whyWrite_22 rfl rfl h
set_option maxRecDepth 1000000 in
theorem pX12_whyWrite (a1 : Int32) (a2 : Int32) (a3 : Int32) {s : SM} {Q : Int32 → SM → Prop} (hr : rX12_whyWrite s a1 a2 a3) (h : Q (vX12_whyWrite s a1 a2 a3) s) : KI MX12_whyWrite 4 [.ref 248, .int a1, .int a2, .int a3] s Q := by
  refine bX12_whyWrite a1 a2 a3 ?_
  unfold rX12_whyWrite at hr
  unfold vX12_whyWrite at h
  refine ⟨fun c => ?_, fun c => ?_⟩
  · replace h := qlp c h
    first | exact h | contradiction
  · replace hr := hr c
    replace h := qln c h
    refine ⟨fun c => ?_, fun c => ?_⟩
    · replace h := qlp c h
      first | exact h | contradiction
    · replace hr := hr c
      replace h := qln c h
      refine ⟨fun c => ?_, fun c => ?_⟩
      · replace hr := hr c
        replace h := qln c h
        refine ⟨hr.1, ?_⟩
        replace hr := hr.2
        refine ⟨hr.1, ?_⟩
        replace hr := hr.2
        refine ⟨fun c => ?_, fun c => ?_⟩
        · replace hr := hr c
          replace h := qlp c h
          refine ⟨hr.1, ?_⟩
          replace hr := hr.2
          refine ⟨hr, ?_⟩
          refine ⟨fun c => ?_, fun c => ?_⟩
          · replace h := qlp c h
            first | exact h | contradiction
          · replace h := qln c h
            first | exact h | contradiction
        · replace h := qln c h
          first | exact h | contradiction
      · replace h := qlp c h
        first | exact h | contradiction
set_option maxRecDepth 1000000 in
theorem bX12_writes (a1 : Int32) (a2 : Int32) (a3 : Int32) (a4 : Int32) {s : SM} {Q : SM → Prop} (h : vp_in ((22 : Int32) + a4) 787 ∧ rX12_bearerOf s a1 (gI s 250 (((22 : Int32) + a4)).toNatClampNeg) (-1 : Int32) ∧ vp_in ((22 : Int32) + a4) 787 ∧ rX12_bearerOf s a2 (gI s 250 (((22 : Int32) + a4)).toNatClampNeg) (vX12_bearerOf s a1 (gI s 250 (((22 : Int32) + a4)).toNatClampNeg) (-1 : Int32)) ∧ rX12_set (pI s 250 ((34 : Int32)).toNatClampNeg ((gI s 250 ((34 : Int32)).toNatClampNeg) + (1 : Int32))) (gI s 250 ((34 : Int32)).toNatClampNeg) (0 : Int32) a1 ∧ (∀ s3, s3 = (mX12_set (pI s 250 ((34 : Int32)).toNatClampNeg ((gI s 250 ((34 : Int32)).toNatClampNeg) + (1 : Int32))) (gI s 250 ((34 : Int32)).toNatClampNeg) (0 : Int32) a1) → rX12_set s3 (gI s 250 ((34 : Int32)).toNatClampNeg) (1 : Int32) a2 ∧ rX12_set (mX12_set s3 (gI s 250 ((34 : Int32)).toNatClampNeg) (1 : Int32) a2) (gI s 250 ((34 : Int32)).toNatClampNeg) (2 : Int32) a3 ∧ (∀ s4, s4 = (mX12_set (mX12_set s3 (gI s 250 ((34 : Int32)).toNatClampNeg) (1 : Int32) a2) (gI s 250 ((34 : Int32)).toNatClampNeg) (2 : Int32) a3) → rX12_set s4 (gI s 250 ((34 : Int32)).toNatClampNeg) (3 : Int32) a4 ∧ rX12_set (mX12_set s4 (gI s 250 ((34 : Int32)).toNatClampNeg) (3 : Int32) a4) (gI s 250 ((34 : Int32)).toNatClampNeg) (4 : Int32) (gI (mX12_set s4 (gI s 250 ((34 : Int32)).toNatClampNeg) (3 : Int32) a4) 250 ((35 : Int32)).toNatClampNeg) ∧ (∀ s5, s5 = (mX12_set (mX12_set s4 (gI s 250 ((34 : Int32)).toNatClampNeg) (3 : Int32) a4) (gI s 250 ((34 : Int32)).toNatClampNeg) (4 : Int32) (gI (mX12_set s4 (gI s 250 ((34 : Int32)).toNatClampNeg) (3 : Int32) a4) 250 ((35 : Int32)).toNatClampNeg)) → rX12_set s5 (gI s 250 ((34 : Int32)).toNatClampNeg) (5 : Int32) (0 : Int32) ∧ rX12_set (mX12_set s5 (gI s 250 ((34 : Int32)).toNatClampNeg) (5 : Int32) (0 : Int32)) (gI s 250 ((34 : Int32)).toNatClampNeg) (6 : Int32) (vX12_bearerOf s a1 (gI s 250 (((22 : Int32) + a4)).toNatClampNeg) (-1 : Int32)) ∧ (∀ s6, s6 = (mX12_set (mX12_set s5 (gI s 250 ((34 : Int32)).toNatClampNeg) (5 : Int32) (0 : Int32)) (gI s 250 ((34 : Int32)).toNatClampNeg) (6 : Int32) (vX12_bearerOf s a1 (gI s 250 (((22 : Int32) + a4)).toNatClampNeg) (-1 : Int32))) → rX12_set s6 (gI s 250 ((34 : Int32)).toNatClampNeg) (7 : Int32) (vX12_bearerOf s a2 (gI s 250 (((22 : Int32) + a4)).toNatClampNeg) (vX12_bearerOf s a1 (gI s 250 (((22 : Int32) + a4)).toNatClampNeg) (-1 : Int32))) ∧ (∀ s7, s7 = (mX12_set s6 (gI s 250 ((34 : Int32)).toNatClampNeg) (7 : Int32) (vX12_bearerOf s a2 (gI s 250 (((22 : Int32) + a4)).toNatClampNeg) (vX12_bearerOf s a1 (gI s 250 (((22 : Int32) + a4)).toNatClampNeg) (-1 : Int32)))) → rX12_set s7 (gI s 250 ((34 : Int32)).toNatClampNeg) (8 : Int32) (0 : Int32) ∧ Q (mX12_set s7 (gI s 250 ((34 : Int32)).toNatClampNeg) (8 : Int32) (0 : Int32)))))))) : KV MX12_writes 4 [.ref 248, .int a1, .int a2, .int a3, .int a4] s Q := by
  show BV MX12_writes 4 0 [(0, .ref 248), (1, .int a1), (2, .int a2), (3, .int a3), (4, .int a4)] s Q
  refine JT_aload_n (q := 0) dX12_writes_0 rfl rfl ?_
  refine JS_getR (x := 250) dX12_writes_1 flX12_33 BS_248 (Nat.le_of_ble_eq_true rfl) (Nat.le_of_ble_eq_true rfl) (Or.inr ⟨_, ct_12_6⟩) RF_248_6 ?_
  refine JT_bipush (v := 34) dX12_writes_4 bp_34 ?_
  refine JS_iald dX12_writes_6 BS_250 (Nat.le_of_ble_eq_true rfl) (Nat.le_of_ble_eq_true rfl) (by unfold vp_in; decide) ?_
  refine JT_istore (lv' := [(5, .int (gI s 250 ((34 : Int32)).toNatClampNeg)), (0, .ref 248), (1, .int a1), (2, .int a2), (3, .int a3), (4, .int a4)]) dX12_writes_7 (Nat.le_of_ble_eq_true rfl) rfl ?_
  refine JT_aload_n (q := 1) dX12_writes_9 rfl rfl ?_
  refine JT_iload_n (q := 2) dX12_writes_10 rfl rfl ?_
  refine JT_aload_n (q := 1) dX12_writes_11 rfl rfl ?_
  refine JS_getR (x := 250) dX12_writes_12 flX12_33 BS_248 (Nat.le_of_ble_eq_true rfl) (Nat.le_of_ble_eq_true rfl) (Or.inr ⟨_, ct_12_6⟩) RF_248_6 ?_
  refine JT_bipush (v := 22) dX12_writes_15 bp_22 ?_
  refine JT_iload (q := 5) dX12_writes_17 rfl ?_
  refine JT_iadd dX12_writes_19 ?_
  obtain ⟨o1, h⟩ := h
  refine JS_iald dX12_writes_20 BS_250 (Nat.le_of_ble_eq_true rfl) (Nat.le_of_ble_eq_true rfl) o1 ?_
  refine JT_iconst (v := -1) dX12_writes_21 ic_m1 ?_
  obtain ⟨o18, h⟩ := h
  refine JS_callVI (M' := MX12_bearerOf) (d' := 3) (As := [.int a1, .int (gI s 250 (((22 : Int32) + a4)).toNatClampNeg), .int (-1 : Int32)]) (rest := []) (P := (fun zv9 wm9 => (vX12_bearerOf s a1 (gI s 250 (((22 : Int32) + a4)).toNatClampNeg) (-1 : Int32)) = zv9 ∧ s = wm9)) dX12_writes_22 cvX12_318 okX12_bearerOf rfl (Nat.le_of_ble_eq_true rfl) BS_248 (Nat.le_of_ble_eq_true rfl) (Nat.le_of_ble_eq_true rfl) hci_12 (Nat.le_of_ble_eq_true rfl) (Nat.le_of_ble_eq_true rfl) (pX12_bearerOf  (a1) ((gI s 250 (((22 : Int32) + a4)).toNatClampNeg)) ((-1 : Int32)) o18 ⟨rfl, rfl⟩) (fun zv9 wm9 hq9 => ?_)
  obtain ⟨rfl, rfl⟩ := hq9
  refine JT_istore (lv' := [(6, .int (vX12_bearerOf s a1 (gI s 250 (((22 : Int32) + a4)).toNatClampNeg) (-1 : Int32))), (5, .int (gI s 250 ((34 : Int32)).toNatClampNeg)), (0, .ref 248), (1, .int a1), (2, .int a2), (3, .int a3), (4, .int a4)]) dX12_writes_25 (Nat.le_of_ble_eq_true rfl) rfl ?_
  refine JT_aload_n (q := 2) dX12_writes_27 rfl rfl ?_
  refine JT_iload_n (q := 4) dX12_writes_28 rfl rfl ?_
  refine JT_aload_n (q := 2) dX12_writes_29 rfl rfl ?_
  refine JS_getR (x := 250) dX12_writes_30 flX12_33 BS_248 (Nat.le_of_ble_eq_true rfl) (Nat.le_of_ble_eq_true rfl) (Or.inr ⟨_, ct_12_6⟩) RF_248_6 ?_
  refine JT_bipush (v := 22) dX12_writes_33 bp_22 ?_
  refine JT_iload (q := 6) dX12_writes_35 rfl ?_
  refine JT_iadd dX12_writes_37 ?_
  obtain ⟨o2, h⟩ := h
  refine JS_iald dX12_writes_38 BS_250 (Nat.le_of_ble_eq_true rfl) (Nat.le_of_ble_eq_true rfl) o2 ?_
  refine JT_iload (q := 0) dX12_writes_39 rfl ?_
  obtain ⟨o17, h⟩ := h
  refine JS_callVI (M' := MX12_bearerOf) (d' := 3) (As := [.int a2, .int (gI s 250 (((22 : Int32) + a4)).toNatClampNeg), .int (vX12_bearerOf s a1 (gI s 250 (((22 : Int32) + a4)).toNatClampNeg) (-1 : Int32))]) (rest := []) (P := (fun zv9 wm9 => (vX12_bearerOf s a2 (gI s 250 (((22 : Int32) + a4)).toNatClampNeg) (vX12_bearerOf s a1 (gI s 250 (((22 : Int32) + a4)).toNatClampNeg) (-1 : Int32))) = zv9 ∧ s = wm9)) dX12_writes_41 cvX12_318 okX12_bearerOf rfl (Nat.le_of_ble_eq_true rfl) BS_248 (Nat.le_of_ble_eq_true rfl) (Nat.le_of_ble_eq_true rfl) hci_12 (Nat.le_of_ble_eq_true rfl) (Nat.le_of_ble_eq_true rfl) (pX12_bearerOf  (a2) ((gI s 250 (((22 : Int32) + a4)).toNatClampNeg)) ((vX12_bearerOf s a1 (gI s 250 (((22 : Int32) + a4)).toNatClampNeg) (-1 : Int32))) o17 ⟨rfl, rfl⟩) (fun zv9 wm9 hq9 => ?_)
  obtain ⟨rfl, rfl⟩ := hq9
  refine JT_istore (lv' := [(7, .int (vX12_bearerOf s a2 (gI s 250 (((22 : Int32) + a4)).toNatClampNeg) (vX12_bearerOf s a1 (gI s 250 (((22 : Int32) + a4)).toNatClampNeg) (-1 : Int32)))), (6, .int (vX12_bearerOf s a1 (gI s 250 (((22 : Int32) + a4)).toNatClampNeg) (-1 : Int32))), (5, .int (gI s 250 ((34 : Int32)).toNatClampNeg)), (0, .ref 248), (1, .int a1), (2, .int a2), (3, .int a3), (4, .int a4)]) dX12_writes_44 (Nat.le_of_ble_eq_true rfl) rfl ?_
  refine JT_aload_n (q := 3) dX12_writes_46 rfl rfl ?_
  refine JS_getR (x := 250) dX12_writes_47 flX12_33 BS_248 (Nat.le_of_ble_eq_true rfl) (Nat.le_of_ble_eq_true rfl) (Or.inr ⟨_, ct_12_6⟩) RF_248_6 ?_
  refine JT_bipush (v := 34) dX12_writes_50 bp_34 ?_
  refine JT_dup2 dX12_writes_52 rfl rfl ?_
  refine JS_iald dX12_writes_53 BS_250 (Nat.le_of_ble_eq_true rfl) (Nat.le_of_ble_eq_true rfl) (by unfold vp_in; decide) ?_
  refine JT_iconst (v := 1) dX12_writes_54 ic_1 ?_
  refine JT_iadd dX12_writes_55 ?_
  refine JS_iast dX12_writes_56 BS_250 (Nat.le_of_ble_eq_true rfl) (Nat.le_of_ble_eq_true rfl) (by unfold vp_in; decide) ?_
  refine JT_aload_n (q := 3) dX12_writes_57 rfl rfl ?_
  refine JT_iload (q := 2) dX12_writes_58 rfl ?_
  refine JT_iconst (v := 0) dX12_writes_60 ic_0 ?_
  refine JT_iload_n (q := 4) dX12_writes_61 rfl rfl ?_
  obtain ⟨o16, h⟩ := h
  refine JS_callVV (M' := MX12_set) (d' := 0) (As := [.int (gI s 250 ((34 : Int32)).toNatClampNeg), .int (0 : Int32), .int a1]) (rest := []) (P := (fun wm9 => (mX12_set (pI s 250 ((34 : Int32)).toNatClampNeg ((gI s 250 ((34 : Int32)).toNatClampNeg) + (1 : Int32))) (gI s 250 ((34 : Int32)).toNatClampNeg) (0 : Int32) a1) = wm9)) dX12_writes_62 cvX12_322 okX12_set rfl (Nat.le_of_ble_eq_true rfl) BS_248 (Nat.le_of_ble_eq_true rfl) (Nat.le_of_ble_eq_true rfl) hci_12 (Nat.le_of_ble_eq_true rfl) (Nat.le_of_ble_eq_true rfl) (pX12_set  ((gI s 250 ((34 : Int32)).toNatClampNeg)) ((0 : Int32)) (a1) o16 rfl) (fun wm9 hq9 => ?_)
  subst hq9
  obtain ⟨s3, hs3⟩ : ∃ z, z = (mX12_set (pI s 250 ((34 : Int32)).toNatClampNeg ((gI s 250 ((34 : Int32)).toNatClampNeg) + (1 : Int32))) (gI s 250 ((34 : Int32)).toNatClampNeg) (0 : Int32) a1) := ⟨_, rfl⟩
  replace h := h s3 hs3
  rw [← hs3]
  refine JT_aload_n (q := 3) dX12_writes_65 rfl rfl ?_
  refine JT_iload (q := 2) dX12_writes_66 rfl ?_
  refine JT_iconst (v := 1) dX12_writes_68 ic_1 ?_
  refine JT_iload_n (q := 5) dX12_writes_69 rfl rfl ?_
  obtain ⟨o15, h⟩ := h
  refine JS_callVV (M' := MX12_set) (d' := 0) (As := [.int (gI s 250 ((34 : Int32)).toNatClampNeg), .int (1 : Int32), .int a2]) (rest := []) (P := (fun wm9 => (mX12_set s3 (gI s 250 ((34 : Int32)).toNatClampNeg) (1 : Int32) a2) = wm9)) dX12_writes_70 cvX12_322 okX12_set rfl (Nat.le_of_ble_eq_true rfl) BS_248 (Nat.le_of_ble_eq_true rfl) (Nat.le_of_ble_eq_true rfl) hci_12 (Nat.le_of_ble_eq_true rfl) (Nat.le_of_ble_eq_true rfl) (pX12_set  ((gI s 250 ((34 : Int32)).toNatClampNeg)) ((1 : Int32)) (a2) o15 rfl) (fun wm9 hq9 => ?_)
  subst hq9
  refine JT_aload_n (q := 3) dX12_writes_73 rfl rfl ?_
  refine JT_iload (q := 2) dX12_writes_74 rfl ?_
  refine JT_iconst (v := 2) dX12_writes_76 ic_2 ?_
  refine JT_iload_n (q := 6) dX12_writes_77 rfl rfl ?_
  obtain ⟨o14, h⟩ := h
  refine JS_callVV (M' := MX12_set) (d' := 0) (As := [.int (gI s 250 ((34 : Int32)).toNatClampNeg), .int (2 : Int32), .int a3]) (rest := []) (P := (fun wm9 => (mX12_set (mX12_set s3 (gI s 250 ((34 : Int32)).toNatClampNeg) (1 : Int32) a2) (gI s 250 ((34 : Int32)).toNatClampNeg) (2 : Int32) a3) = wm9)) dX12_writes_78 cvX12_322 okX12_set rfl (Nat.le_of_ble_eq_true rfl) BS_248 (Nat.le_of_ble_eq_true rfl) (Nat.le_of_ble_eq_true rfl) hci_12 (Nat.le_of_ble_eq_true rfl) (Nat.le_of_ble_eq_true rfl) (pX12_set  ((gI s 250 ((34 : Int32)).toNatClampNeg)) ((2 : Int32)) (a3) o14 rfl) (fun wm9 hq9 => ?_)
  subst hq9
  obtain ⟨s4, hs4⟩ : ∃ z, z = (mX12_set (mX12_set s3 (gI s 250 ((34 : Int32)).toNatClampNeg) (1 : Int32) a2) (gI s 250 ((34 : Int32)).toNatClampNeg) (2 : Int32) a3) := ⟨_, rfl⟩
  replace h := h s4 hs4
  rw [← hs4]
  refine JT_aload_n (q := 3) dX12_writes_81 rfl rfl ?_
  refine JT_iload (q := 2) dX12_writes_82 rfl ?_
  refine JT_iconst (v := 3) dX12_writes_84 ic_3 ?_
  refine JT_iload (q := 7) dX12_writes_85 rfl ?_
  obtain ⟨o13, h⟩ := h
  refine JS_callVV (M' := MX12_set) (d' := 0) (As := [.int (gI s 250 ((34 : Int32)).toNatClampNeg), .int (3 : Int32), .int a4]) (rest := []) (P := (fun wm9 => (mX12_set s4 (gI s 250 ((34 : Int32)).toNatClampNeg) (3 : Int32) a4) = wm9)) dX12_writes_87 cvX12_322 okX12_set rfl (Nat.le_of_ble_eq_true rfl) BS_248 (Nat.le_of_ble_eq_true rfl) (Nat.le_of_ble_eq_true rfl) hci_12 (Nat.le_of_ble_eq_true rfl) (Nat.le_of_ble_eq_true rfl) (pX12_set  ((gI s 250 ((34 : Int32)).toNatClampNeg)) ((3 : Int32)) (a4) o13 rfl) (fun wm9 hq9 => ?_)
  subst hq9
  refine JT_aload_n (q := 3) dX12_writes_90 rfl rfl ?_
  refine JT_iload (q := 2) dX12_writes_91 rfl ?_
  refine JT_iconst (v := 4) dX12_writes_93 ic_4 ?_
  refine JT_aload_n (q := 3) dX12_writes_94 rfl rfl ?_
  refine JS_getR (x := 250) dX12_writes_95 flX12_33 BS_248 (Nat.le_of_ble_eq_true rfl) (Nat.le_of_ble_eq_true rfl) (Or.inr ⟨_, ct_12_6⟩) RF_248_6 ?_
  refine JT_bipush (v := 35) dX12_writes_98 bp_35 ?_
  refine JS_iald dX12_writes_100 BS_250 (Nat.le_of_ble_eq_true rfl) (Nat.le_of_ble_eq_true rfl) (by unfold vp_in; decide) ?_
  obtain ⟨o12, h⟩ := h
  refine JS_callVV (M' := MX12_set) (d' := 0) (As := [.int (gI s 250 ((34 : Int32)).toNatClampNeg), .int (4 : Int32), .int (gI (mX12_set s4 (gI s 250 ((34 : Int32)).toNatClampNeg) (3 : Int32) a4) 250 ((35 : Int32)).toNatClampNeg)]) (rest := []) (P := (fun wm9 => (mX12_set (mX12_set s4 (gI s 250 ((34 : Int32)).toNatClampNeg) (3 : Int32) a4) (gI s 250 ((34 : Int32)).toNatClampNeg) (4 : Int32) (gI (mX12_set s4 (gI s 250 ((34 : Int32)).toNatClampNeg) (3 : Int32) a4) 250 ((35 : Int32)).toNatClampNeg)) = wm9)) dX12_writes_101 cvX12_322 okX12_set rfl (Nat.le_of_ble_eq_true rfl) BS_248 (Nat.le_of_ble_eq_true rfl) (Nat.le_of_ble_eq_true rfl) hci_12 (Nat.le_of_ble_eq_true rfl) (Nat.le_of_ble_eq_true rfl) (pX12_set  ((gI s 250 ((34 : Int32)).toNatClampNeg)) ((4 : Int32)) ((gI (mX12_set s4 (gI s 250 ((34 : Int32)).toNatClampNeg) (3 : Int32) a4) 250 ((35 : Int32)).toNatClampNeg)) o12 rfl) (fun wm9 hq9 => ?_)
  subst hq9
  obtain ⟨s5, hs5⟩ : ∃ z, z = (mX12_set (mX12_set s4 (gI s 250 ((34 : Int32)).toNatClampNeg) (3 : Int32) a4) (gI s 250 ((34 : Int32)).toNatClampNeg) (4 : Int32) (gI (mX12_set s4 (gI s 250 ((34 : Int32)).toNatClampNeg) (3 : Int32) a4) 250 ((35 : Int32)).toNatClampNeg)) := ⟨_, rfl⟩
  replace h := h s5 hs5
  rw [← hs5]
  refine JT_aload_n (q := 3) dX12_writes_104 rfl rfl ?_
  refine JT_iload (q := 2) dX12_writes_105 rfl ?_
  refine JT_iconst (v := 5) dX12_writes_107 ic_5 ?_
  refine JT_iconst (v := 0) dX12_writes_108 ic_0 ?_
  obtain ⟨o11, h⟩ := h
  refine JS_callVV (M' := MX12_set) (d' := 0) (As := [.int (gI s 250 ((34 : Int32)).toNatClampNeg), .int (5 : Int32), .int (0 : Int32)]) (rest := []) (P := (fun wm9 => (mX12_set s5 (gI s 250 ((34 : Int32)).toNatClampNeg) (5 : Int32) (0 : Int32)) = wm9)) dX12_writes_109 cvX12_322 okX12_set rfl (Nat.le_of_ble_eq_true rfl) BS_248 (Nat.le_of_ble_eq_true rfl) (Nat.le_of_ble_eq_true rfl) hci_12 (Nat.le_of_ble_eq_true rfl) (Nat.le_of_ble_eq_true rfl) (pX12_set  ((gI s 250 ((34 : Int32)).toNatClampNeg)) ((5 : Int32)) ((0 : Int32)) o11 rfl) (fun wm9 hq9 => ?_)
  subst hq9
  refine JT_aload_n (q := 3) dX12_writes_112 rfl rfl ?_
  refine JT_iload (q := 2) dX12_writes_113 rfl ?_
  refine JT_bipush (v := 6) dX12_writes_115 bp_6 ?_
  refine JT_iload (q := 1) dX12_writes_117 rfl ?_
  obtain ⟨o10, h⟩ := h
  refine JS_callVV (M' := MX12_set) (d' := 0) (As := [.int (gI s 250 ((34 : Int32)).toNatClampNeg), .int (6 : Int32), .int (vX12_bearerOf s a1 (gI s 250 (((22 : Int32) + a4)).toNatClampNeg) (-1 : Int32))]) (rest := []) (P := (fun wm9 => (mX12_set (mX12_set s5 (gI s 250 ((34 : Int32)).toNatClampNeg) (5 : Int32) (0 : Int32)) (gI s 250 ((34 : Int32)).toNatClampNeg) (6 : Int32) (vX12_bearerOf s a1 (gI s 250 (((22 : Int32) + a4)).toNatClampNeg) (-1 : Int32))) = wm9)) dX12_writes_119 cvX12_322 okX12_set rfl (Nat.le_of_ble_eq_true rfl) BS_248 (Nat.le_of_ble_eq_true rfl) (Nat.le_of_ble_eq_true rfl) hci_12 (Nat.le_of_ble_eq_true rfl) (Nat.le_of_ble_eq_true rfl) (pX12_set  ((gI s 250 ((34 : Int32)).toNatClampNeg)) ((6 : Int32)) ((vX12_bearerOf s a1 (gI s 250 (((22 : Int32) + a4)).toNatClampNeg) (-1 : Int32))) o10 rfl) (fun wm9 hq9 => ?_)
  subst hq9
  obtain ⟨s6, hs6⟩ : ∃ z, z = (mX12_set (mX12_set s5 (gI s 250 ((34 : Int32)).toNatClampNeg) (5 : Int32) (0 : Int32)) (gI s 250 ((34 : Int32)).toNatClampNeg) (6 : Int32) (vX12_bearerOf s a1 (gI s 250 (((22 : Int32) + a4)).toNatClampNeg) (-1 : Int32))) := ⟨_, rfl⟩
  replace h := h s6 hs6
  rw [← hs6]
  refine JT_aload_n (q := 3) dX12_writes_122 rfl rfl ?_
  refine JT_iload (q := 2) dX12_writes_123 rfl ?_
  refine JT_bipush (v := 7) dX12_writes_125 bp_7 ?_
  refine JT_iload (q := 0) dX12_writes_127 rfl ?_
  obtain ⟨o9, h⟩ := h
  refine JS_callVV (M' := MX12_set) (d' := 0) (As := [.int (gI s 250 ((34 : Int32)).toNatClampNeg), .int (7 : Int32), .int (vX12_bearerOf s a2 (gI s 250 (((22 : Int32) + a4)).toNatClampNeg) (vX12_bearerOf s a1 (gI s 250 (((22 : Int32) + a4)).toNatClampNeg) (-1 : Int32)))]) (rest := []) (P := (fun wm9 => (mX12_set s6 (gI s 250 ((34 : Int32)).toNatClampNeg) (7 : Int32) (vX12_bearerOf s a2 (gI s 250 (((22 : Int32) + a4)).toNatClampNeg) (vX12_bearerOf s a1 (gI s 250 (((22 : Int32) + a4)).toNatClampNeg) (-1 : Int32)))) = wm9)) dX12_writes_129 cvX12_322 okX12_set rfl (Nat.le_of_ble_eq_true rfl) BS_248 (Nat.le_of_ble_eq_true rfl) (Nat.le_of_ble_eq_true rfl) hci_12 (Nat.le_of_ble_eq_true rfl) (Nat.le_of_ble_eq_true rfl) (pX12_set  ((gI s 250 ((34 : Int32)).toNatClampNeg)) ((7 : Int32)) ((vX12_bearerOf s a2 (gI s 250 (((22 : Int32) + a4)).toNatClampNeg) (vX12_bearerOf s a1 (gI s 250 (((22 : Int32) + a4)).toNatClampNeg) (-1 : Int32)))) o9 rfl) (fun wm9 hq9 => ?_)
  subst hq9
  obtain ⟨s7, hs7⟩ : ∃ z, z = (mX12_set s6 (gI s 250 ((34 : Int32)).toNatClampNeg) (7 : Int32) (vX12_bearerOf s a2 (gI s 250 (((22 : Int32) + a4)).toNatClampNeg) (vX12_bearerOf s a1 (gI s 250 (((22 : Int32) + a4)).toNatClampNeg) (-1 : Int32)))) := ⟨_, rfl⟩
  replace h := h s7 hs7
  rw [← hs7]
  refine JT_aload_n (q := 3) dX12_writes_132 rfl rfl ?_
  refine JT_iload (q := 2) dX12_writes_133 rfl ?_
  refine JT_bipush (v := 8) dX12_writes_135 bp_8 ?_
  refine JT_iconst (v := 0) dX12_writes_137 ic_0 ?_
  obtain ⟨o8, h⟩ := h
  refine JS_callVV (M' := MX12_set) (d' := 0) (As := [.int (gI s 250 ((34 : Int32)).toNatClampNeg), .int (8 : Int32), .int (0 : Int32)]) (rest := []) (P := (fun wm9 => (mX12_set s7 (gI s 250 ((34 : Int32)).toNatClampNeg) (8 : Int32) (0 : Int32)) = wm9)) dX12_writes_138 cvX12_322 okX12_set rfl (Nat.le_of_ble_eq_true rfl) BS_248 (Nat.le_of_ble_eq_true rfl) (Nat.le_of_ble_eq_true rfl) hci_12 (Nat.le_of_ble_eq_true rfl) (Nat.le_of_ble_eq_true rfl) (pX12_set  ((gI s 250 ((34 : Int32)).toNatClampNeg)) ((8 : Int32)) ((0 : Int32)) o8 rfl) (fun wm9 hq9 => ?_)
  subst hq9
  exact JS_vret dX12_writes_141 rfl h
set_option maxRecDepth 1000000 in
theorem pX12_writes (a1 : Int32) (a2 : Int32) (a3 : Int32) (a4 : Int32) {s : SM} {Q : SM → Prop} (hr : rX12_writes s a1 a2 a3 a4) (h : Q (mX12_writes s a1 a2 a3 a4)) : KV MX12_writes 4 [.ref 248, .int a1, .int a2, .int a3, .int a4] s Q := by
  refine bX12_writes a1 a2 a3 a4 ?_
  unfold rX12_writes at hr
  unfold mX12_writes at h
  refine ⟨hr.1, ?_⟩
  replace hr := hr.2
  refine ⟨hr.1, ?_⟩
  replace hr := hr.2
  refine ⟨hr.1, ?_⟩
  replace hr := hr.2
  refine ⟨hr.1, ?_⟩
  replace hr := hr.2
  refine ⟨hr.1, ?_⟩
  replace hr := hr.2
  intro s3 e9
  replace hr := hr s3 e9
  try rw [← e9] at h
  try dsimp only at h
  refine ⟨hr.1, ?_⟩
  replace hr := hr.2
  refine ⟨hr.1, ?_⟩
  replace hr := hr.2
  intro s4 e9
  replace hr := hr s4 e9
  try rw [← e9] at h
  try dsimp only at h
  refine ⟨hr.1, ?_⟩
  replace hr := hr.2
  refine ⟨hr.1, ?_⟩
  replace hr := hr.2
  intro s5 e9
  replace hr := hr s5 e9
  try rw [← e9] at h
  try dsimp only at h
  refine ⟨hr.1, ?_⟩
  replace hr := hr.2
  refine ⟨hr.1, ?_⟩
  replace hr := hr.2
  intro s6 e9
  replace hr := hr s6 e9
  try rw [← e9] at h
  try dsimp only at h
  refine ⟨hr.1, ?_⟩
  replace hr := hr.2
  intro s7 e9
  replace hr := hr s7 e9
  try rw [← e9] at h
  try dsimp only at h
  refine ⟨hr, ?_⟩
  first | exact h | contradiction
set_option maxRecDepth 1000000 in
theorem bX4_isLost {L0 P0 : Nat} (hL0 : (L0, P0) ∈ LX) (a1 : Int32) {s : SM} {Q : Int32 → SM → Prop} (h : rX4_isOpen s L0 P0 a1 ∧ (((vX4_isOpen s L0 P0 a1) = 0 → Q (0 : Int32) s) ∧ (¬ (vX4_isOpen s L0 P0 a1) = 0 → vp_in a1 60 ∧ vp_in (gI s (L0 + 4) (a1).toNatClampNeg) 6 ∧ (((gI s (P0 + 6) ((gI s (L0 + 4) (a1).toNatClampNeg)).toNatClampNeg) = (3 : Int32) → Q (0 : Int32) s) ∧ (¬ (gI s (P0 + 6) ((gI s (L0 + 4) (a1).toNatClampNeg)).toNatClampNeg) = (3 : Int32) → rX4_isKnown s L0 P0 a1 ∧ Q (if (vX4_isKnown s L0 P0 a1) = 0 then (1 : Int32) else (0 : Int32)) s))))) : KI MX4_isLost 4 [.ref L0, .int a1] s Q := by
  show BI MX4_isLost 4 0 [(0, .ref L0), (1, .int a1)] s Q
  refine JT_aload_n (q := 0) dX4_isLost_0 rfl rfl ?_
  refine JT_iload_n (q := 1) dX4_isLost_1 rfl rfl ?_
  obtain ⟨o8, h⟩ := h
  refine JS_callVI (M' := MX4_isOpen) (d' := 1) (As := [.int a1]) (rest := []) (P := (fun zv9 wm9 => (vX4_isOpen s L0 P0 a1) = zv9 ∧ s = wm9)) dX4_isLost_2 cvX4_94 okX4_isOpen rfl (Nat.le_of_ble_eq_true rfl) (lxB hL0) (lx2 hL0) (lxN hL0) hci_4 (Nat.le_of_ble_eq_true rfl) (Nat.le_of_ble_eq_true rfl) (pX4_isOpen hL0 (a1) o8 ⟨rfl, rfl⟩) (fun zv9 wm9 hq9 => ?_)
  obtain ⟨rfl, rfl⟩ := hq9
  refine JT_if_eq (tgt := 38) dX4_isLost_5 (by decide) (fun hc7 => ?_) (fun hc7 => ?_)
  · have h := h.1 hc7
    refine JT_iconst (v := 0) dX4_isLost_38 ic_0 ?_
    exact JS_iret dX4_isLost_39 rfl (n01 (Or.inl rfl)) h
  · have h := h.2 hc7
    refine JT_aload_n (q := 0) dX4_isLost_8 rfl rfl ?_
    refine JS_getR (x := P0) dX4_isLost_9 flX4_45 (lxB hL0) (lx2 hL0) (lxN hL0) (Or.inl ⟨_, ct_4_8⟩) (lxR8 hL0) ?_
    refine JS_getR (x := (P0 + 6)) dX4_isLost_12 flX4_91 (pxB (lxP hL0)) (px2 (lxP hL0)) (pxN (lxP hL0)) (Or.inr ⟨_, ct_6_5⟩) (pxR5 (lxP hL0)) ?_
    refine JT_aload_n (q := 0) dX4_isLost_15 rfl rfl ?_
    refine JS_getR (x := (L0 + 4)) dX4_isLost_16 flX4_21 (lxB hL0) (lx2 hL0) (lxN hL0) (Or.inr ⟨_, ct_4_3⟩) (lxR3 hL0) ?_
    refine JT_iload_n (q := 1) dX4_isLost_19 rfl rfl ?_
    obtain ⟨o1, h⟩ := h
    refine JS_iald dX4_isLost_20 (lxB4 hL0) (lx2k hL0 _) (lxNk hL0 (Nat.le_of_ble_eq_true rfl)) o1 ?_
    obtain ⟨o2, h⟩ := h
    refine JS_iald dX4_isLost_21 (pxB6 (lxP hL0)) (px2k (lxP hL0) _) (pxNk (lxP hL0) (Nat.le_of_ble_eq_true rfl)) o2 ?_
    refine JT_iconst (v := 3) dX4_isLost_22 ic_3 ?_
    refine JT_icmp_eq (tgt := 38) dX4_isLost_23 (by decide) (fun hc6 => ?_) (fun hc6 => ?_)
    · have h := h.1 hc6
      refine JT_iconst (v := 0) dX4_isLost_38 ic_0 ?_
      exact JS_iret dX4_isLost_39 rfl (n01 (Or.inl rfl)) h
    · have h := h.2 hc6
      refine JT_aload_n (q := 0) dX4_isLost_26 rfl rfl ?_
      refine JT_iload_n (q := 1) dX4_isLost_27 rfl rfl ?_
      obtain ⟨o5, h⟩ := h
      refine JS_callVI (M' := MX4_isKnown) (d' := 3) (As := [.int a1]) (rest := []) (P := (fun zv9 wm9 => (vX4_isKnown s L0 P0 a1) = zv9 ∧ s = wm9)) dX4_isLost_28 cvX4_97 okX4_isKnown rfl (Nat.le_of_ble_eq_true rfl) (lxB hL0) (lx2 hL0) (lxN hL0) hci_4 (Nat.le_of_ble_eq_true rfl) (Nat.le_of_ble_eq_true rfl) (pX4_isKnown hL0 (a1) o5 ⟨rfl, rfl⟩) (fun zv9 wm9 hq9 => ?_)
      obtain ⟨rfl, rfl⟩ := hq9
      have hj3 : ∀ v : Int32, v = (if (vX4_isKnown s L0 P0 a1) = 0 then (1 : Int32) else (0 : Int32)) → JT MX4_isLost 4 0 0 39 [(0, .ref L0), (1, .int a1)] [.int v] (std s) (KQ Q) := by
        intro v hv
        subst hv
        exact JS_iret dX4_isLost_39 rfl (n01 (i01 (Or.inr rfl) (Or.inl rfl))) h
      refine JT_if_ne (tgt := 38) dX4_isLost_31 (by decide) (fun hc4 => ?_) (fun hc4 => ?_)
      · refine JT_iconst (v := 0) dX4_isLost_38 ic_0 ?_
        exact hj3 _ (by rw [if_neg hc4])
      · refine JT_iconst (v := 1) dX4_isLost_34 ic_1 ?_
        refine JT_goto (tgt := 39) dX4_isLost_35 (by decide) ?_
        exact hj3 _ (by rw [if_pos hc4])
set_option maxRecDepth 1000000 in
theorem zX4_isLost (s : SM) (L0 P0 : Nat) (a1 : Int32) : vX4_isLost s L0 P0 a1 = 0 ∨ vX4_isLost s L0 P0 a1 = 1 := (i01 (Or.inl rfl) (i01 (Or.inl rfl) (i01 (Or.inr rfl) (Or.inl rfl))))
set_option maxRecDepth 1000000 in
theorem pX4_isLost {L0 P0 : Nat} (hL0 : (L0, P0) ∈ LX) (a1 : Int32) {s : SM} {Q : Int32 → SM → Prop} (hr : rX4_isLost s L0 P0 a1) (h : Q (vX4_isLost s L0 P0 a1) s) : KI MX4_isLost 4 [.ref L0, .int a1] s Q := by
  refine bX4_isLost hL0 a1 ?_
  unfold rX4_isLost at hr
  unfold vX4_isLost at h
  refine ⟨hr.1, ?_⟩
  replace hr := hr.2
  refine ⟨fun c => ?_, fun c => ?_⟩
  · replace h := qlp c h
    first | exact h | contradiction
  · replace hr := hr c
    replace h := qln c h
    refine ⟨hr.1, ?_⟩
    replace hr := hr.2
    refine ⟨hr.1, ?_⟩
    replace hr := hr.2
    refine ⟨fun c => ?_, fun c => ?_⟩
    · replace h := qlp c h
      first | exact h | contradiction
    · replace hr := hr c
      replace h := qln c h
      refine ⟨hr, ?_⟩
      first | exact h | contradiction
set_option maxRecDepth 1000000 in
theorem bX4_owedSurely_5 {L0 P0 : Nat} (hL0 : (L0, P0) ∈ LX) (a1 : Int32) (a2 : Int32) (a3 : Int32) (a4 : Int32) {s : SM} {Q : Int32 → SM → Prop} (h : (((gI s L0 9) ≤ a4 → Q a3 s) ∧ (¬ (gI s L0 9) ≤ a4 → rX4_isOpen s L0 P0 a4 ∧ (((vX4_isOpen s L0 P0 a4) = 0 → BI MX4_owedSurely 4 5 [(0, .ref L0), (1, .int a1), (2, .int a2), (3, .int a3), (4, .int (a4 + 1))] s Q) ∧ (¬ (vX4_isOpen s L0 P0 a4) = 0 → vp_in a4 60 ∧ ((¬ (gI s (L0 + 1) (a4).toNatClampNeg) = a1 → BI MX4_owedSurely 4 5 [(0, .ref L0), (1, .int a1), (2, .int a2), (3, .int a3), (4, .int (a4 + 1))] s Q) ∧ ((gI s (L0 + 1) (a4).toNatClampNeg) = a1 → rX4_isKnownBy s L0 P0 a4 a2 ∧ (((vX4_isKnownBy s L0 P0 a4 a2) = 0 → BI MX4_owedSurely 4 5 [(0, .ref L0), (1, .int a1), (2, .int a2), (3, .int a3), (4, .int (a4 + 1))] s Q) ∧ (¬ (vX4_isKnownBy s L0 P0 a4 a2) = 0 → rX4_valueOf s L0 P0 a4 ∧ BI MX4_owedSurely 4 5 [(0, .ref L0), (1, .int a1), (2, .int a2), (3, .int (a3 + (vX4_valueOf s L0 P0 a4))), (4, .int (a4 + 1))] s Q))))))))) : BI MX4_owedSurely 4 5 [(0, .ref L0), (1, .int a1), (2, .int a2), (3, .int a3), (4, .int a4)] s Q := by
  refine JT_iload (q := 4) dX4_owedSurely_5 rfl ?_
  refine JT_aload_n (q := 0) dX4_owedSurely_7 rfl rfl ?_
  refine JS_getI dX4_owedSurely_8 flX4_49 (lxB hL0) (lx2 hL0) (lxN hL0) (Or.inl ct_4_9) ?_
  refine JT_icmp_ge (tgt := 59) dX4_owedSurely_11 (by decide) (fun hc8 => ?_) (fun hc8 => ?_)
  · have h := h.1 hc8
    refine JT_iload_n (q := 3) dX4_owedSurely_59 rfl rfl ?_
    exact JS_iret dX4_owedSurely_60 rfl rfl h
  · have h := h.2 hc8
    refine JT_aload_n (q := 0) dX4_owedSurely_14 rfl rfl ?_
    refine JT_iload (q := 4) dX4_owedSurely_15 rfl ?_
    obtain ⟨o7, h⟩ := h
    refine JS_callVI (M' := MX4_isOpen) (d' := 1) (As := [.int a4]) (rest := []) (P := (fun zv9 wm9 => (vX4_isOpen s L0 P0 a4) = zv9 ∧ s = wm9)) dX4_owedSurely_17 cvX4_94 okX4_isOpen rfl (Nat.le_of_ble_eq_true rfl) (lxB hL0) (lx2 hL0) (lxN hL0) hci_4 (Nat.le_of_ble_eq_true rfl) (Nat.le_of_ble_eq_true rfl) (pX4_isOpen hL0 (a4) o7 ⟨rfl, rfl⟩) (fun zv9 wm9 hq9 => ?_)
    obtain ⟨rfl, rfl⟩ := hq9
    refine JT_if_eq (tgt := 53) dX4_owedSurely_20 (by decide) (fun hc6 => ?_) (fun hc6 => ?_)
    · have h := h.1 hc6
      refine JT_iinc (q := 4) (v := (a4 + 1)) (lv' := [(4, .int (a4 + 1)), (0, .ref L0), (1, .int a1), (2, .int a2), (3, .int a3)]) dX4_owedSurely_53 rfl (by rfl) (Nat.le_of_ble_eq_true rfl) rfl ?_
      refine JT_goto (tgt := 5) dX4_owedSurely_56 (by decide) ?_
      exact JT_sub [1, 2, 3, 4, 0] rfl h
    · have h := h.2 hc6
      refine JT_aload_n (q := 0) dX4_owedSurely_23 rfl rfl ?_
      refine JS_getR (x := (L0 + 1)) dX4_owedSurely_24 flX4_9 (lxB hL0) (lx2 hL0) (lxN hL0) (Or.inr ⟨_, ct_4_0⟩) (lxR0 hL0) ?_
      refine JT_iload (q := 4) dX4_owedSurely_27 rfl ?_
      obtain ⟨o1, h⟩ := h
      refine JS_iald dX4_owedSurely_29 (lxB1 hL0) (lx2k hL0 _) (lxNk hL0 (Nat.le_of_ble_eq_true rfl)) o1 ?_
      refine JT_iload_n (q := 1) dX4_owedSurely_30 rfl rfl ?_
      refine JT_icmp_ne (tgt := 53) dX4_owedSurely_31 (by decide) (fun hc5 => ?_) (fun hc5 => ?_)
      · have h := h.1 hc5
        refine JT_iinc (q := 4) (v := (a4 + 1)) (lv' := [(4, .int (a4 + 1)), (0, .ref L0), (1, .int a1), (2, .int a2), (3, .int a3)]) dX4_owedSurely_53 rfl (by rfl) (Nat.le_of_ble_eq_true rfl) rfl ?_
        refine JT_goto (tgt := 5) dX4_owedSurely_56 (by decide) ?_
        exact JT_sub [1, 2, 3, 4, 0] rfl h
      · have h := h.2 hc5
        refine JT_aload_n (q := 0) dX4_owedSurely_34 rfl rfl ?_
        refine JT_iload (q := 4) dX4_owedSurely_35 rfl ?_
        refine JT_iload_n (q := 2) dX4_owedSurely_37 rfl rfl ?_
        obtain ⟨o4, h⟩ := h
        refine JS_callVI (M' := MX4_isKnownBy) (d' := 3) (As := [.int a4, .int a2]) (rest := []) (P := (fun zv9 wm9 => (vX4_isKnownBy s L0 P0 a4 a2) = zv9 ∧ s = wm9)) dX4_owedSurely_38 cvX4_113 okX4_isKnownBy rfl (Nat.le_of_ble_eq_true rfl) (lxB hL0) (lx2 hL0) (lxN hL0) hci_4 (Nat.le_of_ble_eq_true rfl) (Nat.le_of_ble_eq_true rfl) (pX4_isKnownBy hL0 (a4) (a2) o4 ⟨rfl, rfl⟩) (fun zv9 wm9 hq9 => ?_)
        obtain ⟨rfl, rfl⟩ := hq9
        refine JT_if_eq (tgt := 53) dX4_owedSurely_41 (by decide) (fun hc3 => ?_) (fun hc3 => ?_)
        · have h := h.1 hc3
          refine JT_iinc (q := 4) (v := (a4 + 1)) (lv' := [(4, .int (a4 + 1)), (0, .ref L0), (1, .int a1), (2, .int a2), (3, .int a3)]) dX4_owedSurely_53 rfl (by rfl) (Nat.le_of_ble_eq_true rfl) rfl ?_
          refine JT_goto (tgt := 5) dX4_owedSurely_56 (by decide) ?_
          exact JT_sub [1, 2, 3, 4, 0] rfl h
        · have h := h.2 hc3
          refine JT_iload_n (q := 3) dX4_owedSurely_44 rfl rfl ?_
          refine JT_aload_n (q := 0) dX4_owedSurely_45 rfl rfl ?_
          refine JT_iload (q := 4) dX4_owedSurely_46 rfl ?_
          obtain ⟨o2, h⟩ := h
          refine JS_callVI (M' := MX4_valueOf) (d' := 1) (As := [.int a4]) (rest := [.int a3]) (P := (fun zv9 wm9 => (vX4_valueOf s L0 P0 a4) = zv9 ∧ s = wm9)) dX4_owedSurely_48 cvX4_103 okX4_valueOf rfl (Nat.le_of_ble_eq_true rfl) (lxB hL0) (lx2 hL0) (lxN hL0) hci_4 (Nat.le_of_ble_eq_true rfl) (Nat.le_of_ble_eq_true rfl) (pX4_valueOf hL0 (a4) o2 ⟨rfl, rfl⟩) (fun zv9 wm9 hq9 => ?_)
          obtain ⟨rfl, rfl⟩ := hq9
          refine JT_iadd dX4_owedSurely_51 ?_
          refine JT_istore_n (lv' := [(3, .int (a3 + (vX4_valueOf s L0 P0 a4))), (0, .ref L0), (1, .int a1), (2, .int a2), (4, .int a4)]) dX4_owedSurely_52 rfl (Nat.le_of_ble_eq_true rfl) rfl ?_
          refine JT_iinc (q := 4) (v := (a4 + 1)) (lv' := [(4, .int (a4 + 1)), (3, .int (a3 + (vX4_valueOf s L0 P0 a4))), (0, .ref L0), (1, .int a1), (2, .int a2)]) dX4_owedSurely_53 rfl (by rfl) (Nat.le_of_ble_eq_true rfl) rfl ?_
          refine JT_goto (tgt := 5) dX4_owedSurely_56 (by decide) ?_
          exact JT_sub [2, 3, 4, 1, 0] rfl h
set_option maxRecDepth 1000000 in
theorem bX4_owedSurely {L0 P0 : Nat} (hL0 : (L0, P0) ∈ LX) (a1 : Int32) (a2 : Int32) {s : SM} {Q : Int32 → SM → Prop} (h : BI MX4_owedSurely 4 5 [(0, .ref L0), (1, .int a1), (2, .int a2), (3, .int (0 : Int32)), (4, .int (0 : Int32))] s Q) : KI MX4_owedSurely 4 [.ref L0, .int a1, .int a2] s Q := by
  show BI MX4_owedSurely 4 0 [(0, .ref L0), (1, .int a1), (2, .int a2)] s Q
  refine JT_iconst (v := 0) dX4_owedSurely_0 ic_0 ?_
  refine JT_istore_n (lv' := [(3, .int (0 : Int32)), (0, .ref L0), (1, .int a1), (2, .int a2)]) dX4_owedSurely_1 rfl (Nat.le_of_ble_eq_true rfl) rfl ?_
  refine JT_iconst (v := 0) dX4_owedSurely_2 ic_0 ?_
  refine JT_istore (lv' := [(4, .int (0 : Int32)), (3, .int (0 : Int32)), (0, .ref L0), (1, .int a1), (2, .int a2)]) dX4_owedSurely_3 (Nat.le_of_ble_eq_true rfl) rfl ?_
  exact JT_sub [2, 3, 4, 1, 0] rfl h
set_option maxRecDepth 1000000 in
theorem gX4_owedSurely {L0 P0 : Nat} (hL0 : (L0, P0) ∈ LX) : ∀ n : Nat, (∀ (a1 : Int32) (a2 : Int32) (a3 : Int32) (a4 : Int32) (s : SM) (Q : Int32 → SM → Prop), ((qX4_owedSurely n) s L0 P0 a1 a2 a3 a4) → Q ((lX4_owedSurely n) s L0 P0 a1 a2 a3 a4) s → BI MX4_owedSurely 4 5 [(0, .ref L0), (1, .int a1), (2, .int a2), (3, .int a3), (4, .int a4)] s Q) := by
  intro n
  induction n with
  | zero => exact fun _ _ _ _ _ _ hq _ => absurd hq id
  | succ n ih =>
    intro a1 a2 a3 a4 s Q hr h
    replace hr : uX4_owedSurely_5 (qX4_owedSurely n) s L0 P0 a1 a2 a3 a4 := hr
    replace h : Q (tX4_owedSurely_5 (lX4_owedSurely n) s L0 P0 a1 a2 a3 a4) s := h
    unfold uX4_owedSurely_5 at hr
    unfold tX4_owedSurely_5 at h
    refine bX4_owedSurely_5 hL0 a1 a2 a3 a4 ?_
    refine ⟨fun c => ?_, fun c => ?_⟩
    · replace h := qlp c h
      first | exact h | contradiction
    · replace hr := hr c
      replace h := qln c h
      refine ⟨hr.1, ?_⟩
      replace hr := hr.2
      refine ⟨fun c => ?_, fun c => ?_⟩
      · replace hr := hr.1 c
        replace h := qlp c h
        first | exact ih a1 a2 a3 (a4 + 1) _ Q hr h | contradiction
      · replace hr := hr.2 c
        replace h := qln c h
        refine ⟨hr.1, ?_⟩
        replace hr := hr.2
        refine ⟨fun c => ?_, fun c => ?_⟩
        · replace hr := hr.1 c
          replace h := qln c h
          first | exact ih a1 a2 a3 (a4 + 1) _ Q hr h | contradiction
        · replace hr := hr.2 c
          replace h := qlp c h
          refine ⟨hr.1, ?_⟩
          replace hr := hr.2
          refine ⟨fun c => ?_, fun c => ?_⟩
          · replace hr := hr.1 c
            replace h := qlp c h
            first | exact ih a1 a2 a3 (a4 + 1) _ Q hr h | contradiction
          · replace hr := hr.2 c
            replace h := qln c h
            refine ⟨hr.1, ?_⟩
            replace hr := hr.2
            first | exact ih a1 a2 (a3 + (vX4_valueOf s L0 P0 a4)) (a4 + 1) _ Q hr h | contradiction
set_option maxRecDepth 1000000 in
theorem pX4_owedSurely {L0 P0 : Nat} (hL0 : (L0, P0) ∈ LX) (a1 : Int32) (a2 : Int32) {s : SM} {Q : Int32 → SM → Prop} (hr : rX4_owedSurely s L0 P0 a1 a2) (h : Q (vX4_owedSurely s L0 P0 a1 a2) s) : KI MX4_owedSurely 4 [.ref L0, .int a1, .int a2] s Q := by
  replace h : Q (fX4_owedSurely s L0 P0 a1 a2) s := h
  unfold rX4_owedSurely at hr
  unfold fX4_owedSurely at h
  refine bX4_owedSurely hL0 a1 a2 ?_
  first | exact (gX4_owedSurely hL0 FU) a1 a2 (0 : Int32) (0 : Int32) _ Q hr h | contradiction
set_option maxRecDepth 1000000 in
theorem bX4_tryWrite {L0 P0 : Nat} (hL0 : (L0, P0) ∈ LX) (a1 : Int32) (a2 : Int32) (a3 : Int32) (a4 : Int32) {s : SM} {Q : Int32 → SM → Prop} (h : rX4_wrongToWrite s L0 P0 a1 a2 a4 ∧ (((vX4_wrongToWrite s L0 P0 a1 a2 a4) = 0 → vp_in a4 6 ∧ rX4_bearerFor (mX4_wrongToWrite s L0 P0 a1 a2 a4) L0 P0 a1 (gI (mX4_wrongToWrite s L0 P0 a1 a2 a4) (P0 + 5) (a4).toNatClampNeg) ∧ vp_in a4 6 ∧ rX4_debtBearerFor (mX4_wrongToWrite s L0 P0 a1 a2 a4) L0 P0 a2 (gI (mX4_wrongToWrite s L0 P0 a1 a2 a4) (P0 + 5) (a4).toNatClampNeg) (vX4_bearerFor (mX4_wrongToWrite s L0 P0 a1 a2 a4) L0 P0 a1 (gI (mX4_wrongToWrite s L0 P0 a1 a2 a4) (P0 + 5) (a4).toNatClampNeg)) ∧ (∀ s3, s3 = (mX4_debtBearerFor (mX4_wrongToWrite s L0 P0 a1 a2 a4) L0 P0 a2 (gI (mX4_wrongToWrite s L0 P0 a1 a2 a4) (P0 + 5) (a4).toNatClampNeg) (vX4_bearerFor (mX4_wrongToWrite s L0 P0 a1 a2 a4) L0 P0 a1 (gI (mX4_wrongToWrite s L0 P0 a1 a2 a4) (P0 + 5) (a4).toNatClampNeg))) → vp_in (vX4_bearerFor (mX4_wrongToWrite s L0 P0 a1 a2 a4) L0 P0 a1 (gI (mX4_wrongToWrite s L0 P0 a1 a2 a4) (P0 + 5) (a4).toNatClampNeg)) 9 ∧ vp_in a4 6 ∧ vp_in (vX4_bearerFor (mX4_wrongToWrite s L0 P0 a1 a2 a4) L0 P0 a1 (gI (mX4_wrongToWrite s L0 P0 a1 a2 a4) (P0 + 5) (a4).toNatClampNeg)) 9 ∧ (∀ s7, s7 = (pI s3 (L0 + 7) ((vX4_bearerFor (mX4_wrongToWrite s L0 P0 a1 a2 a4) L0 P0 a1 (gI (mX4_wrongToWrite s L0 P0 a1 a2 a4) (P0 + 5) (a4).toNatClampNeg))).toNatClampNeg ((gI s3 (L0 + 7) ((vX4_bearerFor (mX4_wrongToWrite s L0 P0 a1 a2 a4) L0 P0 a1 (gI (mX4_wrongToWrite s L0 P0 a1 a2 a4) (P0 + 5) (a4).toNatClampNeg))).toNatClampNeg) - (gI s3 (P0 + 5) (a4).toNatClampNeg))) → vp_in (vX4_debtBearerFor (mX4_wrongToWrite s L0 P0 a1 a2 a4) L0 P0 a2 (gI (mX4_wrongToWrite s L0 P0 a1 a2 a4) (P0 + 5) (a4).toNatClampNeg) (vX4_bearerFor (mX4_wrongToWrite s L0 P0 a1 a2 a4) L0 P0 a1 (gI (mX4_wrongToWrite s L0 P0 a1 a2 a4) (P0 + 5) (a4).toNatClampNeg))) 9 ∧ vp_in a4 6 ∧ vp_in (vX4_debtBearerFor (mX4_wrongToWrite s L0 P0 a1 a2 a4) L0 P0 a2 (gI (mX4_wrongToWrite s L0 P0 a1 a2 a4) (P0 + 5) (a4).toNatClampNeg) (vX4_bearerFor (mX4_wrongToWrite s L0 P0 a1 a2 a4) L0 P0 a1 (gI (mX4_wrongToWrite s L0 P0 a1 a2 a4) (P0 + 5) (a4).toNatClampNeg))) 9 ∧ (∀ s11, s11 = (pI s7 (L0 + 7) ((vX4_debtBearerFor (mX4_wrongToWrite s L0 P0 a1 a2 a4) L0 P0 a2 (gI (mX4_wrongToWrite s L0 P0 a1 a2 a4) (P0 + 5) (a4).toNatClampNeg) (vX4_bearerFor (mX4_wrongToWrite s L0 P0 a1 a2 a4) L0 P0 a1 (gI (mX4_wrongToWrite s L0 P0 a1 a2 a4) (P0 + 5) (a4).toNatClampNeg)))).toNatClampNeg ((gI s7 (L0 + 7) ((vX4_debtBearerFor (mX4_wrongToWrite s L0 P0 a1 a2 a4) L0 P0 a2 (gI (mX4_wrongToWrite s L0 P0 a1 a2 a4) (P0 + 5) (a4).toNatClampNeg) (vX4_bearerFor (mX4_wrongToWrite s L0 P0 a1 a2 a4) L0 P0 a1 (gI (mX4_wrongToWrite s L0 P0 a1 a2 a4) (P0 + 5) (a4).toNatClampNeg)))).toNatClampNeg) - (gI s7 (P0 + 5) (a4).toNatClampNeg))) → vp_in (gI s11 L0 9) 60 ∧ vp_in (gI (pI s11 (L0 + 1) ((gI s11 L0 9)).toNatClampNeg a1) L0 9) 60 ∧ (∀ s14, s14 = (pI (pI s11 (L0 + 1) ((gI s11 L0 9)).toNatClampNeg a1) (L0 + 2) ((gI (pI s11 (L0 + 1) ((gI s11 L0 9)).toNatClampNeg a1) L0 9)).toNatClampNeg a2) → vp_in (gI s14 L0 9) 60 ∧ vp_in (gI (pI s14 (L0 + 3) ((gI s14 L0 9)).toNatClampNeg a3) L0 9) 60 ∧ (∀ s17, s17 = (pI (pI s14 (L0 + 3) ((gI s14 L0 9)).toNatClampNeg a3) (L0 + 4) ((gI (pI s14 (L0 + 3) ((gI s14 L0 9)).toNatClampNeg a3) L0 9)).toNatClampNeg a4) → vp_in (gI s17 L0 9) 60 ∧ vp_in (gI (pI s17 (L0 + 5) ((gI s17 L0 9)).toNatClampNeg (gI s17 L0 10)) L0 9) 60 ∧ (∀ s20, s20 = (pI (pI s17 (L0 + 5) ((gI s17 L0 9)).toNatClampNeg (gI s17 L0 10)) (L0 + 6) ((gI (pI s17 (L0 + 5) ((gI s17 L0 9)).toNatClampNeg (gI s17 L0 10)) L0 9)).toNatClampNeg (0 : Int32)) → vp_in (gI s20 L0 9) 60 ∧ (∀ s22, s22 = (pI s20 (L0 + 9) ((gI s20 L0 9)).toNatClampNeg (vX4_bearerFor (mX4_wrongToWrite s L0 P0 a1 a2 a4) L0 P0 a1 (gI (mX4_wrongToWrite s L0 P0 a1 a2 a4) (P0 + 5) (a4).toNatClampNeg))) → vp_in (gI s22 L0 9) 60 ∧ (∀ s24, s24 = (pI s22 (L0 + 10) ((gI s22 L0 9)).toNatClampNeg (vX4_debtBearerFor (mX4_wrongToWrite s L0 P0 a1 a2 a4) L0 P0 a2 (gI (mX4_wrongToWrite s L0 P0 a1 a2 a4) (P0 + 5) (a4).toNatClampNeg) (vX4_bearerFor (mX4_wrongToWrite s L0 P0 a1 a2 a4) L0 P0 a1 (gI (mX4_wrongToWrite s L0 P0 a1 a2 a4) (P0 + 5) (a4).toNatClampNeg)))) → vp_in (gI s24 L0 9) 60 ∧ (∀ s26, s26 = (pI (pI s24 (L0 + 11) ((gI s24 L0 9)).toNatClampNeg (0 : Int32)) L0 9 ((gI (pI s24 (L0 + 11) ((gI s24 L0 9)).toNatClampNeg (0 : Int32)) L0 9) + (1 : Int32))) → Q (0 : Int32) s26)))))))))) ∧ (¬ (vX4_wrongToWrite s L0 P0 a1 a2 a4) = 0 → Q (vX4_wrongToWrite s L0 P0 a1 a2 a4) (mX4_wrongToWrite s L0 P0 a1 a2 a4)))) : KI MX4_tryWrite 4 [.ref L0, .int a1, .int a2, .int a3, .int a4] s Q := by
  show BI MX4_tryWrite 4 0 [(0, .ref L0), (1, .int a1), (2, .int a2), (3, .int a3), (4, .int a4)] s Q
  refine JT_aload_n (q := 0) dX4_tryWrite_0 rfl rfl ?_
  refine JT_iload_n (q := 1) dX4_tryWrite_1 rfl rfl ?_
  refine JT_iload_n (q := 2) dX4_tryWrite_2 rfl rfl ?_
  refine JT_iload (q := 4) dX4_tryWrite_3 rfl ?_
  obtain ⟨o30, h⟩ := h
  refine JS_callVI (M' := MX4_wrongToWrite) (d' := 3) (As := [.int a1, .int a2, .int a4]) (rest := []) (P := (fun zv9 wm9 => (vX4_wrongToWrite s L0 P0 a1 a2 a4) = zv9 ∧ (mX4_wrongToWrite s L0 P0 a1 a2 a4) = wm9)) dX4_tryWrite_5 cvX4_135 okX4_wrongToWrite rfl (Nat.le_of_ble_eq_true rfl) (lxB hL0) (lx2 hL0) (lxN hL0) hci_4 (Nat.le_of_ble_eq_true rfl) (Nat.le_of_ble_eq_true rfl) (pX4_wrongToWrite hL0 (a1) (a2) (a4) o30 ⟨rfl, rfl⟩) (fun zv9 wm9 hq9 => ?_)
  obtain ⟨rfl, rfl⟩ := hq9
  refine JT_istore (lv' := [(5, .int (vX4_wrongToWrite s L0 P0 a1 a2 a4)), (0, .ref L0), (1, .int a1), (2, .int a2), (3, .int a3), (4, .int a4)]) dX4_tryWrite_8 (Nat.le_of_ble_eq_true rfl) rfl ?_
  refine JT_iload (q := 0) dX4_tryWrite_10 rfl ?_
  refine JT_if_eq (tgt := 18) dX4_tryWrite_12 (by decide) (fun hc29 => ?_) (fun hc29 => ?_)
  · have h := h.1 hc29
    refine JT_aload_n (q := 1) dX4_tryWrite_18 rfl rfl ?_
    refine JT_iload_n (q := 2) dX4_tryWrite_19 rfl rfl ?_
    refine JT_aload_n (q := 1) dX4_tryWrite_20 rfl rfl ?_
    refine JS_getR (x := P0) dX4_tryWrite_21 flX4_45 (lxB hL0) (lx2 hL0) (lxN hL0) (Or.inl ⟨_, ct_4_8⟩) (lxR8 hL0) ?_
    refine JS_getR (x := (P0 + 5)) dX4_tryWrite_24 flX4_128 (pxB (lxP hL0)) (px2 (lxP hL0)) (pxN (lxP hL0)) (Or.inr ⟨_, ct_6_4⟩) (pxR4 (lxP hL0)) ?_
    refine JT_iload (q := 5) dX4_tryWrite_27 rfl ?_
    obtain ⟨o1, h⟩ := h
    refine JS_iald dX4_tryWrite_29 (pxB5 (lxP hL0)) (px2k (lxP hL0) _) (pxNk (lxP hL0) (Nat.le_of_ble_eq_true rfl)) o1 ?_
    obtain ⟨o28, h⟩ := h
    refine JS_callVI (M' := MX4_bearerFor) (d' := 1) (As := [.int a1, .int (gI (mX4_wrongToWrite s L0 P0 a1 a2 a4) (P0 + 5) (a4).toNatClampNeg)]) (rest := []) (P := (fun zv9 wm9 => (vX4_bearerFor (mX4_wrongToWrite s L0 P0 a1 a2 a4) L0 P0 a1 (gI (mX4_wrongToWrite s L0 P0 a1 a2 a4) (P0 + 5) (a4).toNatClampNeg)) = zv9 ∧ (mX4_wrongToWrite s L0 P0 a1 a2 a4) = wm9)) dX4_tryWrite_30 cvX4_125 okX4_bearerFor rfl (Nat.le_of_ble_eq_true rfl) (lxB hL0) (lx2 hL0) (lxN hL0) hci_4 (Nat.le_of_ble_eq_true rfl) (Nat.le_of_ble_eq_true rfl) (pX4_bearerFor hL0 (a1) ((gI (mX4_wrongToWrite s L0 P0 a1 a2 a4) (P0 + 5) (a4).toNatClampNeg)) o28 ⟨rfl, rfl⟩) (fun zv9 wm9 hq9 => ?_)
    obtain ⟨rfl, rfl⟩ := hq9
    refine JT_istore (lv' := [(6, .int (vX4_bearerFor (mX4_wrongToWrite s L0 P0 a1 a2 a4) L0 P0 a1 (gI (mX4_wrongToWrite s L0 P0 a1 a2 a4) (P0 + 5) (a4).toNatClampNeg))), (5, .int (vX4_wrongToWrite s L0 P0 a1 a2 a4)), (0, .ref L0), (1, .int a1), (2, .int a2), (3, .int a3), (4, .int a4)]) dX4_tryWrite_33 (Nat.le_of_ble_eq_true rfl) rfl ?_
    refine JT_aload_n (q := 2) dX4_tryWrite_35 rfl rfl ?_
    refine JT_iload_n (q := 4) dX4_tryWrite_36 rfl rfl ?_
    refine JT_aload_n (q := 2) dX4_tryWrite_37 rfl rfl ?_
    refine JS_getR (x := P0) dX4_tryWrite_38 flX4_45 (lxB hL0) (lx2 hL0) (lxN hL0) (Or.inl ⟨_, ct_4_8⟩) (lxR8 hL0) ?_
    refine JS_getR (x := (P0 + 5)) dX4_tryWrite_41 flX4_128 (pxB (lxP hL0)) (px2 (lxP hL0)) (pxN (lxP hL0)) (Or.inr ⟨_, ct_6_4⟩) (pxR4 (lxP hL0)) ?_
    refine JT_iload (q := 6) dX4_tryWrite_44 rfl ?_
    obtain ⟨o2, h⟩ := h
    refine JS_iald dX4_tryWrite_46 (pxB5 (lxP hL0)) (px2k (lxP hL0) _) (pxNk (lxP hL0) (Nat.le_of_ble_eq_true rfl)) o2 ?_
    refine JT_iload (q := 0) dX4_tryWrite_47 rfl ?_
    obtain ⟨o27, h⟩ := h
    refine JS_callVI (M' := MX4_debtBearerFor) (d' := 2) (As := [.int a2, .int (gI (mX4_wrongToWrite s L0 P0 a1 a2 a4) (P0 + 5) (a4).toNatClampNeg), .int (vX4_bearerFor (mX4_wrongToWrite s L0 P0 a1 a2 a4) L0 P0 a1 (gI (mX4_wrongToWrite s L0 P0 a1 a2 a4) (P0 + 5) (a4).toNatClampNeg))]) (rest := []) (P := (fun zv9 wm9 => (vX4_debtBearerFor (mX4_wrongToWrite s L0 P0 a1 a2 a4) L0 P0 a2 (gI (mX4_wrongToWrite s L0 P0 a1 a2 a4) (P0 + 5) (a4).toNatClampNeg) (vX4_bearerFor (mX4_wrongToWrite s L0 P0 a1 a2 a4) L0 P0 a1 (gI (mX4_wrongToWrite s L0 P0 a1 a2 a4) (P0 + 5) (a4).toNatClampNeg))) = zv9 ∧ (mX4_debtBearerFor (mX4_wrongToWrite s L0 P0 a1 a2 a4) L0 P0 a2 (gI (mX4_wrongToWrite s L0 P0 a1 a2 a4) (P0 + 5) (a4).toNatClampNeg) (vX4_bearerFor (mX4_wrongToWrite s L0 P0 a1 a2 a4) L0 P0 a1 (gI (mX4_wrongToWrite s L0 P0 a1 a2 a4) (P0 + 5) (a4).toNatClampNeg))) = wm9)) dX4_tryWrite_49 cvX4_131 okX4_debtBearerFor rfl (Nat.le_of_ble_eq_true rfl) (lxB hL0) (lx2 hL0) (lxN hL0) hci_4 (Nat.le_of_ble_eq_true rfl) (Nat.le_of_ble_eq_true rfl) (pX4_debtBearerFor hL0 (a2) ((gI (mX4_wrongToWrite s L0 P0 a1 a2 a4) (P0 + 5) (a4).toNatClampNeg)) ((vX4_bearerFor (mX4_wrongToWrite s L0 P0 a1 a2 a4) L0 P0 a1 (gI (mX4_wrongToWrite s L0 P0 a1 a2 a4) (P0 + 5) (a4).toNatClampNeg))) o27 ⟨rfl, rfl⟩) (fun zv9 wm9 hq9 => ?_)
    obtain ⟨rfl, rfl⟩ := hq9
    obtain ⟨s3, hs3⟩ : ∃ z, z = (mX4_debtBearerFor (mX4_wrongToWrite s L0 P0 a1 a2 a4) L0 P0 a2 (gI (mX4_wrongToWrite s L0 P0 a1 a2 a4) (P0 + 5) (a4).toNatClampNeg) (vX4_bearerFor (mX4_wrongToWrite s L0 P0 a1 a2 a4) L0 P0 a1 (gI (mX4_wrongToWrite s L0 P0 a1 a2 a4) (P0 + 5) (a4).toNatClampNeg))) := ⟨_, rfl⟩
    replace h := h s3 hs3
    rw [← hs3]
    refine JT_istore (lv' := [(7, .int (vX4_debtBearerFor (mX4_wrongToWrite s L0 P0 a1 a2 a4) L0 P0 a2 (gI (mX4_wrongToWrite s L0 P0 a1 a2 a4) (P0 + 5) (a4).toNatClampNeg) (vX4_bearerFor (mX4_wrongToWrite s L0 P0 a1 a2 a4) L0 P0 a1 (gI (mX4_wrongToWrite s L0 P0 a1 a2 a4) (P0 + 5) (a4).toNatClampNeg)))), (6, .int (vX4_bearerFor (mX4_wrongToWrite s L0 P0 a1 a2 a4) L0 P0 a1 (gI (mX4_wrongToWrite s L0 P0 a1 a2 a4) (P0 + 5) (a4).toNatClampNeg))), (5, .int (vX4_wrongToWrite s L0 P0 a1 a2 a4)), (0, .ref L0), (1, .int a1), (2, .int a2), (3, .int a3), (4, .int a4)]) dX4_tryWrite_52 (Nat.le_of_ble_eq_true rfl) rfl ?_
    refine JT_aload_n (q := 3) dX4_tryWrite_54 rfl rfl ?_
    refine JS_getR (x := (L0 + 7)) dX4_tryWrite_55 flX4_30 (lxB hL0) (lx2 hL0) (lxN hL0) (Or.inr ⟨_, ct_4_6⟩) (lxR6 hL0) ?_
    refine JT_iload (q := 1) dX4_tryWrite_58 rfl ?_
    refine JT_dup2 dX4_tryWrite_60 rfl rfl ?_
    obtain ⟨o4, h⟩ := h
    refine JS_iald dX4_tryWrite_61 (lxB7 hL0) (lx2k hL0 _) (lxNk hL0 (Nat.le_of_ble_eq_true rfl)) o4 ?_
    refine JT_aload_n (q := 3) dX4_tryWrite_62 rfl rfl ?_
    refine JS_getR (x := P0) dX4_tryWrite_63 flX4_45 (lxB hL0) (lx2 hL0) (lxN hL0) (Or.inl ⟨_, ct_4_8⟩) (lxR8 hL0) ?_
    refine JS_getR (x := (P0 + 5)) dX4_tryWrite_66 flX4_128 (pxB (lxP hL0)) (px2 (lxP hL0)) (pxN (lxP hL0)) (Or.inr ⟨_, ct_6_4⟩) (pxR4 (lxP hL0)) ?_
    refine JT_iload (q := 7) dX4_tryWrite_69 rfl ?_
    obtain ⟨o5, h⟩ := h
    refine JS_iald dX4_tryWrite_71 (pxB5 (lxP hL0)) (px2k (lxP hL0) _) (pxNk (lxP hL0) (Nat.le_of_ble_eq_true rfl)) o5 ?_
    refine JT_isub dX4_tryWrite_72 ?_
    obtain ⟨o6, h⟩ := h
    refine JS_iast dX4_tryWrite_73 (lxB7 hL0) (lx2k hL0 _) (lxNk hL0 (Nat.le_of_ble_eq_true rfl)) o6 ?_
    obtain ⟨s7, hs7⟩ : ∃ z, z = (pI s3 (L0 + 7) ((vX4_bearerFor (mX4_wrongToWrite s L0 P0 a1 a2 a4) L0 P0 a1 (gI (mX4_wrongToWrite s L0 P0 a1 a2 a4) (P0 + 5) (a4).toNatClampNeg))).toNatClampNeg ((gI s3 (L0 + 7) ((vX4_bearerFor (mX4_wrongToWrite s L0 P0 a1 a2 a4) L0 P0 a1 (gI (mX4_wrongToWrite s L0 P0 a1 a2 a4) (P0 + 5) (a4).toNatClampNeg))).toNatClampNeg) - (gI s3 (P0 + 5) (a4).toNatClampNeg))) := ⟨_, rfl⟩
    replace h := h s7 hs7
    rw [← hs7]
    refine JT_aload_n (q := 3) dX4_tryWrite_74 rfl rfl ?_
    refine JS_getR (x := (L0 + 7)) dX4_tryWrite_75 flX4_30 (lxB hL0) (lx2 hL0) (lxN hL0) (Or.inr ⟨_, ct_4_6⟩) (lxR6 hL0) ?_
    refine JT_iload (q := 0) dX4_tryWrite_78 rfl ?_
    refine JT_dup2 dX4_tryWrite_80 rfl rfl ?_
    obtain ⟨o8, h⟩ := h
    refine JS_iald dX4_tryWrite_81 (lxB7 hL0) (lx2k hL0 _) (lxNk hL0 (Nat.le_of_ble_eq_true rfl)) o8 ?_
    refine JT_aload_n (q := 3) dX4_tryWrite_82 rfl rfl ?_
    refine JS_getR (x := P0) dX4_tryWrite_83 flX4_45 (lxB hL0) (lx2 hL0) (lxN hL0) (Or.inl ⟨_, ct_4_8⟩) (lxR8 hL0) ?_
    refine JS_getR (x := (P0 + 5)) dX4_tryWrite_86 flX4_128 (pxB (lxP hL0)) (px2 (lxP hL0)) (pxN (lxP hL0)) (Or.inr ⟨_, ct_6_4⟩) (pxR4 (lxP hL0)) ?_
    refine JT_iload (q := 7) dX4_tryWrite_89 rfl ?_
    obtain ⟨o9, h⟩ := h
    refine JS_iald dX4_tryWrite_91 (pxB5 (lxP hL0)) (px2k (lxP hL0) _) (pxNk (lxP hL0) (Nat.le_of_ble_eq_true rfl)) o9 ?_
    refine JT_isub dX4_tryWrite_92 ?_
    obtain ⟨o10, h⟩ := h
    refine JS_iast dX4_tryWrite_93 (lxB7 hL0) (lx2k hL0 _) (lxNk hL0 (Nat.le_of_ble_eq_true rfl)) o10 ?_
    obtain ⟨s11, hs11⟩ : ∃ z, z = (pI s7 (L0 + 7) ((vX4_debtBearerFor (mX4_wrongToWrite s L0 P0 a1 a2 a4) L0 P0 a2 (gI (mX4_wrongToWrite s L0 P0 a1 a2 a4) (P0 + 5) (a4).toNatClampNeg) (vX4_bearerFor (mX4_wrongToWrite s L0 P0 a1 a2 a4) L0 P0 a1 (gI (mX4_wrongToWrite s L0 P0 a1 a2 a4) (P0 + 5) (a4).toNatClampNeg)))).toNatClampNeg ((gI s7 (L0 + 7) ((vX4_debtBearerFor (mX4_wrongToWrite s L0 P0 a1 a2 a4) L0 P0 a2 (gI (mX4_wrongToWrite s L0 P0 a1 a2 a4) (P0 + 5) (a4).toNatClampNeg) (vX4_bearerFor (mX4_wrongToWrite s L0 P0 a1 a2 a4) L0 P0 a1 (gI (mX4_wrongToWrite s L0 P0 a1 a2 a4) (P0 + 5) (a4).toNatClampNeg)))).toNatClampNeg) - (gI s7 (P0 + 5) (a4).toNatClampNeg))) := ⟨_, rfl⟩
    replace h := h s11 hs11
    rw [← hs11]
    refine JT_aload_n (q := 3) dX4_tryWrite_94 rfl rfl ?_
    refine JS_getR (x := (L0 + 1)) dX4_tryWrite_95 flX4_9 (lxB hL0) (lx2 hL0) (lxN hL0) (Or.inr ⟨_, ct_4_0⟩) (lxR0 hL0) ?_
    refine JT_aload_n (q := 3) dX4_tryWrite_98 rfl rfl ?_
    refine JS_getI dX4_tryWrite_99 flX4_49 (lxB hL0) (lx2 hL0) (lxN hL0) (Or.inl ct_4_9) ?_
    refine JT_iload_n (q := 4) dX4_tryWrite_102 rfl rfl ?_
    obtain ⟨o12, h⟩ := h
    refine JS_iast dX4_tryWrite_103 (lxB1 hL0) (lx2k hL0 _) (lxNk hL0 (Nat.le_of_ble_eq_true rfl)) o12 ?_
    refine JT_aload_n (q := 3) dX4_tryWrite_104 rfl rfl ?_
    refine JS_getR (x := (L0 + 2)) dX4_tryWrite_105 flX4_15 (lxB hL0) (lx2 hL0) (lxN hL0) (Or.inr ⟨_, ct_4_1⟩) (lxR1 hL0) ?_
    refine JT_aload_n (q := 3) dX4_tryWrite_108 rfl rfl ?_
    refine JS_getI dX4_tryWrite_109 flX4_49 (lxB hL0) (lx2 hL0) (lxN hL0) (Or.inl ct_4_9) ?_
    refine JT_iload_n (q := 5) dX4_tryWrite_112 rfl rfl ?_
    obtain ⟨o13, h⟩ := h
    refine JS_iast dX4_tryWrite_113 (lxB2 hL0) (lx2k hL0 _) (lxNk hL0 (Nat.le_of_ble_eq_true rfl)) o13 ?_
    obtain ⟨s14, hs14⟩ : ∃ z, z = (pI (pI s11 (L0 + 1) ((gI s11 L0 9)).toNatClampNeg a1) (L0 + 2) ((gI (pI s11 (L0 + 1) ((gI s11 L0 9)).toNatClampNeg a1) L0 9)).toNatClampNeg a2) := ⟨_, rfl⟩
    replace h := h s14 hs14
    rw [← hs14]
    refine JT_aload_n (q := 3) dX4_tryWrite_114 rfl rfl ?_
    refine JS_getR (x := (L0 + 3)) dX4_tryWrite_115 flX4_18 (lxB hL0) (lx2 hL0) (lxN hL0) (Or.inr ⟨_, ct_4_2⟩) (lxR2 hL0) ?_
    refine JT_aload_n (q := 3) dX4_tryWrite_118 rfl rfl ?_
    refine JS_getI dX4_tryWrite_119 flX4_49 (lxB hL0) (lx2 hL0) (lxN hL0) (Or.inl ct_4_9) ?_
    refine JT_iload_n (q := 6) dX4_tryWrite_122 rfl rfl ?_
    obtain ⟨o15, h⟩ := h
    refine JS_iast dX4_tryWrite_123 (lxB3 hL0) (lx2k hL0 _) (lxNk hL0 (Nat.le_of_ble_eq_true rfl)) o15 ?_
    refine JT_aload_n (q := 3) dX4_tryWrite_124 rfl rfl ?_
    refine JS_getR (x := (L0 + 4)) dX4_tryWrite_125 flX4_21 (lxB hL0) (lx2 hL0) (lxN hL0) (Or.inr ⟨_, ct_4_3⟩) (lxR3 hL0) ?_
    refine JT_aload_n (q := 3) dX4_tryWrite_128 rfl rfl ?_
    refine JS_getI dX4_tryWrite_129 flX4_49 (lxB hL0) (lx2 hL0) (lxN hL0) (Or.inl ct_4_9) ?_
    refine JT_iload (q := 7) dX4_tryWrite_132 rfl ?_
    obtain ⟨o16, h⟩ := h
    refine JS_iast dX4_tryWrite_134 (lxB4 hL0) (lx2k hL0 _) (lxNk hL0 (Nat.le_of_ble_eq_true rfl)) o16 ?_
    obtain ⟨s17, hs17⟩ : ∃ z, z = (pI (pI s14 (L0 + 3) ((gI s14 L0 9)).toNatClampNeg a3) (L0 + 4) ((gI (pI s14 (L0 + 3) ((gI s14 L0 9)).toNatClampNeg a3) L0 9)).toNatClampNeg a4) := ⟨_, rfl⟩
    replace h := h s17 hs17
    rw [← hs17]
    refine JT_aload_n (q := 3) dX4_tryWrite_135 rfl rfl ?_
    refine JS_getR (x := (L0 + 5)) dX4_tryWrite_136 flX4_24 (lxB hL0) (lx2 hL0) (lxN hL0) (Or.inr ⟨_, ct_4_4⟩) (lxR4 hL0) ?_
    refine JT_aload_n (q := 3) dX4_tryWrite_139 rfl rfl ?_
    refine JS_getI dX4_tryWrite_140 flX4_49 (lxB hL0) (lx2 hL0) (lxN hL0) (Or.inl ct_4_9) ?_
    refine JT_aload_n (q := 3) dX4_tryWrite_143 rfl rfl ?_
    refine JS_getI dX4_tryWrite_144 flX4_53 (lxB hL0) (lx2 hL0) (lxN hL0) (Or.inl ct_4_10) ?_
    obtain ⟨o18, h⟩ := h
    refine JS_iast dX4_tryWrite_147 (lxB5 hL0) (lx2k hL0 _) (lxNk hL0 (Nat.le_of_ble_eq_true rfl)) o18 ?_
    refine JT_aload_n (q := 3) dX4_tryWrite_148 rfl rfl ?_
    refine JS_getR (x := (L0 + 6)) dX4_tryWrite_149 flX4_27 (lxB hL0) (lx2 hL0) (lxN hL0) (Or.inr ⟨_, ct_4_5⟩) (lxR5 hL0) ?_
    refine JT_aload_n (q := 3) dX4_tryWrite_152 rfl rfl ?_
    refine JS_getI dX4_tryWrite_153 flX4_49 (lxB hL0) (lx2 hL0) (lxN hL0) (Or.inl ct_4_9) ?_
    refine JT_iconst (v := 0) dX4_tryWrite_156 ic_0 ?_
    obtain ⟨o19, h⟩ := h
    refine JS_iast dX4_tryWrite_157 (lxB6 hL0) (lx2k hL0 _) (lxNk hL0 (Nat.le_of_ble_eq_true rfl)) o19 ?_
    obtain ⟨s20, hs20⟩ : ∃ z, z = (pI (pI s17 (L0 + 5) ((gI s17 L0 9)).toNatClampNeg (gI s17 L0 10)) (L0 + 6) ((gI (pI s17 (L0 + 5) ((gI s17 L0 9)).toNatClampNeg (gI s17 L0 10)) L0 9)).toNatClampNeg (0 : Int32)) := ⟨_, rfl⟩
    replace h := h s20 hs20
    rw [← hs20]
    refine JT_aload_n (q := 3) dX4_tryWrite_158 rfl rfl ?_
    refine JS_getR (x := (L0 + 9)) dX4_tryWrite_159 flX4_36 (lxB hL0) (lx2 hL0) (lxN hL0) (Or.inr ⟨_, ct_4_11⟩) (lxR11 hL0) ?_
    refine JT_aload_n (q := 3) dX4_tryWrite_162 rfl rfl ?_
    refine JS_getI dX4_tryWrite_163 flX4_49 (lxB hL0) (lx2 hL0) (lxN hL0) (Or.inl ct_4_9) ?_
    refine JT_iload (q := 1) dX4_tryWrite_166 rfl ?_
    obtain ⟨o21, h⟩ := h
    refine JS_iast dX4_tryWrite_168 (lxB9 hL0) (lx2k hL0 _) (lxNk hL0 (Nat.le_of_ble_eq_true rfl)) o21 ?_
    obtain ⟨s22, hs22⟩ : ∃ z, z = (pI s20 (L0 + 9) ((gI s20 L0 9)).toNatClampNeg (vX4_bearerFor (mX4_wrongToWrite s L0 P0 a1 a2 a4) L0 P0 a1 (gI (mX4_wrongToWrite s L0 P0 a1 a2 a4) (P0 + 5) (a4).toNatClampNeg))) := ⟨_, rfl⟩
    replace h := h s22 hs22
    rw [← hs22]
    refine JT_aload_n (q := 3) dX4_tryWrite_169 rfl rfl ?_
    refine JS_getR (x := (L0 + 10)) dX4_tryWrite_170 flX4_39 (lxB hL0) (lx2 hL0) (lxN hL0) (Or.inr ⟨_, ct_4_12⟩) (lxR12 hL0) ?_
    refine JT_aload_n (q := 3) dX4_tryWrite_173 rfl rfl ?_
    refine JS_getI dX4_tryWrite_174 flX4_49 (lxB hL0) (lx2 hL0) (lxN hL0) (Or.inl ct_4_9) ?_
    refine JT_iload (q := 0) dX4_tryWrite_177 rfl ?_
    obtain ⟨o23, h⟩ := h
    refine JS_iast dX4_tryWrite_179 (lxB10 hL0) (lx2k hL0 _) (lxNk hL0 (Nat.le_of_ble_eq_true rfl)) o23 ?_
    obtain ⟨s24, hs24⟩ : ∃ z, z = (pI s22 (L0 + 10) ((gI s22 L0 9)).toNatClampNeg (vX4_debtBearerFor (mX4_wrongToWrite s L0 P0 a1 a2 a4) L0 P0 a2 (gI (mX4_wrongToWrite s L0 P0 a1 a2 a4) (P0 + 5) (a4).toNatClampNeg) (vX4_bearerFor (mX4_wrongToWrite s L0 P0 a1 a2 a4) L0 P0 a1 (gI (mX4_wrongToWrite s L0 P0 a1 a2 a4) (P0 + 5) (a4).toNatClampNeg)))) := ⟨_, rfl⟩
    replace h := h s24 hs24
    rw [← hs24]
    refine JT_aload_n (q := 3) dX4_tryWrite_180 rfl rfl ?_
    refine JS_getR (x := (L0 + 11)) dX4_tryWrite_181 flX4_42 (lxB hL0) (lx2 hL0) (lxN hL0) (Or.inr ⟨_, ct_4_13⟩) (lxR13 hL0) ?_
    refine JT_aload_n (q := 3) dX4_tryWrite_184 rfl rfl ?_
    refine JS_getI dX4_tryWrite_185 flX4_49 (lxB hL0) (lx2 hL0) (lxN hL0) (Or.inl ct_4_9) ?_
    refine JT_iconst (v := 0) dX4_tryWrite_188 ic_0 ?_
    obtain ⟨o25, h⟩ := h
    refine JS_iast dX4_tryWrite_189 (lxB11 hL0) (lx2k hL0 _) (lxNk hL0 (Nat.le_of_ble_eq_true rfl)) o25 ?_
    refine JT_aload_n (q := 3) dX4_tryWrite_190 rfl rfl ?_
    refine JT_dup dX4_tryWrite_191 rfl ?_
    refine JS_getI dX4_tryWrite_192 flX4_49 (lxB hL0) (lx2 hL0) (lxN hL0) (Or.inl ct_4_9) ?_
    refine JT_iconst (v := 1) dX4_tryWrite_195 ic_1 ?_
    refine JT_iadd dX4_tryWrite_196 ?_
    refine JS_putI dX4_tryWrite_197 flX4_49 (lxB hL0) (lx2 hL0) (lxN hL0) ct_4_9 ?_
    obtain ⟨s26, hs26⟩ : ∃ z, z = (pI (pI s24 (L0 + 11) ((gI s24 L0 9)).toNatClampNeg (0 : Int32)) L0 9 ((gI (pI s24 (L0 + 11) ((gI s24 L0 9)).toNatClampNeg (0 : Int32)) L0 9) + (1 : Int32))) := ⟨_, rfl⟩
    replace h := h s26 hs26
    rw [← hs26]
    refine JT_iconst (v := 0) dX4_tryWrite_200 ic_0 ?_
    exact JS_iret dX4_tryWrite_201 rfl rfl h
  · have h := h.2 hc29
    refine JT_iload (q := 0) dX4_tryWrite_15 rfl ?_
    exact JS_iret dX4_tryWrite_17 rfl rfl h
set_option maxRecDepth 1000000 in
theorem pX4_tryWrite {L0 P0 : Nat} (hL0 : (L0, P0) ∈ LX) (a1 : Int32) (a2 : Int32) (a3 : Int32) (a4 : Int32) {s : SM} {Q : Int32 → SM → Prop} (hr : rX4_tryWrite s L0 P0 a1 a2 a3 a4) (h : Q (vX4_tryWrite s L0 P0 a1 a2 a3 a4) (mX4_tryWrite s L0 P0 a1 a2 a3 a4)) : KI MX4_tryWrite 4 [.ref L0, .int a1, .int a2, .int a3, .int a4] s Q := by
  refine bX4_tryWrite hL0 a1 a2 a3 a4 ?_
  unfold rX4_tryWrite at hr
  unfold vX4_tryWrite mX4_tryWrite at h
  refine ⟨hr.1, ?_⟩
  replace hr := hr.2
  refine ⟨fun c => ?_, fun c => ?_⟩
  · replace hr := hr c
    replace h := q2p c h
    refine ⟨hr.1, ?_⟩
    replace hr := hr.2
    refine ⟨hr.1, ?_⟩
    replace hr := hr.2
    refine ⟨hr.1, ?_⟩
    replace hr := hr.2
    refine ⟨hr.1, ?_⟩
    replace hr := hr.2
    intro s3 e9
    replace hr := hr s3 e9
    try rw [← e9] at h
    try dsimp only at h
    refine ⟨hr.1, ?_⟩
    replace hr := hr.2
    refine ⟨hr.1, ?_⟩
    replace hr := hr.2
    refine ⟨hr.1, ?_⟩
    replace hr := hr.2
    intro s7 e9
    replace hr := hr s7 e9
    try rw [← e9] at h
    try dsimp only at h
    refine ⟨hr.1, ?_⟩
    replace hr := hr.2
    refine ⟨hr.1, ?_⟩
    replace hr := hr.2
    refine ⟨hr.1, ?_⟩
    replace hr := hr.2
    intro s11 e9
    replace hr := hr s11 e9
    try rw [← e9] at h
    try dsimp only at h
    refine ⟨hr.1, ?_⟩
    replace hr := hr.2
    refine ⟨hr.1, ?_⟩
    replace hr := hr.2
    intro s14 e9
    replace hr := hr s14 e9
    try rw [← e9] at h
    try dsimp only at h
    refine ⟨hr.1, ?_⟩
    replace hr := hr.2
    refine ⟨hr.1, ?_⟩
    replace hr := hr.2
    intro s17 e9
    replace hr := hr s17 e9
    try rw [← e9] at h
    try dsimp only at h
    refine ⟨hr.1, ?_⟩
    replace hr := hr.2
    refine ⟨hr.1, ?_⟩
    replace hr := hr.2
    intro s20 e9
    replace hr := hr s20 e9
    try rw [← e9] at h
    try dsimp only at h
    refine ⟨hr.1, ?_⟩
    replace hr := hr.2
    intro s22 e9
    replace hr := hr s22 e9
    try rw [← e9] at h
    try dsimp only at h
    refine ⟨hr.1, ?_⟩
    replace hr := hr.2
    intro s24 e9
    replace hr := hr s24 e9
    try rw [← e9] at h
    try dsimp only at h
    refine ⟨hr, ?_⟩
    intro s26 e9
    try rw [← e9] at h
    try dsimp only at h
    first | exact h | contradiction
  · replace h := q2n c h
    first | exact h | contradiction
set_option maxRecDepth 1000000 in
theorem bX6_readBody_114 {p0 : Nat} (hp0 : p0 ∈ PX) {s : SM} {Q : Int32 → SM → Prop} (h : Q (vX9_isStop (pI s p0 6 ((gI s p0 6) + (1 : Int32))) ) (mX9_isStop (pI s p0 6 ((gI s p0 6) + (1 : Int32))) )) : BI MX6_readBody 4 114 [(0, .ref p0), (1, .ref 3)] s Q := by
  refine JT_aload_n (q := 0) dX6_readBody_114 rfl rfl ?_
  refine JT_dup dX6_readBody_115 rfl ?_
  refine JS_getI dX6_readBody_116 flX6_35 (pxB hp0) (px2 hp0) (pxN hp0) (Or.inl ct_6_6) ?_
  refine JT_iconst (v := 1) dX6_readBody_119 ic_1 ?_
  refine JT_iadd dX6_readBody_120 ?_
  refine JS_putI dX6_readBody_121 flX6_35 (pxB hp0) (px2 hp0) (pxN hp0) ct_6_6 ?_
  refine JT_aload_n (q := 1) dX6_readBody_124 rfl rfl ?_
  refine JS_callVI (M' := MX9_isStop) (d' := 1) (As := []) (rest := []) (P := (fun zv9 wm9 => (vX9_isStop (pI s p0 6 ((gI s p0 6) + (1 : Int32))) ) = zv9 ∧ (mX9_isStop (pI s p0 6 ((gI s p0 6) + (1 : Int32))) ) = wm9)) dX6_readBody_125 cvX6_148 okX9_isStop rfl (Nat.le_of_ble_eq_true rfl) BS_3 (Nat.le_of_ble_eq_true rfl) (Nat.le_of_ble_eq_true rfl) hci_9 (Nat.le_of_ble_eq_true rfl) (Nat.le_of_ble_eq_true rfl) (pX9_isStop    ⟨rfl, rfl⟩) (fun zv9 wm9 hq9 => ?_)
  obtain ⟨rfl, rfl⟩ := hq9
  exact JS_iret dX6_readBody_128 rfl (n01 (zX9_isStop (pI s p0 6 ((gI s p0 6) + (1 : Int32))) )) h
set_option maxRecDepth 1000000 in
theorem bX6_readBody {p0 : Nat} (hp0 : p0 ∈ PX) {s : SM} {Q : Int32 → SM → Prop} (h : (((gI s p0 6) < (9 : Int32) → rX9_takeNewName s p0 ∧ ((¬ (vX9_takeNewName s p0) = 0 → vp_in (gI (mX9_takeNewName s p0) p0 6) 9 ∧ rX9_takeNumber (pL (mX9_takeNewName s p0) (p0 + 1) ((gI (mX9_takeNewName s p0) p0 6)).toNatClampNeg (gL (mX9_takeNewName s p0) 3 4)) (1 : Int32) (99 : Int32) ∧ (∀ s2, s2 = (mX9_takeNumber (pL (mX9_takeNewName s p0) (p0 + 1) ((gI (mX9_takeNewName s p0) p0 6)).toNatClampNeg (gL (mX9_takeNewName s p0) 3 4)) (1 : Int32) (99 : Int32)) → ((¬ (vX9_takeNumber (pL (mX9_takeNewName s p0) (p0 + 1) ((gI (mX9_takeNewName s p0) p0 6)).toNatClampNeg (gL (mX9_takeNewName s p0) 3 4)) (1 : Int32) (99 : Int32)) = 0 → vp_in (gI s2 p0 6) 9 ∧ vp_in (gI (pI s2 (p0 + 2) ((gI s2 p0 6)).toNatClampNeg (gI s2 3 5)) p0 6) 9 ∧ (∀ s5, s5 = (pI (pI s2 (p0 + 2) ((gI s2 p0 6)).toNatClampNeg (gI s2 3 5)) (p0 + 3) ((gI (pI s2 (p0 + 2) ((gI s2 p0 6)).toNatClampNeg (gI s2 3 5)) p0 6)).toNatClampNeg (-1 : Int32)) → rX9_nextToken s5  ∧ (((vX9_says (mX9_nextToken s5 ) (7039342 : Int64)) = 0 → BI MX6_readBody 4 114 [(0, .ref p0), (1, .ref 3)] (mX9_nextToken s5 ) Q) ∧ (¬ (vX9_says (mX9_nextToken s5 ) (7039342 : Int64)) = 0 → rX9_takeBody (mX9_nextToken s5 ) p0 ∧ ((¬ (vX9_takeBody (mX9_nextToken s5 ) p0) = 0 → vp_in (gI (mX9_takeBody (mX9_nextToken s5 ) p0) p0 6) 9 ∧ (∀ s7, s7 = (pI (mX9_takeBody (mX9_nextToken s5 ) p0) (p0 + 3) ((gI (mX9_takeBody (mX9_nextToken s5 ) p0) p0 6)).toNatClampNeg (gI (mX9_takeBody (mX9_nextToken s5 ) p0) 3 6)) → rX9_nextToken s7  ∧ BI MX6_readBody 4 114 [(0, .ref p0), (1, .ref 3)] (mX9_nextToken s7 ) Q)) ∧ ((vX9_takeBody (mX9_nextToken s5 ) p0) = 0 → Q (0 : Int32) (mX9_takeBody (mX9_nextToken s5 ) p0))))))) ∧ ((vX9_takeNumber (pL (mX9_takeNewName s p0) (p0 + 1) ((gI (mX9_takeNewName s p0) p0 6)).toNatClampNeg (gL (mX9_takeNewName s p0) 3 4)) (1 : Int32) (99 : Int32)) = 0 → Q (0 : Int32) s2)))) ∧ ((vX9_takeNewName s p0) = 0 → Q (0 : Int32) (mX9_takeNewName s p0)))) ∧ (¬ (gI s p0 6) < (9 : Int32) → Q (vX9_refuse s (4 : Int32)) (mX9_refuse s (4 : Int32))))) : KI MX6_readBody 4 [.ref p0, .ref 3] s Q := by
  show BI MX6_readBody 4 0 [(0, .ref p0), (1, .ref 3)] s Q
  refine JT_aload_n (q := 0) dX6_readBody_0 rfl rfl ?_
  refine JS_getI dX6_readBody_1 flX6_35 (pxB hp0) (px2 hp0) (pxN hp0) (Or.inl ct_6_6) ?_
  refine JT_bipush (v := 9) dX6_readBody_4 bp_9 ?_
  refine JT_icmp_lt (tgt := 15) dX6_readBody_6 (by decide) (fun hc19 => ?_) (fun hc19 => ?_)
  · have h := h.1 hc19
    refine JT_aload_n (q := 1) dX6_readBody_15 rfl rfl ?_
    refine JT_aload_n (q := 0) dX6_readBody_16 rfl rfl ?_
    obtain ⟨o17, h⟩ := h
    refine JS_callVI (M' := MX9_takeNewName) (d' := 3) (As := [.ref p0]) (rest := []) (P := (fun zv9 wm9 => (vX9_takeNewName s p0) = zv9 ∧ (mX9_takeNewName s p0) = wm9)) dX6_readBody_17 cvX6_125 okX9_takeNewName rfl (Nat.le_of_ble_eq_true rfl) BS_3 (Nat.le_of_ble_eq_true rfl) (Nat.le_of_ble_eq_true rfl) hci_9 (Nat.le_of_ble_eq_true rfl) (Nat.le_of_ble_eq_true rfl) (pX9_takeNewName hp0  o17 ⟨rfl, rfl⟩) (fun zv9 wm9 hq9 => ?_)
    obtain ⟨rfl, rfl⟩ := hq9
    refine JT_if_ne (tgt := 25) dX6_readBody_20 (by decide) (fun hc16 => ?_) (fun hc16 => ?_)
    · have h := h.1 hc16
      refine JT_aload_n (q := 0) dX6_readBody_25 rfl rfl ?_
      refine JS_getR (x := (p0 + 1)) dX6_readBody_26 flX6_9 (pxB hp0) (px2 hp0) (pxN hp0) (Or.inr ⟨_, ct_6_0⟩) (pxR0 hp0) ?_
      refine JT_aload_n (q := 0) dX6_readBody_29 rfl rfl ?_
      refine JS_getI dX6_readBody_30 flX6_35 (pxB hp0) (px2 hp0) (pxN hp0) (Or.inl ct_6_6) ?_
      refine JT_aload_n (q := 1) dX6_readBody_33 rfl rfl ?_
      refine JS_getL dX6_readBody_34 flX6_129 BS_3 (Nat.le_of_ble_eq_true rfl) (Nat.le_of_ble_eq_true rfl) ct_9_4 ?_
      obtain ⟨o1, h⟩ := h
      refine JS_last dX6_readBody_37 (pxB1 hp0) (px2k hp0 _) (pxNk hp0 (Nat.le_of_ble_eq_true rfl)) o1 ?_
      refine JT_aload_n (q := 1) dX6_readBody_38 rfl rfl ?_
      refine JT_iconst (v := 1) dX6_readBody_39 ic_1 ?_
      refine JT_bipush (v := 99) dX6_readBody_40 bp_99 ?_
      obtain ⟨o15, h⟩ := h
      refine JS_callVI (M' := MX9_takeNumber) (d' := 3) (As := [.int (1 : Int32), .int (99 : Int32)]) (rest := []) (P := (fun zv9 wm9 => (vX9_takeNumber (pL (mX9_takeNewName s p0) (p0 + 1) ((gI (mX9_takeNewName s p0) p0 6)).toNatClampNeg (gL (mX9_takeNewName s p0) 3 4)) (1 : Int32) (99 : Int32)) = zv9 ∧ (mX9_takeNumber (pL (mX9_takeNewName s p0) (p0 + 1) ((gI (mX9_takeNewName s p0) p0 6)).toNatClampNeg (gL (mX9_takeNewName s p0) 3 4)) (1 : Int32) (99 : Int32)) = wm9)) dX6_readBody_42 cvX6_133 okX9_takeNumber rfl (Nat.le_of_ble_eq_true rfl) BS_3 (Nat.le_of_ble_eq_true rfl) (Nat.le_of_ble_eq_true rfl) hci_9 (Nat.le_of_ble_eq_true rfl) (Nat.le_of_ble_eq_true rfl) (pX9_takeNumber  ((1 : Int32)) ((99 : Int32)) o15 ⟨rfl, rfl⟩) (fun zv9 wm9 hq9 => ?_)
      obtain ⟨rfl, rfl⟩ := hq9
      obtain ⟨s2, hs2⟩ : ∃ z, z = (mX9_takeNumber (pL (mX9_takeNewName s p0) (p0 + 1) ((gI (mX9_takeNewName s p0) p0 6)).toNatClampNeg (gL (mX9_takeNewName s p0) 3 4)) (1 : Int32) (99 : Int32)) := ⟨_, rfl⟩
      replace h := h s2 hs2
      rw [← hs2]
      refine JT_if_ne (tgt := 50) dX6_readBody_45 (by decide) (fun hc14 => ?_) (fun hc14 => ?_)
      · have h := h.1 hc14
        refine JT_aload_n (q := 0) dX6_readBody_50 rfl rfl ?_
        refine JS_getR (x := (p0 + 2)) dX6_readBody_51 flX6_15 (pxB hp0) (px2 hp0) (pxN hp0) (Or.inr ⟨_, ct_6_1⟩) (pxR1 hp0) ?_
        refine JT_aload_n (q := 0) dX6_readBody_54 rfl rfl ?_
        refine JS_getI dX6_readBody_55 flX6_35 (pxB hp0) (px2 hp0) (pxN hp0) (Or.inl ct_6_6) ?_
        refine JT_aload_n (q := 1) dX6_readBody_58 rfl rfl ?_
        refine JS_getI dX6_readBody_59 flX6_137 BS_3 (Nat.le_of_ble_eq_true rfl) (Nat.le_of_ble_eq_true rfl) (Or.inl ct_9_5) ?_
        obtain ⟨o3, h⟩ := h
        refine JS_iast dX6_readBody_62 (pxB2 hp0) (px2k hp0 _) (pxNk hp0 (Nat.le_of_ble_eq_true rfl)) o3 ?_
        refine JT_aload_n (q := 0) dX6_readBody_63 rfl rfl ?_
        refine JS_getR (x := (p0 + 3)) dX6_readBody_64 flX6_19 (pxB hp0) (px2 hp0) (pxN hp0) (Or.inr ⟨_, ct_6_2⟩) (pxR2 hp0) ?_
        refine JT_aload_n (q := 0) dX6_readBody_67 rfl rfl ?_
        refine JS_getI dX6_readBody_68 flX6_35 (pxB hp0) (px2 hp0) (pxN hp0) (Or.inl ct_6_6) ?_
        refine JT_iconst (v := -1) dX6_readBody_71 ic_m1 ?_
        obtain ⟨o4, h⟩ := h
        refine JS_iast dX6_readBody_72 (pxB3 hp0) (px2k hp0 _) (pxNk hp0 (Nat.le_of_ble_eq_true rfl)) o4 ?_
        obtain ⟨s5, hs5⟩ : ∃ z, z = (pI (pI s2 (p0 + 2) ((gI s2 p0 6)).toNatClampNeg (gI s2 3 5)) (p0 + 3) ((gI (pI s2 (p0 + 2) ((gI s2 p0 6)).toNatClampNeg (gI s2 3 5)) p0 6)).toNatClampNeg (-1 : Int32)) := ⟨_, rfl⟩
        replace h := h s5 hs5
        rw [← hs5]
        refine JT_aload_n (q := 1) dX6_readBody_73 rfl rfl ?_
        obtain ⟨o13, h⟩ := h
        refine JS_callVV (M' := MX9_nextToken) (d' := 2) (As := []) (rest := []) (P := (fun wm9 => (mX9_nextToken s5 ) = wm9)) dX6_readBody_74 cvX6_84 okX9_nextToken rfl (Nat.le_of_ble_eq_true rfl) BS_3 (Nat.le_of_ble_eq_true rfl) (Nat.le_of_ble_eq_true rfl) hci_9 (Nat.le_of_ble_eq_true rfl) (Nat.le_of_ble_eq_true rfl) (pX9_nextToken   o13 rfl) (fun wm9 hq9 => ?_)
        subst hq9
        refine JT_aload_n (q := 1) dX6_readBody_77 rfl rfl ?_
        refine JT_ldc2 dX6_readBody_78 kwX6_140 ?_
        refine JS_callVI (M' := MX9_says) (d' := 0) (As := [.long (7039342 : Int64)]) (rest := []) (P := (fun zv9 wm9 => (vX9_says (mX9_nextToken s5 ) (7039342 : Int64)) = zv9 ∧ (mX9_nextToken s5 ) = wm9)) dX6_readBody_81 cvX6_100 okX9_says rfl (Nat.le_of_ble_eq_true rfl) BS_3 (Nat.le_of_ble_eq_true rfl) (Nat.le_of_ble_eq_true rfl) hci_9 (Nat.le_of_ble_eq_true rfl) (Nat.le_of_ble_eq_true rfl) (pX9_says  ((7039342 : Int64))  ⟨rfl, rfl⟩) (fun zv9 wm9 hq9 => ?_)
        obtain ⟨rfl, rfl⟩ := hq9
        refine JT_if_eq (tgt := 114) dX6_readBody_84 (by decide) (fun hc11 => ?_) (fun hc11 => ?_)
        · have h := h.1 hc11
          exact JT_sub [0, 1] rfl h
        · have h := h.2 hc11
          refine JT_aload_n (q := 1) dX6_readBody_87 rfl rfl ?_
          refine JT_aload_n (q := 0) dX6_readBody_88 rfl rfl ?_
          obtain ⟨o10, h⟩ := h
          refine JS_callVI (M' := MX9_takeBody) (d' := 3) (As := [.ref p0]) (rest := []) (P := (fun zv9 wm9 => (vX9_takeBody (mX9_nextToken s5 ) p0) = zv9 ∧ (mX9_takeBody (mX9_nextToken s5 ) p0) = wm9)) dX6_readBody_89 cvX6_142 okX9_takeBody rfl (Nat.le_of_ble_eq_true rfl) BS_3 (Nat.le_of_ble_eq_true rfl) (Nat.le_of_ble_eq_true rfl) hci_9 (Nat.le_of_ble_eq_true rfl) (Nat.le_of_ble_eq_true rfl) (pX9_takeBody hp0  o10 ⟨rfl, rfl⟩) (fun zv9 wm9 hq9 => ?_)
          obtain ⟨rfl, rfl⟩ := hq9
          refine JT_if_ne (tgt := 97) dX6_readBody_92 (by decide) (fun hc9 => ?_) (fun hc9 => ?_)
          · have h := h.1 hc9
            refine JT_aload_n (q := 0) dX6_readBody_97 rfl rfl ?_
            refine JS_getR (x := (p0 + 3)) dX6_readBody_98 flX6_19 (pxB hp0) (px2 hp0) (pxN hp0) (Or.inr ⟨_, ct_6_2⟩) (pxR2 hp0) ?_
            refine JT_aload_n (q := 0) dX6_readBody_101 rfl rfl ?_
            refine JS_getI dX6_readBody_102 flX6_35 (pxB hp0) (px2 hp0) (pxN hp0) (Or.inl ct_6_6) ?_
            refine JT_aload_n (q := 1) dX6_readBody_105 rfl rfl ?_
            refine JS_getI dX6_readBody_106 flX6_145 BS_3 (Nat.le_of_ble_eq_true rfl) (Nat.le_of_ble_eq_true rfl) (Or.inl ct_9_6) ?_
            obtain ⟨o6, h⟩ := h
            refine JS_iast dX6_readBody_109 (pxB3 hp0) (px2k hp0 _) (pxNk hp0 (Nat.le_of_ble_eq_true rfl)) o6 ?_
            obtain ⟨s7, hs7⟩ : ∃ z, z = (pI (mX9_takeBody (mX9_nextToken s5 ) p0) (p0 + 3) ((gI (mX9_takeBody (mX9_nextToken s5 ) p0) p0 6)).toNatClampNeg (gI (mX9_takeBody (mX9_nextToken s5 ) p0) 3 6)) := ⟨_, rfl⟩
            replace h := h s7 hs7
            rw [← hs7]
            refine JT_aload_n (q := 1) dX6_readBody_110 rfl rfl ?_
            obtain ⟨o8, h⟩ := h
            refine JS_callVV (M' := MX9_nextToken) (d' := 2) (As := []) (rest := []) (P := (fun wm9 => (mX9_nextToken s7 ) = wm9)) dX6_readBody_111 cvX6_84 okX9_nextToken rfl (Nat.le_of_ble_eq_true rfl) BS_3 (Nat.le_of_ble_eq_true rfl) (Nat.le_of_ble_eq_true rfl) hci_9 (Nat.le_of_ble_eq_true rfl) (Nat.le_of_ble_eq_true rfl) (pX9_nextToken   o8 rfl) (fun wm9 hq9 => ?_)
            subst hq9
            exact JT_sub [0, 1] rfl h
          · have h := h.2 hc9
            refine JT_iconst (v := 0) dX6_readBody_95 ic_0 ?_
            exact JS_iret dX6_readBody_96 rfl (n01 (Or.inl rfl)) h
      · have h := h.2 hc14
        refine JT_iconst (v := 0) dX6_readBody_48 ic_0 ?_
        exact JS_iret dX6_readBody_49 rfl (n01 (Or.inl rfl)) h
    · have h := h.2 hc16
      refine JT_iconst (v := 0) dX6_readBody_23 ic_0 ?_
      exact JS_iret dX6_readBody_24 rfl (n01 (Or.inl rfl)) h
  · have h := h.2 hc19
    refine JT_aload_n (q := 1) dX6_readBody_9 rfl rfl ?_
    refine JT_iconst (v := 4) dX6_readBody_10 ic_4 ?_
    refine JS_callVI (M' := MX9_refuse) (d' := 0) (As := [.int (4 : Int32)]) (rest := []) (P := (fun zv9 wm9 => (vX9_refuse s (4 : Int32)) = zv9 ∧ (mX9_refuse s (4 : Int32)) = wm9)) dX6_readBody_11 cvX6_122 okX9_refuse rfl (Nat.le_of_ble_eq_true rfl) BS_3 (Nat.le_of_ble_eq_true rfl) (Nat.le_of_ble_eq_true rfl) hci_9 (Nat.le_of_ble_eq_true rfl) (Nat.le_of_ble_eq_true rfl) (pX9_refuse  ((4 : Int32))  ⟨rfl, rfl⟩) (fun zv9 wm9 hq9 => ?_)
    obtain ⟨rfl, rfl⟩ := hq9
    exact JS_iret dX6_readBody_14 rfl (n01 (zX9_refuse s (4 : Int32))) h
set_option maxRecDepth 1000000 in
theorem gX6_readBody {p0 : Nat} (hp0 : p0 ∈ PX) : ∀ n : Nat, (∀  (s : SM) (Q : Int32 → SM → Prop), ((qX6_readBody n) s p0) → Q ((lX6_readBody n) s p0).1 ((lX6_readBody n) s p0).2 → BI MX6_readBody 4 114 [(0, .ref p0), (1, .ref 3)] s Q) := by
  intro n
  induction n with
  | zero => exact fun _ _ hq _ => absurd hq id
  | succ n ih =>
    intro  s Q hr h
    replace hr : uX6_readBody_114 (qX6_readBody n) s p0 := hr
    replace h : Q (tX6_readBody_114 (lX6_readBody n) s p0).1 (tX6_readBody_114 (lX6_readBody n) s p0).2 := h
    unfold uX6_readBody_114 at hr
    unfold tX6_readBody_114 at h
    refine bX6_readBody_114 hp0 ?_
    first | exact h | contradiction
set_option maxRecDepth 1000000 in
theorem pX6_readBody {p0 : Nat} (hp0 : p0 ∈ PX) {s : SM} {Q : Int32 → SM → Prop} (hr : rX6_readBody s p0) (h : Q (vX6_readBody s p0) (mX6_readBody s p0)) : KI MX6_readBody 4 [.ref p0, .ref 3] s Q := by
  replace h : Q (fX6_readBody s p0).1 (fX6_readBody s p0).2 := h
  unfold rX6_readBody at hr
  unfold fX6_readBody at h
  refine bX6_readBody hp0 ?_
  refine ⟨fun c => ?_, fun c => ?_⟩
  · replace hr := hr c
    replace h := q3p c h
    refine ⟨hr.1, ?_⟩
    replace hr := hr.2
    refine ⟨fun c => ?_, fun c => ?_⟩
    · replace hr := hr c
      replace h := q3n c h
      refine ⟨hr.1, ?_⟩
      replace hr := hr.2
      refine ⟨hr.1, ?_⟩
      replace hr := hr.2
      intro s2 e9
      replace hr := hr s2 e9
      try rw [← e9] at h
      try dsimp only at h
      refine ⟨fun c => ?_, fun c => ?_⟩
      · replace hr := hr c
        replace h := q3n c h
        refine ⟨hr.1, ?_⟩
        replace hr := hr.2
        refine ⟨hr.1, ?_⟩
        replace hr := hr.2
        intro s5 e9
        replace hr := hr s5 e9
        try rw [← e9] at h
        try dsimp only at h
        refine ⟨hr.1, ?_⟩
        replace hr := hr.2
        refine ⟨fun c => ?_, fun c => ?_⟩
        · replace hr := hr.1 c
          replace h := q3p c h
          first | exact (gX6_readBody hp0 FU)  _ Q hr h | contradiction
        · replace hr := hr.2 c
          replace h := q3n c h
          refine ⟨hr.1, ?_⟩
          replace hr := hr.2
          refine ⟨fun c => ?_, fun c => ?_⟩
          · replace hr := hr c
            replace h := q3n c h
            refine ⟨hr.1, ?_⟩
            replace hr := hr.2
            intro s7 e9
            replace hr := hr s7 e9
            try rw [← e9] at h
            try dsimp only at h
            refine ⟨hr.1, ?_⟩
            replace hr := hr.2
            first | exact (gX6_readBody hp0 FU)  _ Q hr h | contradiction
          · replace h := q3p c h
            first | exact h | contradiction
      · replace h := q3p c h
        first | exact h | contradiction
    · replace h := q3p c h
      first | exact h | contradiction
  · replace h := q3n c h
    first | exact h | contradiction
set_option maxRecDepth 1000000 in
theorem bX6_readDotRoom {p0 : Nat} (hp0 : p0 ∈ PX) {s : SM} {Q : Int32 → SM → Prop} (h : (((gI s p0 13) = 0 → rX9_takeNumber s (0 : Int32) (9 : Int32) ∧ ((¬ (vX9_takeNumber s (0 : Int32) (9 : Int32)) = 0 → (∀ s1, s1 = (pI (pI (mX9_takeNumber s (0 : Int32) (9 : Int32)) p0 13 (1 : Int32)) p0 9 (gI (pI (mX9_takeNumber s (0 : Int32) (9 : Int32)) p0 13 (1 : Int32)) 3 5)) → rX9_takeStop s1  ∧ Q (vX9_takeStop s1 ) (mX9_takeStop s1 ))) ∧ ((vX9_takeNumber s (0 : Int32) (9 : Int32)) = 0 → Q (0 : Int32) (mX9_takeNumber s (0 : Int32) (9 : Int32))))) ∧ (¬ (gI s p0 13) = 0 → Q (vX9_refuse s (3 : Int32)) (mX9_refuse s (3 : Int32))))) : KI MX6_readDotRoom 4 [.ref p0, .ref 3] s Q := by
  show BI MX6_readDotRoom 4 0 [(0, .ref p0), (1, .ref 3)] s Q
  refine JT_aload_n (q := 0) dX6_readDotRoom_0 rfl rfl ?_
  refine JS_getI dX6_readDotRoom_1 flX6_51 (pxB hp0) (px2 hp0) (pxN hp0) (Or.inr ct_6_13) ?_
  refine JT_if_eq (tgt := 13) dX6_readDotRoom_4 (by decide) (fun hc6 => ?_) (fun hc6 => ?_)
  · have h := h.1 hc6
    refine JT_aload_n (q := 1) dX6_readDotRoom_13 rfl rfl ?_
    refine JT_iconst (v := 0) dX6_readDotRoom_14 ic_0 ?_
    refine JT_bipush (v := 9) dX6_readDotRoom_15 bp_9 ?_
    obtain ⟨o4, h⟩ := h
    refine JS_callVI (M' := MX9_takeNumber) (d' := 3) (As := [.int (0 : Int32), .int (9 : Int32)]) (rest := []) (P := (fun zv9 wm9 => (vX9_takeNumber s (0 : Int32) (9 : Int32)) = zv9 ∧ (mX9_takeNumber s (0 : Int32) (9 : Int32)) = wm9)) dX6_readDotRoom_17 cvX6_133 okX9_takeNumber rfl (Nat.le_of_ble_eq_true rfl) BS_3 (Nat.le_of_ble_eq_true rfl) (Nat.le_of_ble_eq_true rfl) hci_9 (Nat.le_of_ble_eq_true rfl) (Nat.le_of_ble_eq_true rfl) (pX9_takeNumber  ((0 : Int32)) ((9 : Int32)) o4 ⟨rfl, rfl⟩) (fun zv9 wm9 hq9 => ?_)
    obtain ⟨rfl, rfl⟩ := hq9
    refine JT_if_ne (tgt := 25) dX6_readDotRoom_20 (by decide) (fun hc3 => ?_) (fun hc3 => ?_)
    · have h := h.1 hc3
      refine JT_aload_n (q := 0) dX6_readDotRoom_25 rfl rfl ?_
      refine JT_iconst (v := 1) dX6_readDotRoom_26 ic_1 ?_
      refine JS_putZ dX6_readDotRoom_27 flX6_51 (pxB hp0) (px2 hp0) (pxN hp0) ct_6_13 (Or.inr rfl) ?_
      refine JT_aload_n (q := 0) dX6_readDotRoom_30 rfl rfl ?_
      refine JT_aload_n (q := 1) dX6_readDotRoom_31 rfl rfl ?_
      refine JS_getI dX6_readDotRoom_32 flX6_137 BS_3 (Nat.le_of_ble_eq_true rfl) (Nat.le_of_ble_eq_true rfl) (Or.inl ct_9_5) ?_
      refine JS_putI dX6_readDotRoom_35 flX6_41 (pxB hp0) (px2 hp0) (pxN hp0) ct_6_9 ?_
      obtain ⟨s1, hs1⟩ : ∃ z, z = (pI (pI (mX9_takeNumber s (0 : Int32) (9 : Int32)) p0 13 (1 : Int32)) p0 9 (gI (pI (mX9_takeNumber s (0 : Int32) (9 : Int32)) p0 13 (1 : Int32)) 3 5)) := ⟨_, rfl⟩
      replace h := h s1 hs1
      rw [← hs1]
      refine JT_aload_n (q := 1) dX6_readDotRoom_38 rfl rfl ?_
      obtain ⟨o2, h⟩ := h
      refine JS_callVI (M' := MX9_takeStop) (d' := 3) (As := []) (rest := []) (P := (fun zv9 wm9 => (vX9_takeStop s1 ) = zv9 ∧ (mX9_takeStop s1 ) = wm9)) dX6_readDotRoom_39 cvX6_163 okX9_takeStop rfl (Nat.le_of_ble_eq_true rfl) BS_3 (Nat.le_of_ble_eq_true rfl) (Nat.le_of_ble_eq_true rfl) hci_9 (Nat.le_of_ble_eq_true rfl) (Nat.le_of_ble_eq_true rfl) (pX9_takeStop   o2 ⟨rfl, rfl⟩) (fun zv9 wm9 hq9 => ?_)
      obtain ⟨rfl, rfl⟩ := hq9
      exact JS_iret dX6_readDotRoom_42 rfl (n01 (zX9_takeStop s1 )) h
    · have h := h.2 hc3
      refine JT_iconst (v := 0) dX6_readDotRoom_23 ic_0 ?_
      exact JS_iret dX6_readDotRoom_24 rfl (n01 (Or.inl rfl)) h
  · have h := h.2 hc6
    refine JT_aload_n (q := 1) dX6_readDotRoom_7 rfl rfl ?_
    refine JT_iconst (v := 3) dX6_readDotRoom_8 ic_3 ?_
    refine JS_callVI (M' := MX9_refuse) (d' := 0) (As := [.int (3 : Int32)]) (rest := []) (P := (fun zv9 wm9 => (vX9_refuse s (3 : Int32)) = zv9 ∧ (mX9_refuse s (3 : Int32)) = wm9)) dX6_readDotRoom_9 cvX6_122 okX9_refuse rfl (Nat.le_of_ble_eq_true rfl) BS_3 (Nat.le_of_ble_eq_true rfl) (Nat.le_of_ble_eq_true rfl) hci_9 (Nat.le_of_ble_eq_true rfl) (Nat.le_of_ble_eq_true rfl) (pX9_refuse  ((3 : Int32))  ⟨rfl, rfl⟩) (fun zv9 wm9 hq9 => ?_)
    obtain ⟨rfl, rfl⟩ := hq9
    exact JS_iret dX6_readDotRoom_12 rfl (n01 (zX9_refuse s (3 : Int32))) h
set_option maxRecDepth 1000000 in
theorem pX6_readDotRoom {p0 : Nat} (hp0 : p0 ∈ PX) {s : SM} {Q : Int32 → SM → Prop} (hr : rX6_readDotRoom s p0) (h : Q (vX6_readDotRoom s p0) (mX6_readDotRoom s p0)) : KI MX6_readDotRoom 4 [.ref p0, .ref 3] s Q := by
  refine bX6_readDotRoom hp0 ?_
  unfold rX6_readDotRoom at hr
  unfold vX6_readDotRoom mX6_readDotRoom at h
  refine ⟨fun c => ?_, fun c => ?_⟩
  · replace hr := hr c
    replace h := q2p c h
    refine ⟨hr.1, ?_⟩
    replace hr := hr.2
    refine ⟨fun c => ?_, fun c => ?_⟩
    · replace hr := hr c
      replace h := q2n c h
      intro s1 e9
      replace hr := hr s1 e9
      try rw [← e9] at h
      try dsimp only at h
      refine ⟨hr, ?_⟩
      first | exact h | contradiction
    · replace h := q2p c h
      first | exact h | contradiction
  · replace h := q2n c h
    first | exact h | contradiction
set_option maxRecDepth 1000000 in
theorem bX6_readKind_96 {p0 : Nat} (hp0 : p0 ∈ PX) {s : SM} {Q : Int32 → SM → Prop} (h : Q (vX9_isStop (pI s p0 7 ((gI s p0 7) + (1 : Int32))) ) (mX9_isStop (pI s p0 7 ((gI s p0 7) + (1 : Int32))) )) : BI MX6_readKind 4 96 [(0, .ref p0), (1, .ref 3)] s Q := by
  refine JT_aload_n (q := 0) dX6_readKind_96 rfl rfl ?_
  refine JT_dup dX6_readKind_97 rfl ?_
  refine JS_getI dX6_readKind_98 flX6_38 (pxB hp0) (px2 hp0) (pxN hp0) (Or.inl ct_6_7) ?_
  refine JT_iconst (v := 1) dX6_readKind_101 ic_1 ?_
  refine JT_iadd dX6_readKind_102 ?_
  refine JS_putI dX6_readKind_103 flX6_38 (pxB hp0) (px2 hp0) (pxN hp0) ct_6_7 ?_
  refine JT_aload_n (q := 1) dX6_readKind_106 rfl rfl ?_
  refine JS_callVI (M' := MX9_isStop) (d' := 1) (As := []) (rest := []) (P := (fun zv9 wm9 => (vX9_isStop (pI s p0 7 ((gI s p0 7) + (1 : Int32))) ) = zv9 ∧ (mX9_isStop (pI s p0 7 ((gI s p0 7) + (1 : Int32))) ) = wm9)) dX6_readKind_107 cvX6_148 okX9_isStop rfl (Nat.le_of_ble_eq_true rfl) BS_3 (Nat.le_of_ble_eq_true rfl) (Nat.le_of_ble_eq_true rfl) hci_9 (Nat.le_of_ble_eq_true rfl) (Nat.le_of_ble_eq_true rfl) (pX9_isStop    ⟨rfl, rfl⟩) (fun zv9 wm9 hq9 => ?_)
  obtain ⟨rfl, rfl⟩ := hq9
  exact JS_iret dX6_readKind_110 rfl (n01 (zX9_isStop (pI s p0 7 ((gI s p0 7) + (1 : Int32))) )) h
set_option maxRecDepth 1000000 in
theorem bX6_readKind {p0 : Nat} (hp0 : p0 ∈ PX) {s : SM} {Q : Int32 → SM → Prop} (h : (((gI s p0 7) < (6 : Int32) → rX9_takeNewName s p0 ∧ ((¬ (vX9_takeNewName s p0) = 0 → vp_in (gI (mX9_takeNewName s p0) p0 7) 6 ∧ rX9_takeNumber (pL (mX9_takeNewName s p0) (p0 + 4) ((gI (mX9_takeNewName s p0) p0 7)).toNatClampNeg (gL (mX9_takeNewName s p0) 3 4)) (1 : Int32) (9 : Int32) ∧ (∀ s2, s2 = (mX9_takeNumber (pL (mX9_takeNewName s p0) (p0 + 4) ((gI (mX9_takeNewName s p0) p0 7)).toNatClampNeg (gL (mX9_takeNewName s p0) 3 4)) (1 : Int32) (9 : Int32)) → ((¬ (vX9_takeNumber (pL (mX9_takeNewName s p0) (p0 + 4) ((gI (mX9_takeNewName s p0) p0 7)).toNatClampNeg (gL (mX9_takeNewName s p0) 3 4)) (1 : Int32) (9 : Int32)) = 0 → vp_in (gI s2 p0 7) 6 ∧ rX9_nextToken (pI s2 (p0 + 5) ((gI s2 p0 7)).toNatClampNeg (gI s2 3 5))  ∧ vp_in (gI (mX9_nextToken (pI s2 (p0 + 5) ((gI s2 p0 7)).toNatClampNeg (gI s2 3 5)) ) p0 7) 6 ∧ (∀ s5, s5 = (pI (mX9_nextToken (pI s2 (p0 + 5) ((gI s2 p0 7)).toNatClampNeg (gI s2 3 5)) ) (p0 + 6) ((gI (mX9_nextToken (pI s2 (p0 + 5) ((gI s2 p0 7)).toNatClampNeg (gI s2 3 5)) ) p0 7)).toNatClampNeg (vX6_sortTold (mX9_nextToken (pI s2 (p0 + 5) ((gI s2 p0 7)).toNatClampNeg (gI s2 3 5)) ) )) → vp_in (gI s5 p0 7) 6 ∧ (((gI s5 (p0 + 6) ((gI s5 p0 7)).toNatClampNeg) = 0 → BI MX6_readKind 4 96 [(0, .ref p0), (1, .ref 3)] s5 Q) ∧ (¬ (gI s5 (p0 + 6) ((gI s5 p0 7)).toNatClampNeg) = 0 → rX9_nextToken s5  ∧ BI MX6_readKind 4 96 [(0, .ref p0), (1, .ref 3)] (mX9_nextToken s5 ) Q)))) ∧ ((vX9_takeNumber (pL (mX9_takeNewName s p0) (p0 + 4) ((gI (mX9_takeNewName s p0) p0 7)).toNatClampNeg (gL (mX9_takeNewName s p0) 3 4)) (1 : Int32) (9 : Int32)) = 0 → Q (0 : Int32) s2)))) ∧ ((vX9_takeNewName s p0) = 0 → Q (0 : Int32) (mX9_takeNewName s p0)))) ∧ (¬ (gI s p0 7) < (6 : Int32) → Q (vX9_refuse s (4 : Int32)) (mX9_refuse s (4 : Int32))))) : KI MX6_readKind 4 [.ref p0, .ref 3] s Q := by
  show BI MX6_readKind 4 0 [(0, .ref p0), (1, .ref 3)] s Q
  refine JT_aload_n (q := 0) dX6_readKind_0 rfl rfl ?_
  refine JS_getI dX6_readKind_1 flX6_38 (pxB hp0) (px2 hp0) (pxN hp0) (Or.inl ct_6_7) ?_
  refine JT_bipush (v := 6) dX6_readKind_4 bp_6 ?_
  refine JT_icmp_lt (tgt := 15) dX6_readKind_6 (by decide) (fun hc16 => ?_) (fun hc16 => ?_)
  · have h := h.1 hc16
    refine JT_aload_n (q := 1) dX6_readKind_15 rfl rfl ?_
    refine JT_aload_n (q := 0) dX6_readKind_16 rfl rfl ?_
    obtain ⟨o14, h⟩ := h
    refine JS_callVI (M' := MX9_takeNewName) (d' := 3) (As := [.ref p0]) (rest := []) (P := (fun zv9 wm9 => (vX9_takeNewName s p0) = zv9 ∧ (mX9_takeNewName s p0) = wm9)) dX6_readKind_17 cvX6_125 okX9_takeNewName rfl (Nat.le_of_ble_eq_true rfl) BS_3 (Nat.le_of_ble_eq_true rfl) (Nat.le_of_ble_eq_true rfl) hci_9 (Nat.le_of_ble_eq_true rfl) (Nat.le_of_ble_eq_true rfl) (pX9_takeNewName hp0  o14 ⟨rfl, rfl⟩) (fun zv9 wm9 hq9 => ?_)
    obtain ⟨rfl, rfl⟩ := hq9
    refine JT_if_ne (tgt := 25) dX6_readKind_20 (by decide) (fun hc13 => ?_) (fun hc13 => ?_)
    · have h := h.1 hc13
      refine JT_aload_n (q := 0) dX6_readKind_25 rfl rfl ?_
      refine JS_getR (x := (p0 + 4)) dX6_readKind_26 flX6_22 (pxB hp0) (px2 hp0) (pxN hp0) (Or.inr ⟨_, ct_6_3⟩) (pxR3 hp0) ?_
      refine JT_aload_n (q := 0) dX6_readKind_29 rfl rfl ?_
      refine JS_getI dX6_readKind_30 flX6_38 (pxB hp0) (px2 hp0) (pxN hp0) (Or.inl ct_6_7) ?_
      refine JT_aload_n (q := 1) dX6_readKind_33 rfl rfl ?_
      refine JS_getL dX6_readKind_34 flX6_129 BS_3 (Nat.le_of_ble_eq_true rfl) (Nat.le_of_ble_eq_true rfl) ct_9_4 ?_
      obtain ⟨o1, h⟩ := h
      refine JS_last dX6_readKind_37 (pxB4 hp0) (px2k hp0 _) (pxNk hp0 (Nat.le_of_ble_eq_true rfl)) o1 ?_
      refine JT_aload_n (q := 1) dX6_readKind_38 rfl rfl ?_
      refine JT_iconst (v := 1) dX6_readKind_39 ic_1 ?_
      refine JT_bipush (v := 9) dX6_readKind_40 bp_9 ?_
      obtain ⟨o12, h⟩ := h
      refine JS_callVI (M' := MX9_takeNumber) (d' := 3) (As := [.int (1 : Int32), .int (9 : Int32)]) (rest := []) (P := (fun zv9 wm9 => (vX9_takeNumber (pL (mX9_takeNewName s p0) (p0 + 4) ((gI (mX9_takeNewName s p0) p0 7)).toNatClampNeg (gL (mX9_takeNewName s p0) 3 4)) (1 : Int32) (9 : Int32)) = zv9 ∧ (mX9_takeNumber (pL (mX9_takeNewName s p0) (p0 + 4) ((gI (mX9_takeNewName s p0) p0 7)).toNatClampNeg (gL (mX9_takeNewName s p0) 3 4)) (1 : Int32) (9 : Int32)) = wm9)) dX6_readKind_42 cvX6_133 okX9_takeNumber rfl (Nat.le_of_ble_eq_true rfl) BS_3 (Nat.le_of_ble_eq_true rfl) (Nat.le_of_ble_eq_true rfl) hci_9 (Nat.le_of_ble_eq_true rfl) (Nat.le_of_ble_eq_true rfl) (pX9_takeNumber  ((1 : Int32)) ((9 : Int32)) o12 ⟨rfl, rfl⟩) (fun zv9 wm9 hq9 => ?_)
      obtain ⟨rfl, rfl⟩ := hq9
      obtain ⟨s2, hs2⟩ : ∃ z, z = (mX9_takeNumber (pL (mX9_takeNewName s p0) (p0 + 4) ((gI (mX9_takeNewName s p0) p0 7)).toNatClampNeg (gL (mX9_takeNewName s p0) 3 4)) (1 : Int32) (9 : Int32)) := ⟨_, rfl⟩
      replace h := h s2 hs2
      rw [← hs2]
      refine JT_if_ne (tgt := 50) dX6_readKind_45 (by decide) (fun hc11 => ?_) (fun hc11 => ?_)
      · have h := h.1 hc11
        refine JT_aload_n (q := 0) dX6_readKind_50 rfl rfl ?_
        refine JS_getR (x := (p0 + 5)) dX6_readKind_51 flX6_25 (pxB hp0) (px2 hp0) (pxN hp0) (Or.inr ⟨_, ct_6_4⟩) (pxR4 hp0) ?_
        refine JT_aload_n (q := 0) dX6_readKind_54 rfl rfl ?_
        refine JS_getI dX6_readKind_55 flX6_38 (pxB hp0) (px2 hp0) (pxN hp0) (Or.inl ct_6_7) ?_
        refine JT_aload_n (q := 1) dX6_readKind_58 rfl rfl ?_
        refine JS_getI dX6_readKind_59 flX6_137 BS_3 (Nat.le_of_ble_eq_true rfl) (Nat.le_of_ble_eq_true rfl) (Or.inl ct_9_5) ?_
        obtain ⟨o3, h⟩ := h
        refine JS_iast dX6_readKind_62 (pxB5 hp0) (px2k hp0 _) (pxNk hp0 (Nat.le_of_ble_eq_true rfl)) o3 ?_
        refine JT_aload_n (q := 1) dX6_readKind_63 rfl rfl ?_
        obtain ⟨o10, h⟩ := h
        refine JS_callVV (M' := MX9_nextToken) (d' := 2) (As := []) (rest := []) (P := (fun wm9 => (mX9_nextToken (pI s2 (p0 + 5) ((gI s2 p0 7)).toNatClampNeg (gI s2 3 5)) ) = wm9)) dX6_readKind_64 cvX6_84 okX9_nextToken rfl (Nat.le_of_ble_eq_true rfl) BS_3 (Nat.le_of_ble_eq_true rfl) (Nat.le_of_ble_eq_true rfl) hci_9 (Nat.le_of_ble_eq_true rfl) (Nat.le_of_ble_eq_true rfl) (pX9_nextToken   o10 rfl) (fun wm9 hq9 => ?_)
        subst hq9
        refine JT_aload_n (q := 0) dX6_readKind_67 rfl rfl ?_
        refine JS_getR (x := (p0 + 6)) dX6_readKind_68 flX6_28 (pxB hp0) (px2 hp0) (pxN hp0) (Or.inr ⟨_, ct_6_5⟩) (pxR5 hp0) ?_
        refine JT_aload_n (q := 0) dX6_readKind_71 rfl rfl ?_
        refine JS_getI dX6_readKind_72 flX6_38 (pxB hp0) (px2 hp0) (pxN hp0) (Or.inl ct_6_7) ?_
        refine JT_aload_n (q := 1) dX6_readKind_75 rfl rfl ?_
        refine JS_callSI (M' := MX6_sortTold) (d' := 1) (As := [.ref 3]) (rest := [.int (gI (mX9_nextToken (pI s2 (p0 + 5) ((gI s2 p0 7)).toNatClampNeg (gI s2 3 5)) ) p0 7), .ref (p0 + 6)]) (P := (fun zv9 wm9 => (vX6_sortTold (mX9_nextToken (pI s2 (p0 + 5) ((gI s2 p0 7)).toNatClampNeg (gI s2 3 5)) ) ) = zv9 ∧ (mX9_nextToken (pI s2 (p0 + 5) ((gI s2 p0 7)).toNatClampNeg (gI s2 3 5)) ) = wm9)) dX6_readKind_76 cvX6_151 okX6_sortTold rfl (Nat.le_of_ble_eq_true rfl) (Nat.le_of_ble_eq_true rfl) (Nat.le_of_ble_eq_true rfl) (pX6_sortTold    ⟨rfl, rfl⟩) (fun zv9 wm9 hq9 => ?_)
        obtain ⟨rfl, rfl⟩ := hq9
        obtain ⟨o4, h⟩ := h
        refine JS_iast dX6_readKind_79 (pxB6 hp0) (px2k hp0 _) (pxNk hp0 (Nat.le_of_ble_eq_true rfl)) o4 ?_
        obtain ⟨s5, hs5⟩ : ∃ z, z = (pI (mX9_nextToken (pI s2 (p0 + 5) ((gI s2 p0 7)).toNatClampNeg (gI s2 3 5)) ) (p0 + 6) ((gI (mX9_nextToken (pI s2 (p0 + 5) ((gI s2 p0 7)).toNatClampNeg (gI s2 3 5)) ) p0 7)).toNatClampNeg (vX6_sortTold (mX9_nextToken (pI s2 (p0 + 5) ((gI s2 p0 7)).toNatClampNeg (gI s2 3 5)) ) )) := ⟨_, rfl⟩
        replace h := h s5 hs5
        rw [← hs5]
        refine JT_aload_n (q := 0) dX6_readKind_80 rfl rfl ?_
        refine JS_getR (x := (p0 + 6)) dX6_readKind_81 flX6_28 (pxB hp0) (px2 hp0) (pxN hp0) (Or.inr ⟨_, ct_6_5⟩) (pxR5 hp0) ?_
        refine JT_aload_n (q := 0) dX6_readKind_84 rfl rfl ?_
        refine JS_getI dX6_readKind_85 flX6_38 (pxB hp0) (px2 hp0) (pxN hp0) (Or.inl ct_6_7) ?_
        obtain ⟨o6, h⟩ := h
        refine JS_iald dX6_readKind_88 (pxB6 hp0) (px2k hp0 _) (pxNk hp0 (Nat.le_of_ble_eq_true rfl)) o6 ?_
        refine JT_if_eq (tgt := 96) dX6_readKind_89 (by decide) (fun hc8 => ?_) (fun hc8 => ?_)
        · have h := h.1 hc8
          exact JT_sub [0, 1] rfl h
        · have h := h.2 hc8
          refine JT_aload_n (q := 1) dX6_readKind_92 rfl rfl ?_
          obtain ⟨o7, h⟩ := h
          refine JS_callVV (M' := MX9_nextToken) (d' := 2) (As := []) (rest := []) (P := (fun wm9 => (mX9_nextToken s5 ) = wm9)) dX6_readKind_93 cvX6_84 okX9_nextToken rfl (Nat.le_of_ble_eq_true rfl) BS_3 (Nat.le_of_ble_eq_true rfl) (Nat.le_of_ble_eq_true rfl) hci_9 (Nat.le_of_ble_eq_true rfl) (Nat.le_of_ble_eq_true rfl) (pX9_nextToken   o7 rfl) (fun wm9 hq9 => ?_)
          subst hq9
          exact JT_sub [0, 1] rfl h
      · have h := h.2 hc11
        refine JT_iconst (v := 0) dX6_readKind_48 ic_0 ?_
        exact JS_iret dX6_readKind_49 rfl (n01 (Or.inl rfl)) h
    · have h := h.2 hc13
      refine JT_iconst (v := 0) dX6_readKind_23 ic_0 ?_
      exact JS_iret dX6_readKind_24 rfl (n01 (Or.inl rfl)) h
  · have h := h.2 hc16
    refine JT_aload_n (q := 1) dX6_readKind_9 rfl rfl ?_
    refine JT_iconst (v := 4) dX6_readKind_10 ic_4 ?_
    refine JS_callVI (M' := MX9_refuse) (d' := 0) (As := [.int (4 : Int32)]) (rest := []) (P := (fun zv9 wm9 => (vX9_refuse s (4 : Int32)) = zv9 ∧ (mX9_refuse s (4 : Int32)) = wm9)) dX6_readKind_11 cvX6_122 okX9_refuse rfl (Nat.le_of_ble_eq_true rfl) BS_3 (Nat.le_of_ble_eq_true rfl) (Nat.le_of_ble_eq_true rfl) hci_9 (Nat.le_of_ble_eq_true rfl) (Nat.le_of_ble_eq_true rfl) (pX9_refuse  ((4 : Int32))  ⟨rfl, rfl⟩) (fun zv9 wm9 hq9 => ?_)
    obtain ⟨rfl, rfl⟩ := hq9
    exact JS_iret dX6_readKind_14 rfl (n01 (zX9_refuse s (4 : Int32))) h
set_option maxRecDepth 1000000 in
theorem gX6_readKind {p0 : Nat} (hp0 : p0 ∈ PX) : ∀ n : Nat, (∀  (s : SM) (Q : Int32 → SM → Prop), ((qX6_readKind n) s p0) → Q ((lX6_readKind n) s p0).1 ((lX6_readKind n) s p0).2 → BI MX6_readKind 4 96 [(0, .ref p0), (1, .ref 3)] s Q) := by
  intro n
  induction n with
  | zero => exact fun _ _ hq _ => absurd hq id
  | succ n ih =>
    intro  s Q hr h
    replace hr : uX6_readKind_96 (qX6_readKind n) s p0 := hr
    replace h : Q (tX6_readKind_96 (lX6_readKind n) s p0).1 (tX6_readKind_96 (lX6_readKind n) s p0).2 := h
    unfold uX6_readKind_96 at hr
    unfold tX6_readKind_96 at h
    refine bX6_readKind_96 hp0 ?_
    first | exact h | contradiction
set_option maxRecDepth 1000000 in
theorem pX6_readKind {p0 : Nat} (hp0 : p0 ∈ PX) {s : SM} {Q : Int32 → SM → Prop} (hr : rX6_readKind s p0) (h : Q (vX6_readKind s p0) (mX6_readKind s p0)) : KI MX6_readKind 4 [.ref p0, .ref 3] s Q := by
  replace h : Q (fX6_readKind s p0).1 (fX6_readKind s p0).2 := h
  unfold rX6_readKind at hr
  unfold fX6_readKind at h
  refine bX6_readKind hp0 ?_
  refine ⟨fun c => ?_, fun c => ?_⟩
  · replace hr := hr c
    replace h := q3p c h
    refine ⟨hr.1, ?_⟩
    replace hr := hr.2
    refine ⟨fun c => ?_, fun c => ?_⟩
    · replace hr := hr c
      replace h := q3n c h
      refine ⟨hr.1, ?_⟩
      replace hr := hr.2
      refine ⟨hr.1, ?_⟩
      replace hr := hr.2
      intro s2 e9
      replace hr := hr s2 e9
      try rw [← e9] at h
      try dsimp only at h
      refine ⟨fun c => ?_, fun c => ?_⟩
      · replace hr := hr c
        replace h := q3n c h
        refine ⟨hr.1, ?_⟩
        replace hr := hr.2
        refine ⟨hr.1, ?_⟩
        replace hr := hr.2
        refine ⟨hr.1, ?_⟩
        replace hr := hr.2
        intro s5 e9
        replace hr := hr s5 e9
        try rw [← e9] at h
        try dsimp only at h
        refine ⟨hr.1, ?_⟩
        replace hr := hr.2
        refine ⟨fun c => ?_, fun c => ?_⟩
        · replace hr := hr.1 c
          replace h := q3p c h
          first | exact (gX6_readKind hp0 FU)  _ Q hr h | contradiction
        · replace hr := hr.2 c
          replace h := q3n c h
          refine ⟨hr.1, ?_⟩
          replace hr := hr.2
          first | exact (gX6_readKind hp0 FU)  _ Q hr h | contradiction
      · replace h := q3p c h
        first | exact h | contradiction
    · replace h := q3p c h
      first | exact h | contradiction
  · replace h := q3n c h
    first | exact h | contradiction
set_option maxRecDepth 1000000 in
theorem bX6_readLineRoom {p0 : Nat} (hp0 : p0 ∈ PX) {s : SM} {Q : Int32 → SM → Prop} (h : (((gI s p0 12) = 0 → rX9_takeNumber s (0 : Int32) (9 : Int32) ∧ ((¬ (vX9_takeNumber s (0 : Int32) (9 : Int32)) = 0 → (∀ s1, s1 = (pI (pI (mX9_takeNumber s (0 : Int32) (9 : Int32)) p0 12 (1 : Int32)) p0 8 (gI (pI (mX9_takeNumber s (0 : Int32) (9 : Int32)) p0 12 (1 : Int32)) 3 5)) → rX9_takeStop s1  ∧ Q (vX9_takeStop s1 ) (mX9_takeStop s1 ))) ∧ ((vX9_takeNumber s (0 : Int32) (9 : Int32)) = 0 → Q (0 : Int32) (mX9_takeNumber s (0 : Int32) (9 : Int32))))) ∧ (¬ (gI s p0 12) = 0 → Q (vX9_refuse s (3 : Int32)) (mX9_refuse s (3 : Int32))))) : KI MX6_readLineRoom 4 [.ref p0, .ref 3] s Q := by
  show BI MX6_readLineRoom 4 0 [(0, .ref p0), (1, .ref 3)] s Q
  refine JT_aload_n (q := 0) dX6_readLineRoom_0 rfl rfl ?_
  refine JS_getI dX6_readLineRoom_1 flX6_47 (pxB hp0) (px2 hp0) (pxN hp0) (Or.inr ct_6_12) ?_
  refine JT_if_eq (tgt := 13) dX6_readLineRoom_4 (by decide) (fun hc6 => ?_) (fun hc6 => ?_)
  · have h := h.1 hc6
    refine JT_aload_n (q := 1) dX6_readLineRoom_13 rfl rfl ?_
    refine JT_iconst (v := 0) dX6_readLineRoom_14 ic_0 ?_
    refine JT_bipush (v := 9) dX6_readLineRoom_15 bp_9 ?_
    obtain ⟨o4, h⟩ := h
    refine JS_callVI (M' := MX9_takeNumber) (d' := 3) (As := [.int (0 : Int32), .int (9 : Int32)]) (rest := []) (P := (fun zv9 wm9 => (vX9_takeNumber s (0 : Int32) (9 : Int32)) = zv9 ∧ (mX9_takeNumber s (0 : Int32) (9 : Int32)) = wm9)) dX6_readLineRoom_17 cvX6_133 okX9_takeNumber rfl (Nat.le_of_ble_eq_true rfl) BS_3 (Nat.le_of_ble_eq_true rfl) (Nat.le_of_ble_eq_true rfl) hci_9 (Nat.le_of_ble_eq_true rfl) (Nat.le_of_ble_eq_true rfl) (pX9_takeNumber  ((0 : Int32)) ((9 : Int32)) o4 ⟨rfl, rfl⟩) (fun zv9 wm9 hq9 => ?_)
    obtain ⟨rfl, rfl⟩ := hq9
    refine JT_if_ne (tgt := 25) dX6_readLineRoom_20 (by decide) (fun hc3 => ?_) (fun hc3 => ?_)
    · have h := h.1 hc3
      refine JT_aload_n (q := 0) dX6_readLineRoom_25 rfl rfl ?_
      refine JT_iconst (v := 1) dX6_readLineRoom_26 ic_1 ?_
      refine JS_putZ dX6_readLineRoom_27 flX6_47 (pxB hp0) (px2 hp0) (pxN hp0) ct_6_12 (Or.inr rfl) ?_
      refine JT_aload_n (q := 0) dX6_readLineRoom_30 rfl rfl ?_
      refine JT_aload_n (q := 1) dX6_readLineRoom_31 rfl rfl ?_
      refine JS_getI dX6_readLineRoom_32 flX6_137 BS_3 (Nat.le_of_ble_eq_true rfl) (Nat.le_of_ble_eq_true rfl) (Or.inl ct_9_5) ?_
      refine JS_putI dX6_readLineRoom_35 flX6_31 (pxB hp0) (px2 hp0) (pxN hp0) ct_6_8 ?_
      obtain ⟨s1, hs1⟩ : ∃ z, z = (pI (pI (mX9_takeNumber s (0 : Int32) (9 : Int32)) p0 12 (1 : Int32)) p0 8 (gI (pI (mX9_takeNumber s (0 : Int32) (9 : Int32)) p0 12 (1 : Int32)) 3 5)) := ⟨_, rfl⟩
      replace h := h s1 hs1
      rw [← hs1]
      refine JT_aload_n (q := 1) dX6_readLineRoom_38 rfl rfl ?_
      obtain ⟨o2, h⟩ := h
      refine JS_callVI (M' := MX9_takeStop) (d' := 3) (As := []) (rest := []) (P := (fun zv9 wm9 => (vX9_takeStop s1 ) = zv9 ∧ (mX9_takeStop s1 ) = wm9)) dX6_readLineRoom_39 cvX6_163 okX9_takeStop rfl (Nat.le_of_ble_eq_true rfl) BS_3 (Nat.le_of_ble_eq_true rfl) (Nat.le_of_ble_eq_true rfl) hci_9 (Nat.le_of_ble_eq_true rfl) (Nat.le_of_ble_eq_true rfl) (pX9_takeStop   o2 ⟨rfl, rfl⟩) (fun zv9 wm9 hq9 => ?_)
      obtain ⟨rfl, rfl⟩ := hq9
      exact JS_iret dX6_readLineRoom_42 rfl (n01 (zX9_takeStop s1 )) h
    · have h := h.2 hc3
      refine JT_iconst (v := 0) dX6_readLineRoom_23 ic_0 ?_
      exact JS_iret dX6_readLineRoom_24 rfl (n01 (Or.inl rfl)) h
  · have h := h.2 hc6
    refine JT_aload_n (q := 1) dX6_readLineRoom_7 rfl rfl ?_
    refine JT_iconst (v := 3) dX6_readLineRoom_8 ic_3 ?_
    refine JS_callVI (M' := MX9_refuse) (d' := 0) (As := [.int (3 : Int32)]) (rest := []) (P := (fun zv9 wm9 => (vX9_refuse s (3 : Int32)) = zv9 ∧ (mX9_refuse s (3 : Int32)) = wm9)) dX6_readLineRoom_9 cvX6_122 okX9_refuse rfl (Nat.le_of_ble_eq_true rfl) BS_3 (Nat.le_of_ble_eq_true rfl) (Nat.le_of_ble_eq_true rfl) hci_9 (Nat.le_of_ble_eq_true rfl) (Nat.le_of_ble_eq_true rfl) (pX9_refuse  ((3 : Int32))  ⟨rfl, rfl⟩) (fun zv9 wm9 hq9 => ?_)
    obtain ⟨rfl, rfl⟩ := hq9
    exact JS_iret dX6_readLineRoom_12 rfl (n01 (zX9_refuse s (3 : Int32))) h
set_option maxRecDepth 1000000 in
theorem pX6_readLineRoom {p0 : Nat} (hp0 : p0 ∈ PX) {s : SM} {Q : Int32 → SM → Prop} (hr : rX6_readLineRoom s p0) (h : Q (vX6_readLineRoom s p0) (mX6_readLineRoom s p0)) : KI MX6_readLineRoom 4 [.ref p0, .ref 3] s Q := by
  refine bX6_readLineRoom hp0 ?_
  unfold rX6_readLineRoom at hr
  unfold vX6_readLineRoom mX6_readLineRoom at h
  refine ⟨fun c => ?_, fun c => ?_⟩
  · replace hr := hr c
    replace h := q2p c h
    refine ⟨hr.1, ?_⟩
    replace hr := hr.2
    refine ⟨fun c => ?_, fun c => ?_⟩
    · replace hr := hr c
      replace h := q2n c h
      intro s1 e9
      replace hr := hr s1 e9
      try rw [← e9] at h
      try dsimp only at h
      refine ⟨hr, ?_⟩
      first | exact h | contradiction
    · replace h := q2p c h
      first | exact h | contradiction
  · replace h := q2n c h
    first | exact h | contradiction
set_option maxRecDepth 1000000 in
theorem bX0_readRest {k0 : Nat} (hk0 : k0 ∈ BX) {p2 : Nat} (hp2 : p2 ∈ PX) (a3 : Int32) {s : SM} {Q : Int32 → SM → Prop} (h : ((a3 = 0 → rX0_readTwoBodies s k0 p2 ∧ (((vX0_readTwoBodies s k0 p2) = 0 → Q (0 : Int32) (mX0_readTwoBodies s k0 p2)) ∧ (¬ (vX0_readTwoBodies s k0 p2) = 0 → rX0_readSumAndKind (mX0_readTwoBodies s k0 p2) k0 p2 ∧ Q (if (vX0_readSumAndKind (mX0_readTwoBodies s k0 p2) k0 p2) = 0 then (0 : Int32) else (1 : Int32)) (mX0_readSumAndKind (mX0_readTwoBodies s k0 p2) k0 p2)))) ∧ (a3 = 1 → rX0_readDeal s k0 ∧ Q (vX0_readDeal s k0) (mX0_readDeal s k0)) ∧ (a3 = 2 → rX0_readDeal s k0 ∧ (((vX0_readDeal s k0) = 0 → Q (0 : Int32) (mX0_readDeal s k0)) ∧ (¬ (vX0_readDeal s k0) = 0 → rX0_readSide (mX0_readDeal s k0) k0 ∧ Q (if (vX0_readSide (mX0_readDeal s k0) k0) = 0 then (0 : Int32) else (1 : Int32)) (mX0_readSide (mX0_readDeal s k0) k0)))) ∧ (a3 = 3 → Q (1 : Int32) s) ∧ (a3 = 4 → rX0_readTwoBodies s k0 p2 ∧ Q (vX0_readTwoBodies s k0 p2) (mX0_readTwoBodies s k0 p2)) ∧ ((a3.toInt < 0 ∨ 4 < a3.toInt) → Q (1 : Int32) s))) : KI MX0_readRest 5 [.ref k0, .ref 3, .ref p2, .int a3] s Q := by
  show BI MX0_readRest 5 0 [(0, .ref k0), (1, .ref 3), (2, .ref p2), (3, .int a3)] s Q
  refine JT_iload_n (q := 3) dX0_readRest_0 rfl rfl ?_
  by_cases ho1 : (a3).toInt < 0 ∨ 4 < (a3).toInt
  · have h := h.2.2.2.2.2 ho1
    refine JT_tableOut (tgt := 95) dX0_readRest_1 ho1 (by decide) ?_
    refine JT_iconst (v := 1) dX0_readRest_95 ic_1 ?_
    exact JS_iret dX0_readRest_96 rfl (n01 (Or.inr rfl)) h
  · have hk14 : (a3).toInt = 0 ∨ (a3).toInt = 1 ∨ (a3).toInt = 2 ∨ (a3).toInt = 3 ∨ (a3).toInt = 4 := by omega
    rcases hk14 with hk14 | hk14 | hk14 | hk14 | hk14
    · have h := h.1 (i32_of_toInt hk14)
      refine JT_tableIn (tgt := 36) dX0_readRest_1 (by omega) (by omega) (by rw [hk14]; rfl) (by decide) ?_
      refine JT_aload_n (q := 0) dX0_readRest_36 rfl rfl ?_
      refine JT_aload_n (q := 1) dX0_readRest_37 rfl rfl ?_
      refine JT_aload_n (q := 2) dX0_readRest_38 rfl rfl ?_
      obtain ⟨o6, h⟩ := h
      refine JS_callVI (M' := MX0_readTwoBodies) (d' := 4) (As := [.ref 3, .ref p2]) (rest := []) (P := (fun zv9 wm9 => (vX0_readTwoBodies s k0 p2) = zv9 ∧ (mX0_readTwoBodies s k0 p2) = wm9)) dX0_readRest_39 cvX0_83 okX0_readTwoBodies rfl (Nat.le_of_ble_eq_true rfl) (bxB hk0) (bx2 hk0) (bxN hk0) hci_0 (Nat.le_of_ble_eq_true rfl) (Nat.le_of_ble_eq_true rfl) (pX0_readTwoBodies hk0 hp2  o6 ⟨rfl, rfl⟩) (fun zv9 wm9 hq9 => ?_)
      obtain ⟨rfl, rfl⟩ := hq9
      refine JT_if_eq (tgt := 58) dX0_readRest_42 (by decide) (fun hc5 => ?_) (fun hc5 => ?_)
      · have h := h.1 hc5
        refine JT_iconst (v := 0) dX0_readRest_58 ic_0 ?_
        exact JS_iret dX0_readRest_59 rfl (n01 (Or.inl rfl)) h
      · have h := h.2 hc5
        refine JT_aload_n (q := 0) dX0_readRest_45 rfl rfl ?_
        refine JT_aload_n (q := 1) dX0_readRest_46 rfl rfl ?_
        refine JT_aload_n (q := 2) dX0_readRest_47 rfl rfl ?_
        obtain ⟨o4, h⟩ := h
        refine JS_callVI (M' := MX0_readSumAndKind) (d' := 4) (As := [.ref 3, .ref p2]) (rest := []) (P := (fun zv9 wm9 => (vX0_readSumAndKind (mX0_readTwoBodies s k0 p2) k0 p2) = zv9 ∧ (mX0_readSumAndKind (mX0_readTwoBodies s k0 p2) k0 p2) = wm9)) dX0_readRest_48 cvX0_87 okX0_readSumAndKind rfl (Nat.le_of_ble_eq_true rfl) (bxB hk0) (bx2 hk0) (bxN hk0) hci_0 (Nat.le_of_ble_eq_true rfl) (Nat.le_of_ble_eq_true rfl) (pX0_readSumAndKind hk0 hp2  o4 ⟨rfl, rfl⟩) (fun zv9 wm9 hq9 => ?_)
        obtain ⟨rfl, rfl⟩ := hq9
        have hj2 : ∀ v : Int32, v = (if (vX0_readSumAndKind (mX0_readTwoBodies s k0 p2) k0 p2) = 0 then (0 : Int32) else (1 : Int32)) → JT MX0_readRest 5 0 0 59 [(0, .ref k0), (1, .ref 3), (2, .ref p2), (3, .int a3)] [.int v] (std (mX0_readSumAndKind (mX0_readTwoBodies s k0 p2) k0 p2)) (KQ Q) := by
          intro v hv
          subst hv
          exact JS_iret dX0_readRest_59 rfl (n01 (i01 (Or.inl rfl) (Or.inr rfl))) h
        refine JT_if_eq (tgt := 58) dX0_readRest_51 (by decide) (fun hc3 => ?_) (fun hc3 => ?_)
        · refine JT_iconst (v := 0) dX0_readRest_58 ic_0 ?_
          exact hj2 _ (by rw [if_pos hc3])
        · refine JT_iconst (v := 1) dX0_readRest_54 ic_1 ?_
          refine JT_goto (tgt := 59) dX0_readRest_55 (by decide) ?_
          exact hj2 _ (by rw [if_neg hc3])
    · have h := h.2.1 (i32_of_toInt hk14)
      refine JT_tableIn (tgt := 60) dX0_readRest_1 (by omega) (by omega) (by rw [hk14]; rfl) (by decide) ?_
      refine JT_aload_n (q := 0) dX0_readRest_60 rfl rfl ?_
      refine JT_aload_n (q := 1) dX0_readRest_61 rfl rfl ?_
      obtain ⟨o7, h⟩ := h
      refine JS_callVI (M' := MX0_readDeal) (d' := 4) (As := [.ref 3]) (rest := []) (P := (fun zv9 wm9 => (vX0_readDeal s k0) = zv9 ∧ (mX0_readDeal s k0) = wm9)) dX0_readRest_62 cvX0_90 okX0_readDeal rfl (Nat.le_of_ble_eq_true rfl) (bxB hk0) (bx2 hk0) (bxN hk0) hci_0 (Nat.le_of_ble_eq_true rfl) (Nat.le_of_ble_eq_true rfl) (pX0_readDeal hk0  o7 ⟨rfl, rfl⟩) (fun zv9 wm9 hq9 => ?_)
      obtain ⟨rfl, rfl⟩ := hq9
      exact JS_iret dX0_readRest_65 rfl (n01 (zX0_readDeal s k0)) h
    · have h := h.2.2.1 (i32_of_toInt hk14)
      refine JT_tableIn (tgt := 66) dX0_readRest_1 (by omega) (by omega) (by rw [hk14]; rfl) (by decide) ?_
      refine JT_aload_n (q := 0) dX0_readRest_66 rfl rfl ?_
      refine JT_aload_n (q := 1) dX0_readRest_67 rfl rfl ?_
      obtain ⟨o12, h⟩ := h
      refine JS_callVI (M' := MX0_readDeal) (d' := 4) (As := [.ref 3]) (rest := []) (P := (fun zv9 wm9 => (vX0_readDeal s k0) = zv9 ∧ (mX0_readDeal s k0) = wm9)) dX0_readRest_68 cvX0_90 okX0_readDeal rfl (Nat.le_of_ble_eq_true rfl) (bxB hk0) (bx2 hk0) (bxN hk0) hci_0 (Nat.le_of_ble_eq_true rfl) (Nat.le_of_ble_eq_true rfl) (pX0_readDeal hk0  o12 ⟨rfl, rfl⟩) (fun zv9 wm9 hq9 => ?_)
      obtain ⟨rfl, rfl⟩ := hq9
      refine JT_if_eq (tgt := 86) dX0_readRest_71 (by decide) (fun hc11 => ?_) (fun hc11 => ?_)
      · have h := h.1 hc11
        refine JT_iconst (v := 0) dX0_readRest_86 ic_0 ?_
        exact JS_iret dX0_readRest_87 rfl (n01 (Or.inl rfl)) h
      · have h := h.2 hc11
        refine JT_aload_n (q := 0) dX0_readRest_74 rfl rfl ?_
        refine JT_aload_n (q := 1) dX0_readRest_75 rfl rfl ?_
        obtain ⟨o10, h⟩ := h
        refine JS_callVI (M' := MX0_readSide) (d' := 3) (As := [.ref 3]) (rest := []) (P := (fun zv9 wm9 => (vX0_readSide (mX0_readDeal s k0) k0) = zv9 ∧ (mX0_readSide (mX0_readDeal s k0) k0) = wm9)) dX0_readRest_76 cvX0_94 okX0_readSide rfl (Nat.le_of_ble_eq_true rfl) (bxB hk0) (bx2 hk0) (bxN hk0) hci_0 (Nat.le_of_ble_eq_true rfl) (Nat.le_of_ble_eq_true rfl) (pX0_readSide hk0  o10 ⟨rfl, rfl⟩) (fun zv9 wm9 hq9 => ?_)
        obtain ⟨rfl, rfl⟩ := hq9
        have hj8 : ∀ v : Int32, v = (if (vX0_readSide (mX0_readDeal s k0) k0) = 0 then (0 : Int32) else (1 : Int32)) → JT MX0_readRest 5 0 0 87 [(0, .ref k0), (1, .ref 3), (2, .ref p2), (3, .int a3)] [.int v] (std (mX0_readSide (mX0_readDeal s k0) k0)) (KQ Q) := by
          intro v hv
          subst hv
          exact JS_iret dX0_readRest_87 rfl (n01 (i01 (Or.inl rfl) (Or.inr rfl))) h
        refine JT_if_eq (tgt := 86) dX0_readRest_79 (by decide) (fun hc9 => ?_) (fun hc9 => ?_)
        · refine JT_iconst (v := 0) dX0_readRest_86 ic_0 ?_
          exact hj8 _ (by rw [if_pos hc9])
        · refine JT_iconst (v := 1) dX0_readRest_82 ic_1 ?_
          refine JT_goto (tgt := 87) dX0_readRest_83 (by decide) ?_
          exact hj8 _ (by rw [if_neg hc9])
    · have h := h.2.2.2.1 (i32_of_toInt hk14)
      refine JT_tableIn (tgt := 95) dX0_readRest_1 (by omega) (by omega) (by rw [hk14]; rfl) (by decide) ?_
      refine JT_iconst (v := 1) dX0_readRest_95 ic_1 ?_
      exact JS_iret dX0_readRest_96 rfl (n01 (Or.inr rfl)) h
    · have h := h.2.2.2.2.1 (i32_of_toInt hk14)
      refine JT_tableIn (tgt := 88) dX0_readRest_1 (by omega) (by omega) (by rw [hk14]; rfl) (by decide) ?_
      refine JT_aload_n (q := 0) dX0_readRest_88 rfl rfl ?_
      refine JT_aload_n (q := 1) dX0_readRest_89 rfl rfl ?_
      refine JT_aload_n (q := 2) dX0_readRest_90 rfl rfl ?_
      obtain ⟨o13, h⟩ := h
      refine JS_callVI (M' := MX0_readTwoBodies) (d' := 4) (As := [.ref 3, .ref p2]) (rest := []) (P := (fun zv9 wm9 => (vX0_readTwoBodies s k0 p2) = zv9 ∧ (mX0_readTwoBodies s k0 p2) = wm9)) dX0_readRest_91 cvX0_83 okX0_readTwoBodies rfl (Nat.le_of_ble_eq_true rfl) (bxB hk0) (bx2 hk0) (bxN hk0) hci_0 (Nat.le_of_ble_eq_true rfl) (Nat.le_of_ble_eq_true rfl) (pX0_readTwoBodies hk0 hp2  o13 ⟨rfl, rfl⟩) (fun zv9 wm9 hq9 => ?_)
      obtain ⟨rfl, rfl⟩ := hq9
      exact JS_iret dX0_readRest_94 rfl (n01 (zX0_readTwoBodies s k0 p2)) h
set_option maxRecDepth 1000000 in
theorem pX0_readRest {k0 : Nat} (hk0 : k0 ∈ BX) {p2 : Nat} (hp2 : p2 ∈ PX) (a3 : Int32) {s : SM} {Q : Int32 → SM → Prop} (hr : rX0_readRest s k0 p2 a3) (h : Q (vX0_readRest s k0 p2 a3) (mX0_readRest s k0 p2 a3)) : KI MX0_readRest 5 [.ref k0, .ref 3, .ref p2, .int a3] s Q := by
  refine bX0_readRest hk0 hp2 a3 ?_
  unfold rX0_readRest at hr
  unfold vX0_readRest mX0_readRest at h
  refine ⟨fun c => ?_, fun c => ?_, fun c => ?_, fun c => ?_, fun c => ?_, fun c => ?_⟩
  · replace hr := hr.1 c
    replace h := q2p c h
    refine ⟨hr.1, ?_⟩
    replace hr := hr.2
    refine ⟨fun c => ?_, fun c => ?_⟩
    · replace h := q2p c h
      first | exact h | contradiction
    · replace hr := hr c
      replace h := q2n c h
      refine ⟨hr, ?_⟩
      first | exact h | contradiction
  · replace hr := hr.2.1 c
    have n0 : ¬ a3 = (0 : Int32) := by rw [c]; decide
    replace h := q2n n0 h
    replace h := q2p c h
    refine ⟨hr, ?_⟩
    first | exact h | contradiction
  · replace hr := hr.2.2.1 c
    have n0 : ¬ a3 = (0 : Int32) := by rw [c]; decide
    replace h := q2n n0 h
    have n1 : ¬ a3 = (1 : Int32) := by rw [c]; decide
    replace h := q2n n1 h
    replace h := q2p c h
    refine ⟨hr.1, ?_⟩
    replace hr := hr.2
    refine ⟨fun c => ?_, fun c => ?_⟩
    · replace h := q2p c h
      first | exact h | contradiction
    · replace hr := hr c
      replace h := q2n c h
      refine ⟨hr, ?_⟩
      first | exact h | contradiction
  · have n0 : ¬ a3 = (0 : Int32) := by rw [c]; decide
    replace h := q2n n0 h
    have n1 : ¬ a3 = (1 : Int32) := by rw [c]; decide
    replace h := q2n n1 h
    have n2 : ¬ a3 = (2 : Int32) := by rw [c]; decide
    replace h := q2n n2 h
    replace h := q2p c h
    first | exact h | contradiction
  · replace hr := hr.2.2.2 c
    have n0 : ¬ a3 = (0 : Int32) := by rw [c]; decide
    replace h := q2n n0 h
    have n1 : ¬ a3 = (1 : Int32) := by rw [c]; decide
    replace h := q2n n1 h
    have n2 : ¬ a3 = (2 : Int32) := by rw [c]; decide
    replace h := q2n n2 h
    have n3 : ¬ a3 = (3 : Int32) := by rw [c]; decide
    replace h := q2n n3 h
    replace h := q2p c h
    refine ⟨hr, ?_⟩
    first | exact h | contradiction
  · have n0 : ¬ a3 = (0 : Int32) := by intro e9; rw [e9] at c; revert c; decide
    replace h := q2n n0 h
    have n1 : ¬ a3 = (1 : Int32) := by intro e9; rw [e9] at c; revert c; decide
    replace h := q2n n1 h
    have n2 : ¬ a3 = (2 : Int32) := by intro e9; rw [e9] at c; revert c; decide
    replace h := q2n n2 h
    have n3 : ¬ a3 = (3 : Int32) := by intro e9; rw [e9] at c; revert c; decide
    replace h := q2n n3 h
    have n4 : ¬ a3 = (4 : Int32) := by intro e9; rw [e9] at c; revert c; decide
    replace h := q2n n4 h
    first | exact h | contradiction
set_option maxRecDepth 1000000 in
theorem bX11_lost_4 (a1 : Int32) (a2 : Int32) (a3 : Int32) {s : SM} {Q : Int32 → SM → Prop} (h : (((gI s 31 9) ≤ a3 → Q (if a1 = (-1 : Int32) then a2 else (-1 : Int32)) s) ∧ (¬ (gI s 31 9) ≤ a3 → rX4_isLost s 31 5 a3 ∧ (((vX4_isLost s 31 5 a3) = 0 → BI MX11_lost 5 4 [(0, .ref 2), (1, .int a1), (2, .int a2), (3, .int (a3 + 1))] s Q) ∧ (¬ (vX4_isLost s 31 5 a3) = 0 → ((¬ a2 = a1 → BI MX11_lost 5 4 [(0, .ref 2), (1, .int a1), (2, .int (a2 + 1)), (3, .int (a3 + 1))] s Q) ∧ (a2 = a1 → Q a3 s))))))) : BI MX11_lost 5 4 [(0, .ref 2), (1, .int a1), (2, .int a2), (3, .int a3)] s Q := by
  refine JT_iload_n (q := 3) dX11_lost_4 rfl rfl ?_
  refine JT_aload_n (q := 0) dX11_lost_5 rfl rfl ?_
  refine JS_getR (x := 31) dX11_lost_6 flX11_41 BS_2 (Nat.le_of_ble_eq_true rfl) (Nat.le_of_ble_eq_true rfl) (Or.inl ⟨_, ct_11_5⟩) RF_2_5 ?_
  refine JS_getI dX11_lost_9 flX11_162 BS_31 (Nat.le_of_ble_eq_true rfl) (Nat.le_of_ble_eq_true rfl) (Or.inl ct_4_9) ?_
  refine JT_icmp_ge (tgt := 42) dX11_lost_12 (by decide) (fun hc6 => ?_) (fun hc6 => ?_)
  · have h := h.1 hc6
    refine JT_iload_n (q := 1) dX11_lost_42 rfl rfl ?_
    refine JT_iconst (v := -1) dX11_lost_43 ic_m1 ?_
    have hj1 : ∀ v : Int32, v = (if a1 = (-1 : Int32) then a2 else (-1 : Int32)) → JT MX11_lost 5 0 0 52 [(0, .ref 2), (1, .int a1), (2, .int a2), (3, .int a3)] [.int v] (std s) (KQ Q) := by
      intro v hv
      subst hv
      exact JS_iret dX11_lost_52 rfl rfl h
    refine JT_icmp_ne (tgt := 51) dX11_lost_44 (by decide) (fun hc2 => ?_) (fun hc2 => ?_)
    · refine JT_iconst (v := -1) dX11_lost_51 ic_m1 ?_
      exact hj1 _ (by rw [if_neg hc2])
    · refine JT_iload_n (q := 2) dX11_lost_47 rfl rfl ?_
      refine JT_goto (tgt := 52) dX11_lost_48 (by decide) ?_
      exact hj1 _ (by rw [if_pos hc2])
  · have h := h.2 hc6
    refine JT_aload_n (q := 0) dX11_lost_15 rfl rfl ?_
    refine JS_getR (x := 31) dX11_lost_16 flX11_41 BS_2 (Nat.le_of_ble_eq_true rfl) (Nat.le_of_ble_eq_true rfl) (Or.inl ⟨_, ct_11_5⟩) RF_2_5 ?_
    refine JT_iload_n (q := 3) dX11_lost_19 rfl rfl ?_
    obtain ⟨o5, h⟩ := h
    refine JS_callVI (M' := MX4_isLost) (d' := 4) (As := [.int a3]) (rest := []) (P := (fun zv9 wm9 => (vX4_isLost s 31 5 a3) = zv9 ∧ s = wm9)) dX11_lost_20 cvX11_398 okX4_isLost rfl (Nat.le_of_ble_eq_true rfl) BS_31 (Nat.le_of_ble_eq_true rfl) (Nat.le_of_ble_eq_true rfl) hci_4 (Nat.le_of_ble_eq_true rfl) (Nat.le_of_ble_eq_true rfl) (pX4_isLost hL_31 (a3) o5 ⟨rfl, rfl⟩) (fun zv9 wm9 hq9 => ?_)
    obtain ⟨rfl, rfl⟩ := hq9
    refine JT_if_eq (tgt := 36) dX11_lost_23 (by decide) (fun hc4 => ?_) (fun hc4 => ?_)
    · have h := h.1 hc4
      refine JT_iinc (q := 3) (v := (a3 + 1)) (lv' := [(3, .int (a3 + 1)), (0, .ref 2), (1, .int a1), (2, .int a2)]) dX11_lost_36 rfl (by rfl) (Nat.le_of_ble_eq_true rfl) rfl ?_
      refine JT_goto (tgt := 4) dX11_lost_39 (by decide) ?_
      exact JT_sub [1, 2, 3, 0] rfl h
    · have h := h.2 hc4
      refine JT_iload_n (q := 2) dX11_lost_26 rfl rfl ?_
      refine JT_iload_n (q := 1) dX11_lost_27 rfl rfl ?_
      refine JT_icmp_ne (tgt := 33) dX11_lost_28 (by decide) (fun hc3 => ?_) (fun hc3 => ?_)
      · have h := h.1 hc3
        refine JT_iinc (q := 2) (v := (a2 + 1)) (lv' := [(2, .int (a2 + 1)), (0, .ref 2), (1, .int a1), (3, .int a3)]) dX11_lost_33 rfl (by rfl) (Nat.le_of_ble_eq_true rfl) rfl ?_
        refine JT_iinc (q := 3) (v := (a3 + 1)) (lv' := [(3, .int (a3 + 1)), (2, .int (a2 + 1)), (0, .ref 2), (1, .int a1)]) dX11_lost_36 rfl (by rfl) (Nat.le_of_ble_eq_true rfl) rfl ?_
        refine JT_goto (tgt := 4) dX11_lost_39 (by decide) ?_
        exact JT_sub [2, 3, 1, 0] rfl h
      · have h := h.2 hc3
        refine JT_iload_n (q := 3) dX11_lost_31 rfl rfl ?_
        exact JS_iret dX11_lost_32 rfl rfl h
set_option maxRecDepth 1000000 in
theorem bX11_lost (a1 : Int32) {s : SM} {Q : Int32 → SM → Prop} (h : BI MX11_lost 5 4 [(0, .ref 2), (1, .int a1), (2, .int (0 : Int32)), (3, .int (0 : Int32))] s Q) : KI MX11_lost 5 [.ref 2, .int a1] s Q := by
  show BI MX11_lost 5 0 [(0, .ref 2), (1, .int a1)] s Q
  refine JT_iconst (v := 0) dX11_lost_0 ic_0 ?_
  refine JT_istore_n (lv' := [(2, .int (0 : Int32)), (0, .ref 2), (1, .int a1)]) dX11_lost_1 rfl (Nat.le_of_ble_eq_true rfl) rfl ?_
  refine JT_iconst (v := 0) dX11_lost_2 ic_0 ?_
  refine JT_istore_n (lv' := [(3, .int (0 : Int32)), (2, .int (0 : Int32)), (0, .ref 2), (1, .int a1)]) dX11_lost_3 rfl (Nat.le_of_ble_eq_true rfl) rfl ?_
  exact JT_sub [2, 3, 1, 0] rfl h
set_option maxRecDepth 1000000 in
theorem gX11_lost  : ∀ n : Nat, (∀ (a1 : Int32) (a2 : Int32) (a3 : Int32) (s : SM) (Q : Int32 → SM → Prop), ((qX11_lost n) s a1 a2 a3) → Q ((lX11_lost n) s a1 a2 a3) s → BI MX11_lost 5 4 [(0, .ref 2), (1, .int a1), (2, .int a2), (3, .int a3)] s Q) := by
  intro n
  induction n with
  | zero => exact fun _ _ _ _ _ hq _ => absurd hq id
  | succ n ih =>
    intro a1 a2 a3 s Q hr h
    replace hr : uX11_lost_4 (qX11_lost n) s a1 a2 a3 := hr
    replace h : Q (tX11_lost_4 (lX11_lost n) s a1 a2 a3) s := h
    unfold uX11_lost_4 at hr
    unfold tX11_lost_4 at h
    refine bX11_lost_4 a1 a2 a3 ?_
    refine ⟨fun c => ?_, fun c => ?_⟩
    · replace h := qlp c h
      first | exact h | contradiction
    · replace hr := hr c
      replace h := qln c h
      refine ⟨hr.1, ?_⟩
      replace hr := hr.2
      refine ⟨fun c => ?_, fun c => ?_⟩
      · replace hr := hr.1 c
        replace h := qlp c h
        first | exact ih a1 a2 (a3 + 1) _ Q hr h | contradiction
      · replace hr := hr.2 c
        replace h := qln c h
        refine ⟨fun c => ?_, fun c => ?_⟩
        · replace hr := hr c
          replace h := qln c h
          first | exact ih a1 (a2 + 1) (a3 + 1) _ Q hr h | contradiction
        · replace h := qlp c h
          first | exact h | contradiction
set_option maxRecDepth 1000000 in
theorem pX11_lost (a1 : Int32) {s : SM} {Q : Int32 → SM → Prop} (hr : rX11_lost s a1) (h : Q (vX11_lost s a1) s) : KI MX11_lost 5 [.ref 2, .int a1] s Q := by
  replace h : Q (fX11_lost s a1) s := h
  unfold rX11_lost at hr
  unfold fX11_lost at h
  refine bX11_lost a1 ?_
  first | exact (gX11_lost  FU) a1 (0 : Int32) (0 : Int32) _ Q hr h | contradiction
set_option maxRecDepth 1000000 in
theorem bX11_proof_41 (a1 : Int32) (a2 : Int32) (a3 : Int32) (a4 : Int32) (a5 : Int32) {s : SM} {Q : Int32 → SM → Prop} (h : ((a2 ≤ a5 → Q a4 s) ∧ (¬ a2 ≤ a5 → (((vJ6_bitCount_0f7a4 s a4) ≤ (vJ6_bitCount_0f7a4 s a5) → BI MX11_proof 5 41 [(0, .ref 2), (1, .int a1), (2, .int a2), (3, .int a3), (4, .int a4), (5, .int (a5 + 1))] s Q) ∧ (¬ (vJ6_bitCount_0f7a4 s a4) ≤ (vJ6_bitCount_0f7a4 s a5) → rX4_owedSurely s 31 5 a1 a5 ∧ ((¬ (vX4_owedSurely s 31 5 a1 a5) = a3 → BI MX11_proof 5 41 [(0, .ref 2), (1, .int a1), (2, .int a2), (3, .int a3), (4, .int a4), (5, .int (a5 + 1))] s Q) ∧ ((vX4_owedSurely s 31 5 a1 a5) = a3 → BI MX11_proof 5 41 [(0, .ref 2), (1, .int a1), (2, .int a2), (3, .int a3), (4, .int a5), (5, .int (a5 + 1))] s Q))))))) : BI MX11_proof 5 41 [(0, .ref 2), (1, .int a1), (2, .int a2), (3, .int a3), (4, .int a4), (5, .int a5)] s Q := by
  refine JT_iload (q := 5) dX11_proof_41 rfl ?_
  refine JT_iload_n (q := 2) dX11_proof_43 rfl rfl ?_
  refine JT_icmp_ge (tgt := 84) dX11_proof_44 (by decide) (fun hc6 => ?_) (fun hc6 => ?_)
  · have h := h.1 hc6
    refine JT_iload (q := 4) dX11_proof_84 rfl ?_
    exact JS_iret dX11_proof_86 rfl rfl h
  · have h := h.2 hc6
    refine JT_iload (q := 5) dX11_proof_47 rfl ?_
    refine JS_callSI (M' := MJ6_bitCount_0f7a4) (d' := 0) (As := [.int a5]) (rest := []) (P := (fun zv9 wm9 => (vJ6_bitCount_0f7a4 s a5) = zv9 ∧ s = wm9)) dX11_proof_49 cvX11_414 okJ6_bitCount_0f7a4 rfl (Nat.le_of_ble_eq_true rfl) (Nat.le_of_ble_eq_true rfl) (Nat.le_of_ble_eq_true rfl) (pJ6_bitCount_0f7a4  (a5)  ⟨rfl, rfl⟩) (fun zv9 wm9 hq9 => ?_)
    obtain ⟨rfl, rfl⟩ := hq9
    refine JT_iload (q := 4) dX11_proof_52 rfl ?_
    refine JS_callSI (M' := MJ6_bitCount_0f7a4) (d' := 0) (As := [.int a4]) (rest := [.int (vJ6_bitCount_0f7a4 s a5)]) (P := (fun zv9 wm9 => (vJ6_bitCount_0f7a4 s a4) = zv9 ∧ s = wm9)) dX11_proof_54 cvX11_414 okJ6_bitCount_0f7a4 rfl (Nat.le_of_ble_eq_true rfl) (Nat.le_of_ble_eq_true rfl) (Nat.le_of_ble_eq_true rfl) (pJ6_bitCount_0f7a4  (a4)  ⟨rfl, rfl⟩) (fun zv9 wm9 hq9 => ?_)
    obtain ⟨rfl, rfl⟩ := hq9
    refine JT_icmp_ge (tgt := 78) dX11_proof_57 (by decide) (fun hc3 => ?_) (fun hc3 => ?_)
    · have h := h.1 hc3
      refine JT_iinc (q := 5) (v := (a5 + 1)) (lv' := [(5, .int (a5 + 1)), (0, .ref 2), (1, .int a1), (2, .int a2), (3, .int a3), (4, .int a4)]) dX11_proof_78 rfl (by rfl) (Nat.le_of_ble_eq_true rfl) rfl ?_
      refine JT_goto (tgt := 41) dX11_proof_81 (by decide) ?_
      exact JT_sub [1, 2, 3, 4, 5, 0] rfl h
    · have h := h.2 hc3
      refine JT_aload_n (q := 0) dX11_proof_60 rfl rfl ?_
      refine JS_getR (x := 31) dX11_proof_61 flX11_41 BS_2 (Nat.le_of_ble_eq_true rfl) (Nat.le_of_ble_eq_true rfl) (Or.inl ⟨_, ct_11_5⟩) RF_2_5 ?_
      refine JT_iload_n (q := 1) dX11_proof_64 rfl rfl ?_
      refine JT_iload (q := 5) dX11_proof_65 rfl ?_
      obtain ⟨o2, h⟩ := h
      refine JS_callVI (M' := MX4_owedSurely) (d' := 4) (As := [.int a1, .int a5]) (rest := []) (P := (fun zv9 wm9 => (vX4_owedSurely s 31 5 a1 a5) = zv9 ∧ s = wm9)) dX11_proof_67 cvX11_408 okX4_owedSurely rfl (Nat.le_of_ble_eq_true rfl) BS_31 (Nat.le_of_ble_eq_true rfl) (Nat.le_of_ble_eq_true rfl) hci_4 (Nat.le_of_ble_eq_true rfl) (Nat.le_of_ble_eq_true rfl) (pX4_owedSurely hL_31 (a1) (a5) o2 ⟨rfl, rfl⟩) (fun zv9 wm9 hq9 => ?_)
      obtain ⟨rfl, rfl⟩ := hq9
      refine JT_iload_n (q := 3) dX11_proof_70 rfl rfl ?_
      refine JT_icmp_ne (tgt := 78) dX11_proof_71 (by decide) (fun hc1 => ?_) (fun hc1 => ?_)
      · have h := h.1 hc1
        refine JT_iinc (q := 5) (v := (a5 + 1)) (lv' := [(5, .int (a5 + 1)), (0, .ref 2), (1, .int a1), (2, .int a2), (3, .int a3), (4, .int a4)]) dX11_proof_78 rfl (by rfl) (Nat.le_of_ble_eq_true rfl) rfl ?_
        refine JT_goto (tgt := 41) dX11_proof_81 (by decide) ?_
        exact JT_sub [1, 2, 3, 4, 5, 0] rfl h
      · have h := h.2 hc1
        refine JT_iload (q := 5) dX11_proof_74 rfl ?_
        refine JT_istore (lv' := [(4, .int a5), (0, .ref 2), (1, .int a1), (2, .int a2), (3, .int a3), (5, .int a5)]) dX11_proof_76 (Nat.le_of_ble_eq_true rfl) rfl ?_
        refine JT_iinc (q := 5) (v := (a5 + 1)) (lv' := [(5, .int (a5 + 1)), (4, .int a5), (0, .ref 2), (1, .int a1), (2, .int a2), (3, .int a3)]) dX11_proof_78 rfl (by rfl) (Nat.le_of_ble_eq_true rfl) rfl ?_
        refine JT_goto (tgt := 41) dX11_proof_81 (by decide) ?_
        exact JT_sub [2, 3, 4, 5, 1, 0] rfl h
set_option maxRecDepth 1000000 in
theorem bX11_proof (a1 : Int32) {s : SM} {Q : Int32 → SM → Prop} (h : ((¬ (vX6_hasBody s 5 a1) = 0 → rX4_owedSurely s 31 5 a1 (((1 : Int32) <<< ((gI s 5 6) &&& 31)) - (1 : Int32)) ∧ BI MX11_proof 5 41 [(0, .ref 2), (1, .int a1), (2, .int (((1 : Int32) <<< ((gI s 5 6) &&& 31)) - (1 : Int32))), (3, .int (vX4_owedSurely s 31 5 a1 (((1 : Int32) <<< ((gI s 5 6) &&& 31)) - (1 : Int32)))), (4, .int (((1 : Int32) <<< ((gI s 5 6) &&& 31)) - (1 : Int32))), (5, .int (0 : Int32))] s Q) ∧ ((vX6_hasBody s 5 a1) = 0 → Q (-1 : Int32) s))) : KI MX11_proof 5 [.ref 2, .int a1] s Q := by
  show BI MX11_proof 5 0 [(0, .ref 2), (1, .int a1)] s Q
  refine JT_aload_n (q := 0) dX11_proof_0 rfl rfl ?_
  refine JS_getR (x := 5) dX11_proof_1 flX11_19 BS_2 (Nat.le_of_ble_eq_true rfl) (Nat.le_of_ble_eq_true rfl) (Or.inl ⟨_, ct_11_1⟩) RF_2_1 ?_
  refine JT_iload_n (q := 1) dX11_proof_4 rfl rfl ?_
  refine JS_callVI (M' := MX6_hasBody) (d' := 0) (As := [.int a1]) (rest := []) (P := (fun zv9 wm9 => (vX6_hasBody s 5 a1) = zv9 ∧ s = wm9)) dX11_proof_5 cvX11_172 okX6_hasBody rfl (Nat.le_of_ble_eq_true rfl) BS_5 (Nat.le_of_ble_eq_true rfl) (Nat.le_of_ble_eq_true rfl) hci_6 (Nat.le_of_ble_eq_true rfl) (Nat.le_of_ble_eq_true rfl) (pX6_hasBody hp_5 (a1)  ⟨rfl, rfl⟩) (fun zv9 wm9 hq9 => ?_)
  obtain ⟨rfl, rfl⟩ := hq9
  refine JT_if_ne (tgt := 13) dX11_proof_8 (by decide) (fun hc2 => ?_) (fun hc2 => ?_)
  · have h := h.1 hc2
    refine JT_iconst (v := 1) dX11_proof_13 ic_1 ?_
    refine JT_aload_n (q := 0) dX11_proof_14 rfl rfl ?_
    refine JS_getR (x := 5) dX11_proof_15 flX11_19 BS_2 (Nat.le_of_ble_eq_true rfl) (Nat.le_of_ble_eq_true rfl) (Or.inl ⟨_, ct_11_1⟩) RF_2_1 ?_
    refine JS_getI dX11_proof_18 flX11_150 BS_5 (Nat.le_of_ble_eq_true rfl) (Nat.le_of_ble_eq_true rfl) (Or.inl ct_6_6) ?_
    refine JT_ishl dX11_proof_21 ?_
    refine JT_iconst (v := 1) dX11_proof_22 ic_1 ?_
    refine JT_isub dX11_proof_23 ?_
    refine JT_istore_n (lv' := [(2, .int (((1 : Int32) <<< ((gI s 5 6) &&& 31)) - (1 : Int32))), (0, .ref 2), (1, .int a1)]) dX11_proof_24 rfl (Nat.le_of_ble_eq_true rfl) rfl ?_
    refine JT_aload_n (q := 1) dX11_proof_25 rfl rfl ?_
    refine JS_getR (x := 31) dX11_proof_26 flX11_41 BS_2 (Nat.le_of_ble_eq_true rfl) (Nat.le_of_ble_eq_true rfl) (Or.inl ⟨_, ct_11_5⟩) RF_2_5 ?_
    refine JT_iload_n (q := 2) dX11_proof_29 rfl rfl ?_
    refine JT_iload_n (q := 0) dX11_proof_30 rfl rfl ?_
    obtain ⟨o1, h⟩ := h
    refine JS_callVI (M' := MX4_owedSurely) (d' := 4) (As := [.int a1, .int (((1 : Int32) <<< ((gI s 5 6) &&& 31)) - (1 : Int32))]) (rest := []) (P := (fun zv9 wm9 => (vX4_owedSurely s 31 5 a1 (((1 : Int32) <<< ((gI s 5 6) &&& 31)) - (1 : Int32))) = zv9 ∧ s = wm9)) dX11_proof_31 cvX11_408 okX4_owedSurely rfl (Nat.le_of_ble_eq_true rfl) BS_31 (Nat.le_of_ble_eq_true rfl) (Nat.le_of_ble_eq_true rfl) hci_4 (Nat.le_of_ble_eq_true rfl) (Nat.le_of_ble_eq_true rfl) (pX4_owedSurely hL_31 (a1) ((((1 : Int32) <<< ((gI s 5 6) &&& 31)) - (1 : Int32))) o1 ⟨rfl, rfl⟩) (fun zv9 wm9 hq9 => ?_)
    obtain ⟨rfl, rfl⟩ := hq9
    refine JT_istore_n (lv' := [(3, .int (vX4_owedSurely s 31 5 a1 (((1 : Int32) <<< ((gI s 5 6) &&& 31)) - (1 : Int32)))), (2, .int (((1 : Int32) <<< ((gI s 5 6) &&& 31)) - (1 : Int32))), (0, .ref 2), (1, .int a1)]) dX11_proof_34 rfl (Nat.le_of_ble_eq_true rfl) rfl ?_
    refine JT_iload_n (q := 1) dX11_proof_35 rfl rfl ?_
    refine JT_istore (lv' := [(4, .int (((1 : Int32) <<< ((gI s 5 6) &&& 31)) - (1 : Int32))), (3, .int (vX4_owedSurely s 31 5 a1 (((1 : Int32) <<< ((gI s 5 6) &&& 31)) - (1 : Int32)))), (2, .int (((1 : Int32) <<< ((gI s 5 6) &&& 31)) - (1 : Int32))), (0, .ref 2), (1, .int a1)]) dX11_proof_36 (Nat.le_of_ble_eq_true rfl) rfl ?_
    refine JT_iconst (v := 0) dX11_proof_38 ic_0 ?_
    refine JT_istore (lv' := [(5, .int (0 : Int32)), (4, .int (((1 : Int32) <<< ((gI s 5 6) &&& 31)) - (1 : Int32))), (3, .int (vX4_owedSurely s 31 5 a1 (((1 : Int32) <<< ((gI s 5 6) &&& 31)) - (1 : Int32)))), (2, .int (((1 : Int32) <<< ((gI s 5 6) &&& 31)) - (1 : Int32))), (0, .ref 2), (1, .int a1)]) dX11_proof_39 (Nat.le_of_ble_eq_true rfl) rfl ?_
    exact JT_sub [4, 5, 3, 2, 1, 0] rfl h
  · have h := h.2 hc2
    refine JT_iconst (v := -1) dX11_proof_11 ic_m1 ?_
    exact JS_iret dX11_proof_12 rfl rfl h
set_option maxRecDepth 1000000 in
theorem gX11_proof  : ∀ n : Nat, (∀ (a1 : Int32) (a2 : Int32) (a3 : Int32) (a4 : Int32) (a5 : Int32) (s : SM) (Q : Int32 → SM → Prop), ((qX11_proof n) s a1 a2 a3 a4 a5) → Q ((lX11_proof n) s a1 a2 a3 a4 a5) s → BI MX11_proof 5 41 [(0, .ref 2), (1, .int a1), (2, .int a2), (3, .int a3), (4, .int a4), (5, .int a5)] s Q) := by
  intro n
  induction n with
  | zero => exact fun _ _ _ _ _ _ _ hq _ => absurd hq id
  | succ n ih =>
    intro a1 a2 a3 a4 a5 s Q hr h
    replace hr : uX11_proof_41 (qX11_proof n) s a1 a2 a3 a4 a5 := hr
    replace h : Q (tX11_proof_41 (lX11_proof n) s a1 a2 a3 a4 a5) s := h
    unfold uX11_proof_41 at hr
    unfold tX11_proof_41 at h
    refine bX11_proof_41 a1 a2 a3 a4 a5 ?_
    refine ⟨fun c => ?_, fun c => ?_⟩
    · replace h := qlp c h
      first | exact h | contradiction
    · replace hr := hr c
      replace h := qln c h
      refine ⟨fun c => ?_, fun c => ?_⟩
      · replace hr := hr.1 c
        replace h := qlp c h
        first | exact ih a1 a2 a3 a4 (a5 + 1) _ Q hr h | contradiction
      · replace hr := hr.2 c
        replace h := qln c h
        refine ⟨hr.1, ?_⟩
        replace hr := hr.2
        refine ⟨fun c => ?_, fun c => ?_⟩
        · replace hr := hr.1 c
          replace h := qln c h
          first | exact ih a1 a2 a3 a4 (a5 + 1) _ Q hr h | contradiction
        · replace hr := hr.2 c
          replace h := qlp c h
          first | exact ih a1 a2 a3 a5 (a5 + 1) _ Q hr h | contradiction
set_option maxRecDepth 1000000 in
theorem pX11_proof (a1 : Int32) {s : SM} {Q : Int32 → SM → Prop} (hr : rX11_proof s a1) (h : Q (vX11_proof s a1) s) : KI MX11_proof 5 [.ref 2, .int a1] s Q := by
  replace h : Q (fX11_proof s a1) s := h
  unfold rX11_proof at hr
  unfold fX11_proof at h
  refine bX11_proof a1 ?_
  refine ⟨fun c => ?_, fun c => ?_⟩
  · replace hr := hr c
    replace h := qln c h
    refine ⟨hr.1, ?_⟩
    replace hr := hr.2
    first | exact (gX11_proof  FU) a1 (((1 : Int32) <<< ((gI s 5 6) &&& 31)) - (1 : Int32)) (vX4_owedSurely s 31 5 a1 (((1 : Int32) <<< ((gI s 5 6) &&& 31)) - (1 : Int32))) (((1 : Int32) <<< ((gI s 5 6) &&& 31)) - (1 : Int32)) (0 : Int32) _ Q hr h | contradiction
  · replace h := qlp c h
    first | exact h | contradiction
set_option maxRecDepth 1000000 in
theorem bX11_write (a1 : Int32) (a2 : Int32) (a3 : Int32) (a4 : Int32) {s : SM} {Q : Int32 → SM → Prop} (h : (((vX6_hasDealers s 5 a1 a2 a4) = 0 → Q (-1 : Int32) s) ∧ (¬ (vX6_hasDealers s 5 a1 a2 a4) = 0 → ((a3 < (1 : Int32) → Q (-1 : Int32) s) ∧ (¬ a3 < (1 : Int32) → ((a3 ≤ (99 : Int32) → rX2_note s 31 5 ∧ rX4_tryWrite (mX2_note s 31 5) 31 5 a1 a2 a3 a4 ∧ (((vX4_tryWrite (mX2_note s 31 5) 31 5 a1 a2 a3 a4) = 0 → Q ((gI (mX2_keepNoted (mX4_tryWrite (mX2_note s 31 5) 31 5 a1 a2 a3 a4) ) 31 9) - (1 : Int32)) (mX2_keepNoted (mX4_tryWrite (mX2_note s 31 5) 31 5 a1 a2 a3 a4) )) ∧ (¬ (vX4_tryWrite (mX2_note s 31 5) 31 5 a1 a2 a3 a4) = 0 → Q ((-10 : Int32) - (vX4_tryWrite (mX2_note s 31 5) 31 5 a1 a2 a3 a4)) (mX4_tryWrite (mX2_note s 31 5) 31 5 a1 a2 a3 a4)))) ∧ (¬ a3 ≤ (99 : Int32) → Q (-1 : Int32) s))))))) : KI MX11_write 5 [.ref 2, .int a1, .int a2, .int a3, .int a4] s Q := by
  show BI MX11_write 5 0 [(0, .ref 2), (1, .int a1), (2, .int a2), (3, .int a3), (4, .int a4)] s Q
  refine JT_aload_n (q := 0) dX11_write_0 rfl rfl ?_
  refine JS_getR (x := 5) dX11_write_1 flX11_19 BS_2 (Nat.le_of_ble_eq_true rfl) (Nat.le_of_ble_eq_true rfl) (Or.inl ⟨_, ct_11_1⟩) RF_2_1 ?_
  refine JT_iload_n (q := 1) dX11_write_4 rfl rfl ?_
  refine JT_iload_n (q := 2) dX11_write_5 rfl rfl ?_
  refine JT_iload (q := 4) dX11_write_6 rfl ?_
  refine JS_callVI (M' := MX6_hasDealers) (d' := 1) (As := [.int a1, .int a2, .int a4]) (rest := []) (P := (fun zv9 wm9 => (vX6_hasDealers s 5 a1 a2 a4) = zv9 ∧ s = wm9)) dX11_write_8 cvX11_296 okX6_hasDealers rfl (Nat.le_of_ble_eq_true rfl) BS_5 (Nat.le_of_ble_eq_true rfl) (Nat.le_of_ble_eq_true rfl) hci_6 (Nat.le_of_ble_eq_true rfl) (Nat.le_of_ble_eq_true rfl) (pX6_hasDealers hp_5 (a1) (a2) (a4)  ⟨rfl, rfl⟩) (fun zv9 wm9 hq9 => ?_)
  obtain ⟨rfl, rfl⟩ := hq9
  refine JT_if_eq (tgt := 25) dX11_write_11 (by decide) (fun hc7 => ?_) (fun hc7 => ?_)
  · have h := h.1 hc7
    refine JT_iconst (v := -1) dX11_write_25 ic_m1 ?_
    exact JS_iret dX11_write_26 rfl rfl h
  · have h := h.2 hc7
    refine JT_iload_n (q := 3) dX11_write_14 rfl rfl ?_
    refine JT_iconst (v := 1) dX11_write_15 ic_1 ?_
    refine JT_icmp_lt (tgt := 25) dX11_write_16 (by decide) (fun hc6 => ?_) (fun hc6 => ?_)
    · have h := h.1 hc6
      refine JT_iconst (v := -1) dX11_write_25 ic_m1 ?_
      exact JS_iret dX11_write_26 rfl rfl h
    · have h := h.2 hc6
      refine JT_iload_n (q := 3) dX11_write_19 rfl rfl ?_
      refine JT_bipush (v := 99) dX11_write_20 bp_99 ?_
      refine JT_icmp_le (tgt := 27) dX11_write_22 (by decide) (fun hc5 => ?_) (fun hc5 => ?_)
      · have h := h.1 hc5
        refine JT_aload_n (q := 0) dX11_write_27 rfl rfl ?_
        refine JS_getR (x := 55) dX11_write_28 flX11_51 BS_2 (Nat.le_of_ble_eq_true rfl) (Nat.le_of_ble_eq_true rfl) (Or.inl ⟨_, ct_11_7⟩) RF_2_7 ?_
        refine JT_aload_n (q := 0) dX11_write_31 rfl rfl ?_
        refine JS_getR (x := 31) dX11_write_32 flX11_41 BS_2 (Nat.le_of_ble_eq_true rfl) (Nat.le_of_ble_eq_true rfl) (Or.inl ⟨_, ct_11_5⟩) RF_2_5 ?_
        obtain ⟨o4, h⟩ := h
        refine JS_callVV (M' := MX2_note) (d' := 2) (As := [.ref 31]) (rest := []) (P := (fun wm9 => (mX2_note s 31 5) = wm9)) dX11_write_35 cvX11_300 okX2_note rfl (Nat.le_of_ble_eq_true rfl) BS_55 (Nat.le_of_ble_eq_true rfl) (Nat.le_of_ble_eq_true rfl) hci_2 (Nat.le_of_ble_eq_true rfl) (Nat.le_of_ble_eq_true rfl) (pX2_note hL_31  o4 rfl) (fun wm9 hq9 => ?_)
        subst hq9
        refine JT_aload_n (q := 0) dX11_write_38 rfl rfl ?_
        refine JS_getR (x := 31) dX11_write_39 flX11_41 BS_2 (Nat.le_of_ble_eq_true rfl) (Nat.le_of_ble_eq_true rfl) (Or.inl ⟨_, ct_11_5⟩) RF_2_5 ?_
        refine JT_iload_n (q := 1) dX11_write_42 rfl rfl ?_
        refine JT_iload_n (q := 2) dX11_write_43 rfl rfl ?_
        refine JT_iload_n (q := 3) dX11_write_44 rfl rfl ?_
        refine JT_iload (q := 4) dX11_write_45 rfl ?_
        obtain ⟨o3, h⟩ := h
        refine JS_callVI (M' := MX4_tryWrite) (d' := 4) (As := [.int a1, .int a2, .int a3, .int a4]) (rest := []) (P := (fun zv9 wm9 => (vX4_tryWrite (mX2_note s 31 5) 31 5 a1 a2 a3 a4) = zv9 ∧ (mX4_tryWrite (mX2_note s 31 5) 31 5 a1 a2 a3 a4) = wm9)) dX11_write_47 cvX11_304 okX4_tryWrite rfl (Nat.le_of_ble_eq_true rfl) BS_31 (Nat.le_of_ble_eq_true rfl) (Nat.le_of_ble_eq_true rfl) hci_4 (Nat.le_of_ble_eq_true rfl) (Nat.le_of_ble_eq_true rfl) (pX4_tryWrite hL_31 (a1) (a2) (a3) (a4) o3 ⟨rfl, rfl⟩) (fun zv9 wm9 hq9 => ?_)
        obtain ⟨rfl, rfl⟩ := hq9
        refine JT_istore (lv' := [(5, .int (vX4_tryWrite (mX2_note s 31 5) 31 5 a1 a2 a3 a4)), (0, .ref 2), (1, .int a1), (2, .int a2), (3, .int a3), (4, .int a4)]) dX11_write_50 (Nat.le_of_ble_eq_true rfl) rfl ?_
        refine JT_iload (q := 0) dX11_write_52 rfl ?_
        refine JT_if_eq (tgt := 63) dX11_write_54 (by decide) (fun hc2 => ?_) (fun hc2 => ?_)
        · have h := h.1 hc2
          refine JT_aload_n (q := 1) dX11_write_63 rfl rfl ?_
          refine JS_getR (x := 55) dX11_write_64 flX11_51 BS_2 (Nat.le_of_ble_eq_true rfl) (Nat.le_of_ble_eq_true rfl) (Or.inl ⟨_, ct_11_7⟩) RF_2_7 ?_
          refine JS_callVV (M' := MX2_keepNoted) (d' := 1) (As := []) (rest := []) (P := (fun wm9 => (mX2_keepNoted (mX4_tryWrite (mX2_note s 31 5) 31 5 a1 a2 a3 a4) ) = wm9)) dX11_write_67 cvX11_308 okX2_keepNoted rfl (Nat.le_of_ble_eq_true rfl) BS_55 (Nat.le_of_ble_eq_true rfl) (Nat.le_of_ble_eq_true rfl) hci_2 (Nat.le_of_ble_eq_true rfl) (Nat.le_of_ble_eq_true rfl) (pX2_keepNoted    rfl) (fun wm9 hq9 => ?_)
          subst hq9
          refine JT_aload_n (q := 1) dX11_write_70 rfl rfl ?_
          refine JS_getR (x := 31) dX11_write_71 flX11_41 BS_2 (Nat.le_of_ble_eq_true rfl) (Nat.le_of_ble_eq_true rfl) (Or.inl ⟨_, ct_11_5⟩) RF_2_5 ?_
          refine JS_getI dX11_write_74 flX11_162 BS_31 (Nat.le_of_ble_eq_true rfl) (Nat.le_of_ble_eq_true rfl) (Or.inl ct_4_9) ?_
          refine JT_iconst (v := 1) dX11_write_77 ic_1 ?_
          refine JT_isub dX11_write_78 ?_
          exact JS_iret dX11_write_79 rfl rfl h
        · have h := h.2 hc2
          refine JT_bipush (v := -10) dX11_write_57 bp_m10 ?_
          refine JT_iload (q := 0) dX11_write_59 rfl ?_
          refine JT_isub dX11_write_61 ?_
          exact JS_iret dX11_write_62 rfl rfl h
      · have h := h.2 hc5
        refine JT_iconst (v := -1) dX11_write_25 ic_m1 ?_
        exact JS_iret dX11_write_26 rfl rfl h
set_option maxRecDepth 1000000 in
theorem pX11_write (a1 : Int32) (a2 : Int32) (a3 : Int32) (a4 : Int32) {s : SM} {Q : Int32 → SM → Prop} (hr : rX11_write s a1 a2 a3 a4) (h : Q (vX11_write s a1 a2 a3 a4) (mX11_write s a1 a2 a3 a4)) : KI MX11_write 5 [.ref 2, .int a1, .int a2, .int a3, .int a4] s Q := by
  refine bX11_write a1 a2 a3 a4 ?_
  unfold rX11_write at hr
  unfold vX11_write mX11_write at h
  refine ⟨fun c => ?_, fun c => ?_⟩
  · replace h := q2p c h
    first | exact h | contradiction
  · replace hr := hr c
    replace h := q2n c h
    refine ⟨fun c => ?_, fun c => ?_⟩
    · replace h := q2p c h
      first | exact h | contradiction
    · replace hr := hr c
      replace h := q2n c h
      refine ⟨fun c => ?_, fun c => ?_⟩
      · replace hr := hr c
        replace h := q2p c h
        refine ⟨hr.1, ?_⟩
        replace hr := hr.2
        refine ⟨hr, ?_⟩
        refine ⟨fun c => ?_, fun c => ?_⟩
        · replace h := q2p c h
          first | exact h | contradiction
        · replace h := q2n c h
          first | exact h | contradiction
      · replace h := q2n c h
        first | exact h | contradiction
