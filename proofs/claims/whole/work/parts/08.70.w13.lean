set_option maxRecDepth 1000000 in
theorem bX12_judge_23 (a1 : Int32) (a2 : Int32) {s : SM} {Q : Int32 → SM → Prop} (h : (((5 : Int32) ≤ a2 → BI MX12_judge 7 45 [(0, .ref 248), (1, .int a1), (2, .int (-1 : Int32)), (3, .int (0 : Int32))] s Q) ∧ (¬ (5 : Int32) ≤ a2 → vp_in a2 5 ∧ BI MX12_judge 7 23 [(0, .ref 248), (1, .int a1), (2, .int (a2 + 1))] (pI s 263 (a2).toNatClampNeg (0 : Int32)) Q))) : BI MX12_judge 7 23 [(0, .ref 248), (1, .int a1), (2, .int a2)] s Q := by
  refine JT_iload_n (q := 2) dX12_judge_23 rfl rfl ?_
  refine JT_iconst (v := 5) dX12_judge_24 ic_5 ?_
  refine JT_icmp_ge (tgt := 41) dX12_judge_25 (by decide) (fun hc2 => ?_) (fun hc2 => ?_)
  · have h := h.1 hc2
    refine JT_iconst (v := -1) dX12_judge_41 ic_m1 ?_
    refine JT_istore_n (lv' := [(2, .int (-1 : Int32)), (0, .ref 248), (1, .int a1)]) dX12_judge_42 rfl (Nat.le_of_ble_eq_true rfl) rfl ?_
    refine JT_iconst (v := 0) dX12_judge_43 ic_0 ?_
    refine JT_istore_n (lv' := [(3, .int (0 : Int32)), (2, .int (-1 : Int32)), (0, .ref 248), (1, .int a1)]) dX12_judge_44 rfl (Nat.le_of_ble_eq_true rfl) rfl ?_
    exact JT_sub [2, 3, 1, 0] rfl h
  · have h := h.2 hc2
    refine JT_aload_n (q := 0) dX12_judge_28 rfl rfl ?_
    refine JS_getR (x := 263) dX12_judge_29 flX12_74 BS_248 (Nat.le_of_ble_eq_true rfl) (Nat.le_of_ble_eq_true rfl) (Or.inr ⟨_, ct_12_37⟩) RF_248_37 ?_
    refine JT_iload_n (q := 2) dX12_judge_32 rfl rfl ?_
    refine JT_iconst (v := 0) dX12_judge_33 ic_0 ?_
    obtain ⟨o1, h⟩ := h
    refine JS_iast dX12_judge_34 BS_263 (Nat.le_of_ble_eq_true rfl) (Nat.le_of_ble_eq_true rfl) o1 ?_
    refine JT_iinc (q := 2) (v := (a2 + 1)) (lv' := [(2, .int (a2 + 1)), (0, .ref 248), (1, .int a1)]) dX12_judge_35 rfl (by rfl) (Nat.le_of_ble_eq_true rfl) rfl ?_
    refine JT_goto (tgt := 23) dX12_judge_38 (by decide) ?_
    exact JT_sub [1, 2, 0] rfl h
set_option maxRecDepth 1000000 in
theorem bX12_judge_45 (a1 : Int32) (a2 : Int32) (a3 : Int32) {s : SM} {Q : Int32 → SM → Prop} (h : (((gI s 250 ((586 : Int32)).toNatClampNeg) ≤ a3 → BI MX12_judge 7 108 [(0, .ref 248), (1, .int a1), (2, .int a2), (3, .int a3)] s Q) ∧ (¬ (gI s 250 ((586 : Int32)).toNatClampNeg) ≤ a3 → ((0 ≤ a2 → BI MX12_judge 7 108 [(0, .ref 248), (1, .int a1), (2, .int a2), (3, .int a3)] s Q) ∧ (¬ 0 ≤ a2 → rX12_does s ((587 : Int32) + ((5 : Int32) * a3)) ∧ (∀ s1, s1 = (pI (mX12_does s ((587 : Int32) + ((5 : Int32) * a3))) 263 ((0 : Int32)).toNatClampNeg (vX12_does s ((587 : Int32) + ((5 : Int32) * a3)))) → (((gI s1 263 ((0 : Int32)).toNatClampNeg) ≤ 0 → BI MX12_judge 7 45 [(0, .ref 248), (1, .int a1), (2, .int a2), (3, .int (a3 + 1))] (pI s1 263 ((1 : Int32)).toNatClampNeg ((gI s1 263 ((1 : Int32)).toNatClampNeg) + (1 : Int32))) Q) ∧ (¬ (gI s1 263 ((0 : Int32)).toNatClampNeg) ≤ 0 → BI MX12_judge 7 45 [(0, .ref 248), (1, .int a1), (2, .int a3), (3, .int (a3 + 1))] s1 Q)))))))) : BI MX12_judge 7 45 [(0, .ref 248), (1, .int a1), (2, .int a2), (3, .int a3)] s Q := by
  refine JT_iload_n (q := 3) dX12_judge_45 rfl rfl ?_
  refine JT_aload_n (q := 0) dX12_judge_46 rfl rfl ?_
  refine JS_getR (x := 250) dX12_judge_47 flX12_33 BS_248 (Nat.le_of_ble_eq_true rfl) (Nat.le_of_ble_eq_true rfl) (Or.inr ⟨_, ct_12_6⟩) RF_248_6 ?_
  refine JT_sipush (v := 586) dX12_judge_50 sp_586 ?_
  refine JS_iald dX12_judge_53 BS_250 (Nat.le_of_ble_eq_true rfl) (Nat.le_of_ble_eq_true rfl) (by unfold vp_in; decide) ?_
  refine JT_icmp_ge (tgt := 108) dX12_judge_54 (by decide) (fun hc5 => ?_) (fun hc5 => ?_)
  · have h := h.1 hc5
    exact JT_sub [0, 1, 2, 3] rfl h
  · have h := h.2 hc5
    refine JT_iload_n (q := 2) dX12_judge_57 rfl rfl ?_
    refine JT_if_ge (tgt := 108) dX12_judge_58 (by decide) (fun hc4 => ?_) (fun hc4 => ?_)
    · have h := h.1 hc4
      exact JT_sub [0, 1, 2, 3] rfl h
    · have h := h.2 hc4
      refine JT_aload_n (q := 0) dX12_judge_61 rfl rfl ?_
      refine JS_getR (x := 263) dX12_judge_62 flX12_74 BS_248 (Nat.le_of_ble_eq_true rfl) (Nat.le_of_ble_eq_true rfl) (Or.inr ⟨_, ct_12_37⟩) RF_248_37 ?_
      refine JT_iconst (v := 0) dX12_judge_65 ic_0 ?_
      refine JT_aload_n (q := 0) dX12_judge_66 rfl rfl ?_
      refine JT_sipush (v := 587) dX12_judge_67 sp_587 ?_
      refine JT_iconst (v := 5) dX12_judge_70 ic_5 ?_
      refine JT_iload_n (q := 3) dX12_judge_71 rfl rfl ?_
      refine JT_imul dX12_judge_72 ?_
      refine JT_iadd dX12_judge_73 ?_
      obtain ⟨o3, h⟩ := h
      refine JS_callVI (M' := MX12_does) (d' := 6) (As := [.int ((587 : Int32) + ((5 : Int32) * a3))]) (rest := [.int (0 : Int32), .ref 263]) (P := (fun zv9 wm9 => (vX12_does s ((587 : Int32) + ((5 : Int32) * a3))) = zv9 ∧ (mX12_does s ((587 : Int32) + ((5 : Int32) * a3))) = wm9)) dX12_judge_74 cvX12_407 okX12_does rfl (Nat.le_of_ble_eq_true rfl) BS_248 (Nat.le_of_ble_eq_true rfl) (Nat.le_of_ble_eq_true rfl) hci_12 (Nat.le_of_ble_eq_true rfl) (Nat.le_of_ble_eq_true rfl) (pX12_does  (((587 : Int32) + ((5 : Int32) * a3))) o3 ⟨rfl, rfl⟩) (fun zv9 wm9 hq9 => ?_)
      obtain ⟨rfl, rfl⟩ := hq9
      refine JS_iast dX12_judge_77 BS_263 (Nat.le_of_ble_eq_true rfl) (Nat.le_of_ble_eq_true rfl) (by unfold vp_in; decide) ?_
      obtain ⟨s1, hs1⟩ : ∃ z, z = (pI (mX12_does s ((587 : Int32) + ((5 : Int32) * a3))) 263 ((0 : Int32)).toNatClampNeg (vX12_does s ((587 : Int32) + ((5 : Int32) * a3)))) := ⟨_, rfl⟩
      replace h := h s1 hs1
      rw [← hs1]
      refine JT_aload_n (q := 0) dX12_judge_78 rfl rfl ?_
      refine JS_getR (x := 263) dX12_judge_79 flX12_74 BS_248 (Nat.le_of_ble_eq_true rfl) (Nat.le_of_ble_eq_true rfl) (Or.inr ⟨_, ct_12_37⟩) RF_248_37 ?_
      refine JT_iconst (v := 0) dX12_judge_82 ic_0 ?_
      refine JS_iald dX12_judge_83 BS_263 (Nat.le_of_ble_eq_true rfl) (Nat.le_of_ble_eq_true rfl) (by unfold vp_in; decide) ?_
      refine JT_if_le (tgt := 92) dX12_judge_84 (by decide) (fun hc2 => ?_) (fun hc2 => ?_)
      · have h := h.1 hc2
        refine JT_aload_n (q := 0) dX12_judge_92 rfl rfl ?_
        refine JS_getR (x := 263) dX12_judge_93 flX12_74 BS_248 (Nat.le_of_ble_eq_true rfl) (Nat.le_of_ble_eq_true rfl) (Or.inr ⟨_, ct_12_37⟩) RF_248_37 ?_
        refine JT_iconst (v := 1) dX12_judge_96 ic_1 ?_
        refine JT_dup2 dX12_judge_97 rfl rfl ?_
        refine JS_iald dX12_judge_98 BS_263 (Nat.le_of_ble_eq_true rfl) (Nat.le_of_ble_eq_true rfl) (by unfold vp_in; decide) ?_
        refine JT_iconst (v := 1) dX12_judge_99 ic_1 ?_
        refine JT_iadd dX12_judge_100 ?_
        refine JS_iast dX12_judge_101 BS_263 (Nat.le_of_ble_eq_true rfl) (Nat.le_of_ble_eq_true rfl) (by unfold vp_in; decide) ?_
        refine JT_iinc (q := 3) (v := (a3 + 1)) (lv' := [(3, .int (a3 + 1)), (0, .ref 248), (1, .int a1), (2, .int a2)]) dX12_judge_102 rfl (by rfl) (Nat.le_of_ble_eq_true rfl) rfl ?_
        refine JT_goto (tgt := 45) dX12_judge_105 (by decide) ?_
        exact JT_sub [1, 2, 3, 0] rfl h
      · have h := h.2 hc2
        refine JT_iload_n (q := 3) dX12_judge_87 rfl rfl ?_
        refine JT_istore_n (lv' := [(2, .int a3), (0, .ref 248), (1, .int a1), (3, .int a3)]) dX12_judge_88 rfl (Nat.le_of_ble_eq_true rfl) rfl ?_
        refine JT_goto (tgt := 102) dX12_judge_89 (by decide) ?_
        refine JT_iinc (q := 3) (v := (a3 + 1)) (lv' := [(3, .int (a3 + 1)), (2, .int a3), (0, .ref 248), (1, .int a1)]) dX12_judge_102 rfl (by rfl) (Nat.le_of_ble_eq_true rfl) rfl ?_
        refine JT_goto (tgt := 45) dX12_judge_105 (by decide) ?_
        exact JT_sub [2, 3, 1, 0] rfl h
set_option maxRecDepth 1000000 in
theorem bX12_judge_108 (a1 : Int32) (a2 : Int32) (a3 : Int32) {s : SM} {Q : Int32 → SM → Prop} (h : rX12_openMany s  ∧ BI MX12_judge 7 120 [(0, .ref 248), (1, .int a1), (2, .int a2), (3, .int (0 : Int32))] (pI s 263 ((2 : Int32)).toNatClampNeg (vX12_openMany s )) Q) : BI MX12_judge 7 108 [(0, .ref 248), (1, .int a1), (2, .int a2), (3, .int a3)] s Q := by
  refine JT_aload_n (q := 0) dX12_judge_108 rfl rfl ?_
  refine JS_getR (x := 263) dX12_judge_109 flX12_74 BS_248 (Nat.le_of_ble_eq_true rfl) (Nat.le_of_ble_eq_true rfl) (Or.inr ⟨_, ct_12_37⟩) RF_248_37 ?_
  refine JT_iconst (v := 2) dX12_judge_112 ic_2 ?_
  refine JT_aload_n (q := 0) dX12_judge_113 rfl rfl ?_
  obtain ⟨o1, h⟩ := h
  refine JS_callVI (M' := MX12_openMany) (d' := 3) (As := []) (rest := [.int (2 : Int32), .ref 263]) (P := (fun zv9 wm9 => (vX12_openMany s ) = zv9 ∧ s = wm9)) dX12_judge_114 cvX12_410 okX12_openMany rfl (Nat.le_of_ble_eq_true rfl) BS_248 (Nat.le_of_ble_eq_true rfl) (Nat.le_of_ble_eq_true rfl) hci_12 (Nat.le_of_ble_eq_true rfl) (Nat.le_of_ble_eq_true rfl) (pX12_openMany   o1 ⟨rfl, rfl⟩) (fun zv9 wm9 hq9 => ?_)
  obtain ⟨rfl, rfl⟩ := hq9
  refine JS_iast dX12_judge_117 BS_263 (Nat.le_of_ble_eq_true rfl) (Nat.le_of_ble_eq_true rfl) (by unfold vp_in; decide) ?_
  refine JT_iconst (v := 0) dX12_judge_118 ic_0 ?_
  refine JT_istore_n (lv' := [(3, .int (0 : Int32)), (0, .ref 248), (1, .int a1), (2, .int a2)]) dX12_judge_119 rfl (Nat.le_of_ble_eq_true rfl) rfl ?_
  exact JT_sub [1, 2, 3, 0] rfl h
set_option maxRecDepth 1000000 in
theorem bX12_judge_120 (a1 : Int32) (a2 : Int32) (a3 : Int32) {s : SM} {Q : Int32 → SM → Prop} (h : (((gI s 250 ((0 : Int32)).toNatClampNeg) ≤ a3 → ((¬ a1 = 0 → (((gI (pI (pI s 263 ((4 : Int32)).toNatClampNeg (gI s 250 ((35 : Int32)).toNatClampNeg)) 248 38 (1 : Int32)) 263 ((1 : Int32)).toNatClampNeg) ≤ 0 → Q a2 (pI (pI s 263 ((4 : Int32)).toNatClampNeg (gI s 250 ((35 : Int32)).toNatClampNeg)) 248 38 (1 : Int32))) ∧ (¬ (gI (pI (pI s 263 ((4 : Int32)).toNatClampNeg (gI s 250 ((35 : Int32)).toNatClampNeg)) 248 38 (1 : Int32)) 263 ((1 : Int32)).toNatClampNeg) ≤ 0 → rX12_keepsBefore (pI (pI s 263 ((4 : Int32)).toNatClampNeg (gI s 250 ((35 : Int32)).toNatClampNeg)) 248 38 (1 : Int32))  ∧ (∀ s1, s1 = (mX12_keepsBefore (pI (pI s 263 ((4 : Int32)).toNatClampNeg (gI s 250 ((35 : Int32)).toNatClampNeg)) 248 38 (1 : Int32)) ) → Q a2 s1)))) ∧ (a1 = 0 → rX12_backAll (pI (pI s 263 ((4 : Int32)).toNatClampNeg (gI s 250 ((35 : Int32)).toNatClampNeg)) 248 38 (1 : Int32))  ∧ Q a2 (mX12_backAll (pI (pI s 263 ((4 : Int32)).toNatClampNeg (gI s 250 ((35 : Int32)).toNatClampNeg)) 248 38 (1 : Int32)) )))) ∧ (¬ (gI s 250 ((0 : Int32)).toNatClampNeg) ≤ a3 → (((vX12_isLiving s a3) = 0 → BI MX12_judge 7 120 [(0, .ref 248), (1, .int a1), (2, .int a2), (3, .int (a3 + 1))] (pI s 263 ((3 : Int32)).toNatClampNeg ((gI s 263 ((3 : Int32)).toNatClampNeg) + (0 : Int32))) Q) ∧ (¬ (vX12_isLiving s a3) = 0 → rX12_leftOf s a3 ∧ BI MX12_judge 7 120 [(0, .ref 248), (1, .int a1), (2, .int a2), (3, .int (a3 + 1))] (pI s 263 ((3 : Int32)).toNatClampNeg ((gI s 263 ((3 : Int32)).toNatClampNeg) + (vX12_leftOf s a3))) Q))))) : BI MX12_judge 7 120 [(0, .ref 248), (1, .int a1), (2, .int a2), (3, .int a3)] s Q := by
  refine JT_iload_n (q := 3) dX12_judge_120 rfl rfl ?_
  refine JT_aload_n (q := 0) dX12_judge_121 rfl rfl ?_
  refine JS_getR (x := 250) dX12_judge_122 flX12_33 BS_248 (Nat.le_of_ble_eq_true rfl) (Nat.le_of_ble_eq_true rfl) (Or.inr ⟨_, ct_12_6⟩) RF_248_6 ?_
  refine JT_iconst (v := 0) dX12_judge_125 ic_0 ?_
  refine JS_iald dX12_judge_126 BS_250 (Nat.le_of_ble_eq_true rfl) (Nat.le_of_ble_eq_true rfl) (by unfold vp_in; decide) ?_
  refine JT_icmp_ge (tgt := 162) dX12_judge_127 (by decide) (fun hc9 => ?_) (fun hc9 => ?_)
  · have h := h.1 hc9
    refine JT_aload_n (q := 0) dX12_judge_162 rfl rfl ?_
    refine JS_getR (x := 263) dX12_judge_163 flX12_74 BS_248 (Nat.le_of_ble_eq_true rfl) (Nat.le_of_ble_eq_true rfl) (Or.inr ⟨_, ct_12_37⟩) RF_248_37 ?_
    refine JT_iconst (v := 4) dX12_judge_166 ic_4 ?_
    refine JT_aload_n (q := 0) dX12_judge_167 rfl rfl ?_
    refine JS_getR (x := 250) dX12_judge_168 flX12_33 BS_248 (Nat.le_of_ble_eq_true rfl) (Nat.le_of_ble_eq_true rfl) (Or.inr ⟨_, ct_12_6⟩) RF_248_6 ?_
    refine JT_bipush (v := 35) dX12_judge_171 bp_35 ?_
    refine JS_iald dX12_judge_173 BS_250 (Nat.le_of_ble_eq_true rfl) (Nat.le_of_ble_eq_true rfl) (by unfold vp_in; decide) ?_
    refine JS_iast dX12_judge_174 BS_263 (Nat.le_of_ble_eq_true rfl) (Nat.le_of_ble_eq_true rfl) (by unfold vp_in; decide) ?_
    refine JT_aload_n (q := 0) dX12_judge_175 rfl rfl ?_
    refine JT_iconst (v := 1) dX12_judge_176 ic_1 ?_
    refine JS_putZ dX12_judge_177 flX12_413 BS_248 (Nat.le_of_ble_eq_true rfl) (Nat.le_of_ble_eq_true rfl) ct_12_38 (Or.inr rfl) ?_
    refine JT_iload_n (q := 1) dX12_judge_180 rfl rfl ?_
    refine JT_if_ne (tgt := 191) dX12_judge_181 (by decide) (fun hc5 => ?_) (fun hc5 => ?_)
    · have h := h.1 hc5
      refine JT_aload_n (q := 0) dX12_judge_191 rfl rfl ?_
      refine JS_getR (x := 263) dX12_judge_192 flX12_74 BS_248 (Nat.le_of_ble_eq_true rfl) (Nat.le_of_ble_eq_true rfl) (Or.inr ⟨_, ct_12_37⟩) RF_248_37 ?_
      refine JT_iconst (v := 1) dX12_judge_195 ic_1 ?_
      refine JS_iald dX12_judge_196 BS_263 (Nat.le_of_ble_eq_true rfl) (Nat.le_of_ble_eq_true rfl) (by unfold vp_in; decide) ?_
      refine JT_if_le (tgt := 204) dX12_judge_197 (by decide) (fun hc3 => ?_) (fun hc3 => ?_)
      · have h := h.1 hc3
        refine JT_iload_n (q := 2) dX12_judge_204 rfl rfl ?_
        exact JS_iret dX12_judge_205 rfl rfl h
      · have h := h.2 hc3
        refine JT_aload_n (q := 0) dX12_judge_200 rfl rfl ?_
        obtain ⟨o2, h⟩ := h
        refine JS_callVV (M' := MX12_keepsBefore) (d' := 1) (As := []) (rest := []) (P := (fun wm9 => (mX12_keepsBefore (pI (pI s 263 ((4 : Int32)).toNatClampNeg (gI s 250 ((35 : Int32)).toNatClampNeg)) 248 38 (1 : Int32)) ) = wm9)) dX12_judge_201 cvX12_416 okX12_keepsBefore rfl (Nat.le_of_ble_eq_true rfl) BS_248 (Nat.le_of_ble_eq_true rfl) (Nat.le_of_ble_eq_true rfl) hci_12 (Nat.le_of_ble_eq_true rfl) (Nat.le_of_ble_eq_true rfl) (pX12_keepsBefore   o2 rfl) (fun wm9 hq9 => ?_)
        subst hq9
        obtain ⟨s1, hs1⟩ : ∃ z, z = (mX12_keepsBefore (pI (pI s 263 ((4 : Int32)).toNatClampNeg (gI s 250 ((35 : Int32)).toNatClampNeg)) 248 38 (1 : Int32)) ) := ⟨_, rfl⟩
        replace h := h s1 hs1
        rw [← hs1]
        refine JT_iload_n (q := 2) dX12_judge_204 rfl rfl ?_
        exact JS_iret dX12_judge_205 rfl rfl h
    · have h := h.2 hc5
      refine JT_aload_n (q := 0) dX12_judge_184 rfl rfl ?_
      obtain ⟨o4, h⟩ := h
      refine JS_callVV (M' := MX12_backAll) (d' := 0) (As := []) (rest := []) (P := (fun wm9 => (mX12_backAll (pI (pI s 263 ((4 : Int32)).toNatClampNeg (gI s 250 ((35 : Int32)).toNatClampNeg)) 248 38 (1 : Int32)) ) = wm9)) dX12_judge_185 cvX12_383 okX12_backAll rfl (Nat.le_of_ble_eq_true rfl) BS_248 (Nat.le_of_ble_eq_true rfl) (Nat.le_of_ble_eq_true rfl) hci_12 (Nat.le_of_ble_eq_true rfl) (Nat.le_of_ble_eq_true rfl) (pX12_backAll   o4 rfl) (fun wm9 hq9 => ?_)
      subst hq9
      refine JT_goto (tgt := 204) dX12_judge_188 (by decide) ?_
      refine JT_iload_n (q := 2) dX12_judge_204 rfl rfl ?_
      exact JS_iret dX12_judge_205 rfl rfl h
  · have h := h.2 hc9
    refine JT_aload_n (q := 0) dX12_judge_130 rfl rfl ?_
    refine JS_getR (x := 263) dX12_judge_131 flX12_74 BS_248 (Nat.le_of_ble_eq_true rfl) (Nat.le_of_ble_eq_true rfl) (Or.inr ⟨_, ct_12_37⟩) RF_248_37 ?_
    refine JT_iconst (v := 3) dX12_judge_134 ic_3 ?_
    refine JT_dup2 dX12_judge_135 rfl rfl ?_
    refine JS_iald dX12_judge_136 BS_263 (Nat.le_of_ble_eq_true rfl) (Nat.le_of_ble_eq_true rfl) (by unfold vp_in; decide) ?_
    refine JT_aload_n (q := 0) dX12_judge_137 rfl rfl ?_
    refine JT_iload_n (q := 3) dX12_judge_138 rfl rfl ?_
    refine JS_callVI (M' := MX12_isLiving) (d' := 1) (As := [.int a3]) (rest := [.int (gI s 263 ((3 : Int32)).toNatClampNeg), .int (3 : Int32), .ref 263]) (P := (fun zv9 wm9 => (vX12_isLiving s a3) = zv9 ∧ s = wm9)) dX12_judge_139 cvX12_294 okX12_isLiving rfl (Nat.le_of_ble_eq_true rfl) BS_248 (Nat.le_of_ble_eq_true rfl) (Nat.le_of_ble_eq_true rfl) hci_12 (Nat.le_of_ble_eq_true rfl) (Nat.le_of_ble_eq_true rfl) (pX12_isLiving  (a3)  ⟨rfl, rfl⟩) (fun zv9 wm9 hq9 => ?_)
    obtain ⟨rfl, rfl⟩ := hq9
    refine JT_if_eq (tgt := 153) dX12_judge_142 (by decide) (fun hc7 => ?_) (fun hc7 => ?_)
    · have h := h.1 hc7
      refine JT_iconst (v := 0) dX12_judge_153 ic_0 ?_
      refine JT_iadd dX12_judge_154 ?_
      refine JS_iast dX12_judge_155 BS_263 (Nat.le_of_ble_eq_true rfl) (Nat.le_of_ble_eq_true rfl) (by unfold vp_in; decide) ?_
      refine JT_iinc (q := 3) (v := (a3 + 1)) (lv' := [(3, .int (a3 + 1)), (0, .ref 248), (1, .int a1), (2, .int a2)]) dX12_judge_156 rfl (by rfl) (Nat.le_of_ble_eq_true rfl) rfl ?_
      refine JT_goto (tgt := 120) dX12_judge_159 (by decide) ?_
      exact JT_sub [1, 2, 3, 0] rfl h
    · have h := h.2 hc7
      refine JT_aload_n (q := 0) dX12_judge_145 rfl rfl ?_
      refine JT_iload_n (q := 3) dX12_judge_146 rfl rfl ?_
      obtain ⟨o6, h⟩ := h
      refine JS_callVI (M' := MX12_leftOf) (d' := 2) (As := [.int a3]) (rest := [.int (gI s 263 ((3 : Int32)).toNatClampNeg), .int (3 : Int32), .ref 263]) (P := (fun zv9 wm9 => (vX12_leftOf s a3) = zv9 ∧ s = wm9)) dX12_judge_147 cvX12_297 okX12_leftOf rfl (Nat.le_of_ble_eq_true rfl) BS_248 (Nat.le_of_ble_eq_true rfl) (Nat.le_of_ble_eq_true rfl) hci_12 (Nat.le_of_ble_eq_true rfl) (Nat.le_of_ble_eq_true rfl) (pX12_leftOf  (a3) o6 ⟨rfl, rfl⟩) (fun zv9 wm9 hq9 => ?_)
      obtain ⟨rfl, rfl⟩ := hq9
      refine JT_goto (tgt := 154) dX12_judge_150 (by decide) ?_
      refine JT_iadd dX12_judge_154 ?_
      refine JS_iast dX12_judge_155 BS_263 (Nat.le_of_ble_eq_true rfl) (Nat.le_of_ble_eq_true rfl) (by unfold vp_in; decide) ?_
      refine JT_iinc (q := 3) (v := (a3 + 1)) (lv' := [(3, .int (a3 + 1)), (0, .ref 248), (1, .int a1), (2, .int a2)]) dX12_judge_156 rfl (by rfl) (Nat.le_of_ble_eq_true rfl) rfl ?_
      refine JT_goto (tgt := 120) dX12_judge_159 (by decide) ?_
      exact JT_sub [1, 2, 3, 0] rfl h
set_option maxRecDepth 1000000 in
theorem bX12_judge (a1 : Int32) {s : SM} {Q : Int32 → SM → Prop} (h : ((¬ (vX12_isIn (pI s 248 0 (0 : Int32)) a1 (0 : Int32) (1 : Int32)) = 0 → rX12_keepsAll (pI s 248 0 (0 : Int32))  ∧ BI MX12_judge 7 23 [(0, .ref 248), (1, .int a1), (2, .int (0 : Int32))] (mX12_keepsAll (pI s 248 0 (0 : Int32)) ) Q) ∧ ((vX12_isIn (pI s 248 0 (0 : Int32)) a1 (0 : Int32) (1 : Int32)) = 0 → Q (-2 : Int32) (pI s 248 0 (0 : Int32))))) : KI MX12_judge 7 [.ref 248, .int a1] s Q := by
  show BI MX12_judge 7 0 [(0, .ref 248), (1, .int a1)] s Q
  refine JT_aload_n (q := 0) dX12_judge_0 rfl rfl ?_
  refine JT_iconst (v := 0) dX12_judge_1 ic_0 ?_
  refine JS_putI dX12_judge_2 flX12_1 BS_248 (Nat.le_of_ble_eq_true rfl) (Nat.le_of_ble_eq_true rfl) ct_12_0 ?_
  refine JT_iload_n (q := 1) dX12_judge_5 rfl rfl ?_
  refine JT_iconst (v := 0) dX12_judge_6 ic_0 ?_
  refine JT_iconst (v := 1) dX12_judge_7 ic_1 ?_
  refine JS_callSI (M' := MX12_isIn) (d' := 0) (As := [.int a1, .int (0 : Int32), .int (1 : Int32)]) (rest := []) (P := (fun zv9 wm9 => (vX12_isIn (pI s 248 0 (0 : Int32)) a1 (0 : Int32) (1 : Int32)) = zv9 ∧ (pI s 248 0 (0 : Int32)) = wm9)) dX12_judge_8 cvX12_202 okX12_isIn rfl (Nat.le_of_ble_eq_true rfl) (Nat.le_of_ble_eq_true rfl) (Nat.le_of_ble_eq_true rfl) (pX12_isIn  (a1) ((0 : Int32)) ((1 : Int32))  ⟨rfl, rfl⟩) (fun zv9 wm9 hq9 => ?_)
  obtain ⟨rfl, rfl⟩ := hq9
  refine JT_if_ne (tgt := 17) dX12_judge_11 (by decide) (fun hc2 => ?_) (fun hc2 => ?_)
  · have h := h.1 hc2
    refine JT_aload_n (q := 0) dX12_judge_17 rfl rfl ?_
    obtain ⟨o1, h⟩ := h
    refine JS_callVV (M' := MX12_keepsAll) (d' := 0) (As := []) (rest := []) (P := (fun wm9 => (mX12_keepsAll (pI s 248 0 (0 : Int32)) ) = wm9)) dX12_judge_18 cvX12_380 okX12_keepsAll rfl (Nat.le_of_ble_eq_true rfl) BS_248 (Nat.le_of_ble_eq_true rfl) (Nat.le_of_ble_eq_true rfl) hci_12 (Nat.le_of_ble_eq_true rfl) (Nat.le_of_ble_eq_true rfl) (pX12_keepsAll   o1 rfl) (fun wm9 hq9 => ?_)
    subst hq9
    refine JT_iconst (v := 0) dX12_judge_21 ic_0 ?_
    refine JT_istore_n (lv' := [(2, .int (0 : Int32)), (0, .ref 248), (1, .int a1)]) dX12_judge_22 rfl (Nat.le_of_ble_eq_true rfl) rfl ?_
    exact JT_sub [1, 2, 0] rfl h
  · have h := h.2 hc2
    refine JT_bipush (v := -2) dX12_judge_14 bp_m2 ?_
    exact JS_iret dX12_judge_16 rfl rfl h
set_option maxRecDepth 1000000 in
theorem gX12_judge  : ∀ n : Nat, (∀ (a1 : Int32) (a2 : Int32) (s : SM) (Q : Int32 → SM → Prop), ((qX12_judge n).1 s a1 a2) → Q ((lX12_judge n).1 s a1 a2).1 ((lX12_judge n).1 s a1 a2).2 → BI MX12_judge 7 23 [(0, .ref 248), (1, .int a1), (2, .int a2)] s Q) ∧ (∀ (a1 : Int32) (a2 : Int32) (a3 : Int32) (s : SM) (Q : Int32 → SM → Prop), ((qX12_judge n).2.1 s a1 a2 a3) → Q ((lX12_judge n).2.1 s a1 a2 a3).1 ((lX12_judge n).2.1 s a1 a2 a3).2 → BI MX12_judge 7 45 [(0, .ref 248), (1, .int a1), (2, .int a2), (3, .int a3)] s Q) ∧ (∀ (a1 : Int32) (a2 : Int32) (a3 : Int32) (s : SM) (Q : Int32 → SM → Prop), ((qX12_judge n).2.2.1 s a1 a2 a3) → Q ((lX12_judge n).2.2.1 s a1 a2 a3).1 ((lX12_judge n).2.2.1 s a1 a2 a3).2 → BI MX12_judge 7 108 [(0, .ref 248), (1, .int a1), (2, .int a2), (3, .int a3)] s Q) ∧ (∀ (a1 : Int32) (a2 : Int32) (a3 : Int32) (s : SM) (Q : Int32 → SM → Prop), ((qX12_judge n).2.2.2 s a1 a2 a3) → Q ((lX12_judge n).2.2.2 s a1 a2 a3).1 ((lX12_judge n).2.2.2 s a1 a2 a3).2 → BI MX12_judge 7 120 [(0, .ref 248), (1, .int a1), (2, .int a2), (3, .int a3)] s Q) := by
  intro n
  induction n with
  | zero => exact ⟨fun _ _ _ _ hq _ => absurd hq id, fun _ _ _ _ _ hq _ => absurd hq id, fun _ _ _ _ _ hq _ => absurd hq id, fun _ _ _ _ _ hq _ => absurd hq id⟩
  | succ n ih =>
    refine ⟨?_, ?_, ?_, ?_⟩
    · intro a1 a2 s Q hr h
      replace hr : uX12_judge_23 (qX12_judge n) s a1 a2 := hr
      replace h : Q (tX12_judge_23 (lX12_judge n) s a1 a2).1 (tX12_judge_23 (lX12_judge n) s a1 a2).2 := h
      unfold uX12_judge_23 at hr
      unfold tX12_judge_23 at h
      refine bX12_judge_23 a1 a2 ?_
      refine ⟨fun c => ?_, fun c => ?_⟩
      · replace hr := hr.1 c
        replace h := q3p c h
        first | exact ih.2.1 a1 (-1 : Int32) (0 : Int32) _ Q hr h | contradiction
      · replace hr := hr.2 c
        replace h := q3n c h
        refine ⟨hr.1, ?_⟩
        replace hr := hr.2
        first | exact ih.1 a1 (a2 + 1) _ Q hr h | contradiction
    · intro a1 a2 a3 s Q hr h
      replace hr : uX12_judge_45 (qX12_judge n) s a1 a2 a3 := hr
      replace h : Q (tX12_judge_45 (lX12_judge n) s a1 a2 a3).1 (tX12_judge_45 (lX12_judge n) s a1 a2 a3).2 := h
      unfold uX12_judge_45 at hr
      unfold tX12_judge_45 at h
      refine bX12_judge_45 a1 a2 a3 ?_
      refine ⟨fun c => ?_, fun c => ?_⟩
      · replace hr := hr.1 c
        replace h := q3p c h
        first | exact ih.2.2.1 a1 a2 a3 _ Q hr h | contradiction
      · replace hr := hr.2 c
        replace h := q3n c h
        refine ⟨fun c => ?_, fun c => ?_⟩
        · replace hr := hr.1 c
          replace h := q3p c h
          first | exact ih.2.2.1 a1 a2 a3 _ Q hr h | contradiction
        · replace hr := hr.2 c
          replace h := q3n c h
          refine ⟨hr.1, ?_⟩
          replace hr := hr.2
          intro s1 e9
          replace hr := hr s1 e9
          try rw [← e9] at h
          try dsimp only at h
          refine ⟨fun c => ?_, fun c => ?_⟩
          · replace hr := hr.1 c
            replace h := q3p c h
            first | exact ih.2.1 a1 a2 (a3 + 1) _ Q hr h | contradiction
          · replace hr := hr.2 c
            replace h := q3n c h
            first | exact ih.2.1 a1 a3 (a3 + 1) _ Q hr h | contradiction
    · intro a1 a2 a3 s Q hr h
      replace hr : uX12_judge_108 (qX12_judge n) s a1 a2 a3 := hr
      replace h : Q (tX12_judge_108 (lX12_judge n) s a1 a2 a3).1 (tX12_judge_108 (lX12_judge n) s a1 a2 a3).2 := h
      unfold uX12_judge_108 at hr
      unfold tX12_judge_108 at h
      refine bX12_judge_108 a1 a2 a3 ?_
      refine ⟨hr.1, ?_⟩
      replace hr := hr.2
      first | exact ih.2.2.2 a1 a2 (0 : Int32) _ Q hr h | contradiction
    · intro a1 a2 a3 s Q hr h
      replace hr : uX12_judge_120 (qX12_judge n) s a1 a2 a3 := hr
      replace h : Q (tX12_judge_120 (lX12_judge n) s a1 a2 a3).1 (tX12_judge_120 (lX12_judge n) s a1 a2 a3).2 := h
      unfold uX12_judge_120 at hr
      unfold tX12_judge_120 at h
      refine bX12_judge_120 a1 a2 a3 ?_
      refine ⟨fun c => ?_, fun c => ?_⟩
      · replace hr := hr.1 c
        replace h := q3p c h
        refine ⟨fun c => ?_, fun c => ?_⟩
        · replace hr := hr.1 c
          replace h := q3n c h
          refine ⟨fun c => ?_, fun c => ?_⟩
          · replace h := q3p c h
            first | exact h | contradiction
          · replace hr := hr c
            replace h := q3n c h
            refine ⟨hr, ?_⟩
            intro s1 e9
            try rw [← e9] at h
            try dsimp only at h
            first | exact h | contradiction
        · replace hr := hr.2 c
          replace h := q3p c h
          refine ⟨hr, ?_⟩
          first | exact h | contradiction
      · replace hr := hr.2 c
        replace h := q3n c h
        refine ⟨fun c => ?_, fun c => ?_⟩
        · replace hr := hr.1 c
          replace h := q3p c h
          first | exact ih.2.2.2 a1 a2 (a3 + 1) _ Q hr h | contradiction
        · replace hr := hr.2 c
          replace h := q3n c h
          refine ⟨hr.1, ?_⟩
          replace hr := hr.2
          first | exact ih.2.2.2 a1 a2 (a3 + 1) _ Q hr h | contradiction
set_option maxRecDepth 1000000 in
theorem pX12_judge (a1 : Int32) {s : SM} {Q : Int32 → SM → Prop} (hr : rX12_judge s a1) (h : Q (vX12_judge s a1) (mX12_judge s a1)) : KI MX12_judge 7 [.ref 248, .int a1] s Q := by
  replace h : Q (fX12_judge s a1).1 (fX12_judge s a1).2 := h
  unfold rX12_judge at hr
  unfold fX12_judge at h
  refine bX12_judge a1 ?_
  refine ⟨fun c => ?_, fun c => ?_⟩
  · replace hr := hr c
    replace h := q3n c h
    refine ⟨hr.1, ?_⟩
    replace hr := hr.2
    first | exact (gX12_judge  FU).1 a1 (0 : Int32) _ Q hr h | contradiction
  · replace h := q3p c h
    first | exact h | contradiction
set_option maxRecDepth 1000000 in
theorem bX1_tryFrom_93 {e : Nat} (a1 : Int32) (a2 : Int32) (a3 : Int32) (a4 : Int32) (a5 : Int32) (a6 : Int32) {s : SM} {Q : SM → Prop} (h : vp_in a2 9 ∧ ((¬ (gI s 239 (a2).toNatClampNeg) = a1 → vp_in a3 9 ∧ rX1_aboutSum s a4 (-(gI s 238 (a3).toNatClampNeg)) ∧ BV MX1_tryFrom (e + 4) 148 [(0, .ref 233), (1, .int a1), (2, .int a2), (3, .int a3), (4, .int a4), (5, .int (vX1_aboutSum s a4 (-(gI s 238 (a3).toNatClampNeg)))), (6, .int (if ((vX1_aboutSum s a4 (-(gI s 238 (a3).toNatClampNeg))) + (1 : Int32)) < (gI s 233 8) then ((vX1_aboutSum s a4 (-(gI s 238 (a3).toNatClampNeg))) + (1 : Int32)) else (gI s 233 8))), (7, .int (if (1 : Int32) < (vX1_aboutSum s a4 (-(gI s 238 (a3).toNatClampNeg))) then (vX1_aboutSum s a4 (-(gI s 238 (a3).toNatClampNeg))) else (1 : Int32)))] s Q) ∧ ((gI s 239 (a2).toNatClampNeg) = a1 → vp_in a2 9 ∧ rX1_aboutSum s a4 (gI s 238 (a2).toNatClampNeg) ∧ BV MX1_tryFrom (e + 4) 148 [(0, .ref 233), (1, .int a1), (2, .int a2), (3, .int a3), (4, .int a4), (5, .int (vX1_aboutSum s a4 (gI s 238 (a2).toNatClampNeg))), (6, .int (if ((vX1_aboutSum s a4 (gI s 238 (a2).toNatClampNeg)) + (1 : Int32)) < (gI s 233 8) then ((vX1_aboutSum s a4 (gI s 238 (a2).toNatClampNeg)) + (1 : Int32)) else (gI s 233 8))), (7, .int (if (1 : Int32) < (vX1_aboutSum s a4 (gI s 238 (a2).toNatClampNeg)) then (vX1_aboutSum s a4 (gI s 238 (a2).toNatClampNeg)) else (1 : Int32)))] s Q))) : BV MX1_tryFrom (e + 4) 93 [(0, .ref 233), (1, .int a1), (2, .int a2), (3, .int a3), (4, .int a4), (5, .int a5), (6, .int a6)] s Q := by
  refine JT_aload_n (q := 0) dX1_tryFrom_93 rfl rfl ?_
  refine JT_iload (q := 4) dX1_tryFrom_94 rfl ?_
  refine JT_aload_n (q := 0) dX1_tryFrom_96 rfl rfl ?_
  refine JS_getR (x := 239) dX1_tryFrom_97 flX1_27 BS_233 (Nat.le_of_ble_eq_true rfl) (Nat.le_of_ble_eq_true rfl) (Or.inr ⟨_, ct_1_5⟩) RF_233_5 ?_
  refine JT_iload_n (q := 2) dX1_tryFrom_100 rfl rfl ?_
  obtain ⟨o1, h⟩ := h
  refine JS_iald dX1_tryFrom_101 BS_239 (Nat.le_of_ble_eq_true rfl) (Nat.le_of_ble_eq_true rfl) o1 ?_
  refine JT_iload_n (q := 1) dX1_tryFrom_102 rfl rfl ?_
  refine JT_icmp_ne (tgt := 115) dX1_tryFrom_103 (by decide) (fun hc6 => ?_) (fun hc6 => ?_)
  · have h := h.1 hc6
    refine JT_aload_n (q := 0) dX1_tryFrom_115 rfl rfl ?_
    refine JS_getR (x := 238) dX1_tryFrom_116 flX1_24 BS_233 (Nat.le_of_ble_eq_true rfl) (Nat.le_of_ble_eq_true rfl) (Or.inr ⟨_, ct_1_4⟩) RF_233_4 ?_
    refine JT_iload_n (q := 3) dX1_tryFrom_119 rfl rfl ?_
    obtain ⟨o2, h⟩ := h
    refine JS_iald dX1_tryFrom_120 BS_238 (Nat.le_of_ble_eq_true rfl) (Nat.le_of_ble_eq_true rfl) o2 ?_
    refine JT_ineg dX1_tryFrom_121 ?_
    obtain ⟨o3, h⟩ := h
    refine JS_callVI (M' := MX1_aboutSum) (d' := 0) (As := [.int a4, .int (-(gI s 238 (a3).toNatClampNeg))]) (rest := []) (P := (fun zv9 wm9 => (vX1_aboutSum s a4 (-(gI s 238 (a3).toNatClampNeg))) = zv9 ∧ s = wm9)) dX1_tryFrom_122 cvX1_112 okX1_aboutSum rfl (Nat.le_of_ble_eq_true rfl) BS_233 (Nat.le_of_ble_eq_true rfl) (Nat.le_of_ble_eq_true rfl) hci_1 (Nat.le_of_ble_eq_true rfl) (by show 0 + 1 ≤ e + 4; omega) (pX1_aboutSum  (a4) ((-(gI s 238 (a3).toNatClampNeg))) o3 ⟨rfl, rfl⟩) (fun zv9 wm9 hq9 => ?_)
    obtain ⟨rfl, rfl⟩ := hq9
    refine JT_istore (lv' := [(5, .int (vX1_aboutSum s a4 (-(gI s 238 (a3).toNatClampNeg)))), (0, .ref 233), (1, .int a1), (2, .int a2), (3, .int a3), (4, .int a4), (6, .int a6)]) dX1_tryFrom_125 (Nat.le_of_ble_eq_true rfl) rfl ?_
    refine JT_aload_n (q := 1) dX1_tryFrom_127 rfl rfl ?_
    refine JS_getI dX1_tryFrom_128 flX1_93 BS_233 (Nat.le_of_ble_eq_true rfl) (Nat.le_of_ble_eq_true rfl) (Or.inl ct_1_8) ?_
    refine JT_iload (q := 0) dX1_tryFrom_131 rfl ?_
    refine JT_iconst (v := 1) dX1_tryFrom_133 ic_1 ?_
    refine JT_iadd dX1_tryFrom_134 ?_
    refine JT_mmin (d2 := e + 3) dX1_tryFrom_135 mlX1_115 (Nat.le_of_ble_eq_true rfl) rfl ?_
    refine JT_istore (lv' := [(6, .int (if ((vX1_aboutSum s a4 (-(gI s 238 (a3).toNatClampNeg))) + (1 : Int32)) < (gI s 233 8) then ((vX1_aboutSum s a4 (-(gI s 238 (a3).toNatClampNeg))) + (1 : Int32)) else (gI s 233 8))), (5, .int (vX1_aboutSum s a4 (-(gI s 238 (a3).toNatClampNeg)))), (0, .ref 233), (1, .int a1), (2, .int a2), (3, .int a3), (4, .int a4)]) dX1_tryFrom_138 (Nat.le_of_ble_eq_true rfl) rfl ?_
    refine JT_iconst (v := 1) dX1_tryFrom_140 ic_1 ?_
    refine JT_iload (q := 1) dX1_tryFrom_141 rfl ?_
    refine JT_mmax (d2 := e + 3) dX1_tryFrom_143 mlX1_120 (Nat.le_of_ble_eq_true rfl) rfl ?_
    refine JT_istore (lv' := [(7, .int (if (1 : Int32) < (vX1_aboutSum s a4 (-(gI s 238 (a3).toNatClampNeg))) then (vX1_aboutSum s a4 (-(gI s 238 (a3).toNatClampNeg))) else (1 : Int32))), (6, .int (if ((vX1_aboutSum s a4 (-(gI s 238 (a3).toNatClampNeg))) + (1 : Int32)) < (gI s 233 8) then ((vX1_aboutSum s a4 (-(gI s 238 (a3).toNatClampNeg))) + (1 : Int32)) else (gI s 233 8))), (5, .int (vX1_aboutSum s a4 (-(gI s 238 (a3).toNatClampNeg)))), (0, .ref 233), (1, .int a1), (2, .int a2), (3, .int a3), (4, .int a4)]) dX1_tryFrom_146 (Nat.le_of_ble_eq_true rfl) rfl ?_
    exact JT_sub [3, 4, 5, 6, 7, 2, 1, 0] rfl h
  · have h := h.2 hc6
    refine JT_aload_n (q := 0) dX1_tryFrom_106 rfl rfl ?_
    refine JS_getR (x := 238) dX1_tryFrom_107 flX1_24 BS_233 (Nat.le_of_ble_eq_true rfl) (Nat.le_of_ble_eq_true rfl) (Or.inr ⟨_, ct_1_4⟩) RF_233_4 ?_
    refine JT_iload_n (q := 2) dX1_tryFrom_110 rfl rfl ?_
    obtain ⟨o4, h⟩ := h
    refine JS_iald dX1_tryFrom_111 BS_238 (Nat.le_of_ble_eq_true rfl) (Nat.le_of_ble_eq_true rfl) o4 ?_
    refine JT_goto (tgt := 122) dX1_tryFrom_112 (by decide) ?_
    obtain ⟨o5, h⟩ := h
    refine JS_callVI (M' := MX1_aboutSum) (d' := 0) (As := [.int a4, .int (gI s 238 (a2).toNatClampNeg)]) (rest := []) (P := (fun zv9 wm9 => (vX1_aboutSum s a4 (gI s 238 (a2).toNatClampNeg)) = zv9 ∧ s = wm9)) dX1_tryFrom_122 cvX1_112 okX1_aboutSum rfl (Nat.le_of_ble_eq_true rfl) BS_233 (Nat.le_of_ble_eq_true rfl) (Nat.le_of_ble_eq_true rfl) hci_1 (Nat.le_of_ble_eq_true rfl) (by show 0 + 1 ≤ e + 4; omega) (pX1_aboutSum  (a4) ((gI s 238 (a2).toNatClampNeg)) o5 ⟨rfl, rfl⟩) (fun zv9 wm9 hq9 => ?_)
    obtain ⟨rfl, rfl⟩ := hq9
    refine JT_istore (lv' := [(5, .int (vX1_aboutSum s a4 (gI s 238 (a2).toNatClampNeg))), (0, .ref 233), (1, .int a1), (2, .int a2), (3, .int a3), (4, .int a4), (6, .int a6)]) dX1_tryFrom_125 (Nat.le_of_ble_eq_true rfl) rfl ?_
    refine JT_aload_n (q := 1) dX1_tryFrom_127 rfl rfl ?_
    refine JS_getI dX1_tryFrom_128 flX1_93 BS_233 (Nat.le_of_ble_eq_true rfl) (Nat.le_of_ble_eq_true rfl) (Or.inl ct_1_8) ?_
    refine JT_iload (q := 0) dX1_tryFrom_131 rfl ?_
    refine JT_iconst (v := 1) dX1_tryFrom_133 ic_1 ?_
    refine JT_iadd dX1_tryFrom_134 ?_
    refine JT_mmin (d2 := e + 3) dX1_tryFrom_135 mlX1_115 (Nat.le_of_ble_eq_true rfl) rfl ?_
    refine JT_istore (lv' := [(6, .int (if ((vX1_aboutSum s a4 (gI s 238 (a2).toNatClampNeg)) + (1 : Int32)) < (gI s 233 8) then ((vX1_aboutSum s a4 (gI s 238 (a2).toNatClampNeg)) + (1 : Int32)) else (gI s 233 8))), (5, .int (vX1_aboutSum s a4 (gI s 238 (a2).toNatClampNeg))), (0, .ref 233), (1, .int a1), (2, .int a2), (3, .int a3), (4, .int a4)]) dX1_tryFrom_138 (Nat.le_of_ble_eq_true rfl) rfl ?_
    refine JT_iconst (v := 1) dX1_tryFrom_140 ic_1 ?_
    refine JT_iload (q := 1) dX1_tryFrom_141 rfl ?_
    refine JT_mmax (d2 := e + 3) dX1_tryFrom_143 mlX1_120 (Nat.le_of_ble_eq_true rfl) rfl ?_
    refine JT_istore (lv' := [(7, .int (if (1 : Int32) < (vX1_aboutSum s a4 (gI s 238 (a2).toNatClampNeg)) then (vX1_aboutSum s a4 (gI s 238 (a2).toNatClampNeg)) else (1 : Int32))), (6, .int (if ((vX1_aboutSum s a4 (gI s 238 (a2).toNatClampNeg)) + (1 : Int32)) < (gI s 233 8) then ((vX1_aboutSum s a4 (gI s 238 (a2).toNatClampNeg)) + (1 : Int32)) else (gI s 233 8))), (5, .int (vX1_aboutSum s a4 (gI s 238 (a2).toNatClampNeg))), (0, .ref 233), (1, .int a1), (2, .int a2), (3, .int a3), (4, .int a4)]) dX1_tryFrom_146 (Nat.le_of_ble_eq_true rfl) rfl ?_
    exact JT_sub [3, 4, 5, 6, 7, 2, 1, 0] rfl h
set_option maxRecDepth 1000000 in
theorem bX1_tryFrom_148 {e : Nat} (a1 : Int32) (a2 : Int32) (a3 : Int32) (a4 : Int32) (a5 : Int32) (a6 : Int32) (a7 : Int32) {s : SM} {Q : SM → Prop} (h : ((a6 < a7 → Q s) ∧ (¬ a6 < a7 → gD s 2 = some (gDx s 2) ∧ ((gDx s 2), rfx (gDx s 2) 8) ∈ LX ∧ rX6_valueOf s (rfx (gDx s 2) 8) a4 a7 ∧ vp_in a2 9 ∧ vp_in a2 9 ∧ vp_in a3 9 ∧ vp_in a3 9 ∧ (∀ s7, s7 = (pI (pI s 238 (a2).toNatClampNeg ((gI s 238 (a2).toNatClampNeg) - (vX6_valueOf s (rfx (gDx s 2) 8) a4 a7))) 238 (a3).toNatClampNeg ((gI (pI s 238 (a2).toNatClampNeg ((gI s 238 (a2).toNatClampNeg) - (vX6_valueOf s (rfx (gDx s 2) 8) a4 a7))) 238 (a3).toNatClampNeg) + (vX6_valueOf s (rfx (gDx s 2) 8) a4 a7))) → vp_in a2 9 ∧ ((¬ (gI s7 239 (a2).toNatClampNeg) = a1 → BV MX1_tryFrom (e + 4) 212 [(0, .ref 233), (1, .int a1), (2, .int a2), (3, .int a3), (4, .int a4), (5, .int a5), (6, .int a6), (7, .int a7), (8, .int (vX6_valueOf s (rfx (gDx s 2) 8) a4 a7))] s7 Q) ∧ ((gI s7 239 (a2).toNatClampNeg) = a1 → vp_in a2 9 ∧ ((¬ (gI s7 238 (a2).toNatClampNeg) = 0 → BV MX1_tryFrom (e + 4) 246 [(0, .ref 233), (1, .int a1), (2, .int a2), (3, .int a3), (4, .int a4), (5, .int a5), (6, .int a6), (7, .int a7), (8, .int (vX6_valueOf s (rfx (gDx s 2) 8) a4 a7))] s7 Q) ∧ ((gI s7 238 (a2).toNatClampNeg) = 0 → BV MX1_tryFrom (e + 4) 212 [(0, .ref 233), (1, .int a1), (2, .int a2), (3, .int a3), (4, .int a4), (5, .int a5), (6, .int a6), (7, .int a7), (8, .int (vX6_valueOf s (rfx (gDx s 2) 8) a4 a7))] s7 Q)))))))) : BV MX1_tryFrom (e + 4) 148 [(0, .ref 233), (1, .int a1), (2, .int a2), (3, .int a3), (4, .int a4), (5, .int a5), (6, .int a6), (7, .int a7)] s Q := by
  refine JT_iload (q := 7) dX1_tryFrom_148 rfl ?_
  refine JT_iload (q := 6) dX1_tryFrom_150 rfl ?_
  refine JT_icmp_gt (tgt := 274) dX1_tryFrom_152 (by decide) (fun hc13 => ?_) (fun hc13 => ?_)
  · have h := h.1 hc13
    exact JS_vret dX1_tryFrom_274 rfl h
  · have h := h.2 hc13
    refine JT_aload_n (q := 0) dX1_tryFrom_155 rfl rfl ?_
    obtain ⟨hr1, hL2, h⟩ := h
    refine JS_getR (x := (gDx s 2)) dX1_tryFrom_156 flX1_30 BS_233 (Nat.le_of_ble_eq_true rfl) (Nat.le_of_ble_eq_true rfl) (Or.inl ⟨_, ct_1_11⟩) (RF_233_11.trans hr1) ?_
    refine JS_getR (x := (rfx (gDx s 2) 8)) dX1_tryFrom_159 flX1_34 (lxB hL2) (lx2 hL2) (lxN hL2) (Or.inl ⟨_, ct_4_8⟩) (lxR8 hL2) ?_
    refine JT_iload (q := 4) dX1_tryFrom_162 rfl ?_
    refine JT_iload (q := 7) dX1_tryFrom_164 rfl ?_
    obtain ⟨o12, h⟩ := h
    refine JS_callVI (M' := MX6_valueOf) (d' := 0) (As := [.int a4, .int a7]) (rest := []) (P := (fun zv9 wm9 => (vX6_valueOf s (rfx (gDx s 2) 8) a4 a7) = zv9 ∧ s = wm9)) dX1_tryFrom_166 cvX1_123 okX6_valueOf rfl (Nat.le_of_ble_eq_true rfl) (pxB (lxP hL2)) (px2 (lxP hL2)) (pxN (lxP hL2)) hci_6 (Nat.le_of_ble_eq_true rfl) (by show 0 + 1 ≤ e + 4; omega) (pX6_valueOf (lxP hL2) (a4) (a7) o12 ⟨rfl, rfl⟩) (fun zv9 wm9 hq9 => ?_)
    obtain ⟨rfl, rfl⟩ := hq9
    refine JT_istore (lv' := [(8, .int (vX6_valueOf s (rfx (gDx s 2) 8) a4 a7)), (0, .ref 233), (1, .int a1), (2, .int a2), (3, .int a3), (4, .int a4), (5, .int a5), (6, .int a6), (7, .int a7)]) dX1_tryFrom_169 (Nat.le_of_ble_eq_true rfl) rfl ?_
    refine JT_aload_n (q := 1) dX1_tryFrom_171 rfl rfl ?_
    refine JS_getR (x := 238) dX1_tryFrom_172 flX1_24 BS_233 (Nat.le_of_ble_eq_true rfl) (Nat.le_of_ble_eq_true rfl) (Or.inr ⟨_, ct_1_4⟩) RF_233_4 ?_
    refine JT_iload_n (q := 3) dX1_tryFrom_175 rfl rfl ?_
    refine JT_dup2 dX1_tryFrom_176 rfl rfl ?_
    obtain ⟨o3, h⟩ := h
    refine JS_iald dX1_tryFrom_177 BS_238 (Nat.le_of_ble_eq_true rfl) (Nat.le_of_ble_eq_true rfl) o3 ?_
    refine JT_iload (q := 0) dX1_tryFrom_178 rfl ?_
    refine JT_isub dX1_tryFrom_180 ?_
    obtain ⟨o4, h⟩ := h
    refine JS_iast dX1_tryFrom_181 BS_238 (Nat.le_of_ble_eq_true rfl) (Nat.le_of_ble_eq_true rfl) o4 ?_
    refine JT_aload_n (q := 1) dX1_tryFrom_182 rfl rfl ?_
    refine JS_getR (x := 238) dX1_tryFrom_183 flX1_24 BS_233 (Nat.le_of_ble_eq_true rfl) (Nat.le_of_ble_eq_true rfl) (Or.inr ⟨_, ct_1_4⟩) RF_233_4 ?_
    refine JT_iload_n (q := 4) dX1_tryFrom_186 rfl rfl ?_
    refine JT_dup2 dX1_tryFrom_187 rfl rfl ?_
    obtain ⟨o5, h⟩ := h
    refine JS_iald dX1_tryFrom_188 BS_238 (Nat.le_of_ble_eq_true rfl) (Nat.le_of_ble_eq_true rfl) o5 ?_
    refine JT_iload (q := 0) dX1_tryFrom_189 rfl ?_
    refine JT_iadd dX1_tryFrom_191 ?_
    obtain ⟨o6, h⟩ := h
    refine JS_iast dX1_tryFrom_192 BS_238 (Nat.le_of_ble_eq_true rfl) (Nat.le_of_ble_eq_true rfl) o6 ?_
    obtain ⟨s7, hs7⟩ : ∃ z, z = (pI (pI s 238 (a2).toNatClampNeg ((gI s 238 (a2).toNatClampNeg) - (vX6_valueOf s (rfx (gDx s 2) 8) a4 a7))) 238 (a3).toNatClampNeg ((gI (pI s 238 (a2).toNatClampNeg ((gI s 238 (a2).toNatClampNeg) - (vX6_valueOf s (rfx (gDx s 2) 8) a4 a7))) 238 (a3).toNatClampNeg) + (vX6_valueOf s (rfx (gDx s 2) 8) a4 a7))) := ⟨_, rfl⟩
    replace h := h s7 hs7
    rw [← hs7]
    refine JT_aload_n (q := 1) dX1_tryFrom_193 rfl rfl ?_
    refine JS_getR (x := 239) dX1_tryFrom_194 flX1_27 BS_233 (Nat.le_of_ble_eq_true rfl) (Nat.le_of_ble_eq_true rfl) (Or.inr ⟨_, ct_1_5⟩) RF_233_5 ?_
    refine JT_iload_n (q := 3) dX1_tryFrom_197 rfl rfl ?_
    obtain ⟨o8, h⟩ := h
    refine JS_iald dX1_tryFrom_198 BS_239 (Nat.le_of_ble_eq_true rfl) (Nat.le_of_ble_eq_true rfl) o8 ?_
    refine JT_iload_n (q := 2) dX1_tryFrom_199 rfl rfl ?_
    refine JT_icmp_ne (tgt := 212) dX1_tryFrom_200 (by decide) (fun hc11 => ?_) (fun hc11 => ?_)
    · have h := h.1 hc11
      exact JT_sub [1, 2, 3, 4, 5, 6, 7, 8, 0] rfl h
    · have h := h.2 hc11
      refine JT_aload_n (q := 1) dX1_tryFrom_203 rfl rfl ?_
      refine JS_getR (x := 238) dX1_tryFrom_204 flX1_24 BS_233 (Nat.le_of_ble_eq_true rfl) (Nat.le_of_ble_eq_true rfl) (Or.inr ⟨_, ct_1_4⟩) RF_233_4 ?_
      refine JT_iload_n (q := 3) dX1_tryFrom_207 rfl rfl ?_
      obtain ⟨o9, h⟩ := h
      refine JS_iald dX1_tryFrom_208 BS_238 (Nat.le_of_ble_eq_true rfl) (Nat.le_of_ble_eq_true rfl) o9 ?_
      refine JT_if_ne (tgt := 246) dX1_tryFrom_209 (by decide) (fun hc10 => ?_) (fun hc10 => ?_)
      · have h := h.1 hc10
        exact JT_sub [1, 2, 3, 4, 5, 6, 7, 8, 0] rfl h
      · have h := h.2 hc10
        exact JT_sub [1, 2, 3, 4, 5, 6, 7, 8, 0] rfl h
set_option maxRecDepth 1000000 in
theorem bX1_tryFrom_212 {e : Nat} (a1 : Int32) (a2 : Int32) (a3 : Int32) (a4 : Int32) (a5 : Int32) (a6 : Int32) (a7 : Int32) (a8 : Int32) {s : SM} {Q : SM → Prop} (h : vp_in a3 9 ∧ ((¬ (gI s 239 (a3).toNatClampNeg) = a1 → BV MX1_tryFrom (e + 4) 231 [(0, .ref 233), (1, .int a1), (2, .int a2), (3, .int a3), (4, .int a4), (5, .int a5), (6, .int a6), (7, .int a7), (8, .int a8)] s Q) ∧ ((gI s 239 (a3).toNatClampNeg) = a1 → vp_in a3 9 ∧ ((¬ (gI s 238 (a3).toNatClampNeg) = 0 → BV MX1_tryFrom (e + 4) 246 [(0, .ref 233), (1, .int a1), (2, .int a2), (3, .int a3), (4, .int a4), (5, .int a5), (6, .int a6), (7, .int a7), (8, .int a8)] s Q) ∧ ((gI s 238 (a3).toNatClampNeg) = 0 → BV MX1_tryFrom (e + 4) 231 [(0, .ref 233), (1, .int a1), (2, .int a2), (3, .int a3), (4, .int a4), (5, .int a5), (6, .int a6), (7, .int a7), (8, .int a8)] s Q))))) : BV MX1_tryFrom (e + 4) 212 [(0, .ref 233), (1, .int a1), (2, .int a2), (3, .int a3), (4, .int a4), (5, .int a5), (6, .int a6), (7, .int a7), (8, .int a8)] s Q := by
  refine JT_aload_n (q := 0) dX1_tryFrom_212 rfl rfl ?_
  refine JS_getR (x := 239) dX1_tryFrom_213 flX1_27 BS_233 (Nat.le_of_ble_eq_true rfl) (Nat.le_of_ble_eq_true rfl) (Or.inr ⟨_, ct_1_5⟩) RF_233_5 ?_
  refine JT_iload_n (q := 3) dX1_tryFrom_216 rfl rfl ?_
  obtain ⟨o1, h⟩ := h
  refine JS_iald dX1_tryFrom_217 BS_239 (Nat.le_of_ble_eq_true rfl) (Nat.le_of_ble_eq_true rfl) o1 ?_
  refine JT_iload_n (q := 1) dX1_tryFrom_218 rfl rfl ?_
  refine JT_icmp_ne (tgt := 231) dX1_tryFrom_219 (by decide) (fun hc4 => ?_) (fun hc4 => ?_)
  · have h := h.1 hc4
    exact JT_sub [0, 1, 2, 3, 4, 5, 6, 7, 8] rfl h
  · have h := h.2 hc4
    refine JT_aload_n (q := 0) dX1_tryFrom_222 rfl rfl ?_
    refine JS_getR (x := 238) dX1_tryFrom_223 flX1_24 BS_233 (Nat.le_of_ble_eq_true rfl) (Nat.le_of_ble_eq_true rfl) (Or.inr ⟨_, ct_1_4⟩) RF_233_4 ?_
    refine JT_iload_n (q := 3) dX1_tryFrom_226 rfl rfl ?_
    obtain ⟨o2, h⟩ := h
    refine JS_iald dX1_tryFrom_227 BS_238 (Nat.le_of_ble_eq_true rfl) (Nat.le_of_ble_eq_true rfl) o2 ?_
    refine JT_if_ne (tgt := 246) dX1_tryFrom_228 (by decide) (fun hc3 => ?_) (fun hc3 => ?_)
    · have h := h.1 hc3
      exact JT_sub [0, 1, 2, 3, 4, 5, 6, 7, 8] rfl h
    · have h := h.2 hc3
      exact JT_sub [0, 1, 2, 3, 4, 5, 6, 7, 8] rfl h
set_option maxRecDepth 1000000 in
theorem bX1_tryFrom_231 {e : Nat} (a1 : Int32) (a2 : Int32) (a3 : Int32) (a4 : Int32) (a5 : Int32) (a6 : Int32) (a7 : Int32) (a8 : Int32) {s : SM} {Q : SM → Prop} (h : vp_in a1 4 ∧ KV MX1_tryFrom (e + 3) [.ref 233, .int (a1 + (1 : Int32))] (pI s 235 (a1).toNatClampNeg a7) (fun s2 => BV MX1_tryFrom (e + 4) 246 [(0, .ref 233), (1, .int a1), (2, .int a2), (3, .int a3), (4, .int a4), (5, .int a5), (6, .int a6), (7, .int a7), (8, .int a8)] s2 Q)) : BV MX1_tryFrom (e + 4) 231 [(0, .ref 233), (1, .int a1), (2, .int a2), (3, .int a3), (4, .int a4), (5, .int a5), (6, .int a6), (7, .int a7), (8, .int a8)] s Q := by
  refine JT_aload_n (q := 0) dX1_tryFrom_231 rfl rfl ?_
  refine JS_getR (x := 235) dX1_tryFrom_232 flX1_15 BS_233 (Nat.le_of_ble_eq_true rfl) (Nat.le_of_ble_eq_true rfl) (Or.inr ⟨_, ct_1_1⟩) RF_233_1 ?_
  refine JT_iload_n (q := 1) dX1_tryFrom_235 rfl rfl ?_
  refine JT_iload (q := 7) dX1_tryFrom_236 rfl ?_
  obtain ⟨o1, h⟩ := h
  refine JS_iast dX1_tryFrom_238 BS_235 (Nat.le_of_ble_eq_true rfl) (Nat.le_of_ble_eq_true rfl) o1 ?_
  refine JT_aload_n (q := 0) dX1_tryFrom_239 rfl rfl ?_
  refine JT_iload_n (q := 1) dX1_tryFrom_240 rfl rfl ?_
  refine JT_iconst (v := 1) dX1_tryFrom_241 ic_1 ?_
  refine JT_iadd dX1_tryFrom_242 ?_
  refine JS_callVV (M' := MX1_tryFrom) (d' := e + 3) (As := [.int (a1 + (1 : Int32))]) (rest := []) dX1_tryFrom_243 cvX1_102 okX1_tryFrom rfl (Nat.le_of_ble_eq_true rfl) BS_233 (Nat.le_of_ble_eq_true rfl) (Nat.le_of_ble_eq_true rfl) hci_1 (Nat.le_of_ble_eq_true rfl) (by show e + 3 + 1 ≤ e + 4; omega) h (fun s2 h => ?_)
  exact JT_sub [0, 1, 2, 3, 4, 5, 6, 7, 8] rfl h
set_option maxRecDepth 1000000 in
theorem bX1_tryFrom_246 {e : Nat} (a1 : Int32) (a2 : Int32) (a3 : Int32) (a4 : Int32) (a5 : Int32) (a6 : Int32) (a7 : Int32) (a8 : Int32) {s : SM} {Q : SM → Prop} (h : vp_in a2 9 ∧ vp_in a2 9 ∧ vp_in a3 9 ∧ vp_in a3 9 ∧ (∀ s5, s5 = (pI (pI s 238 (a2).toNatClampNeg ((gI s 238 (a2).toNatClampNeg) + a8)) 238 (a3).toNatClampNeg ((gI (pI s 238 (a2).toNatClampNeg ((gI s 238 (a2).toNatClampNeg) + a8)) 238 (a3).toNatClampNeg) - a8)) → BV MX1_tryFrom (e + 4) 148 [(0, .ref 233), (1, .int a1), (2, .int a2), (3, .int a3), (4, .int a4), (5, .int a5), (6, .int a6), (7, .int (a7 + 1))] s5 Q)) : BV MX1_tryFrom (e + 4) 246 [(0, .ref 233), (1, .int a1), (2, .int a2), (3, .int a3), (4, .int a4), (5, .int a5), (6, .int a6), (7, .int a7), (8, .int a8)] s Q := by
  refine JT_aload_n (q := 0) dX1_tryFrom_246 rfl rfl ?_
  refine JS_getR (x := 238) dX1_tryFrom_247 flX1_24 BS_233 (Nat.le_of_ble_eq_true rfl) (Nat.le_of_ble_eq_true rfl) (Or.inr ⟨_, ct_1_4⟩) RF_233_4 ?_
  refine JT_iload_n (q := 2) dX1_tryFrom_250 rfl rfl ?_
  refine JT_dup2 dX1_tryFrom_251 rfl rfl ?_
  obtain ⟨o1, h⟩ := h
  refine JS_iald dX1_tryFrom_252 BS_238 (Nat.le_of_ble_eq_true rfl) (Nat.le_of_ble_eq_true rfl) o1 ?_
  refine JT_iload (q := 8) dX1_tryFrom_253 rfl ?_
  refine JT_iadd dX1_tryFrom_255 ?_
  obtain ⟨o2, h⟩ := h
  refine JS_iast dX1_tryFrom_256 BS_238 (Nat.le_of_ble_eq_true rfl) (Nat.le_of_ble_eq_true rfl) o2 ?_
  refine JT_aload_n (q := 0) dX1_tryFrom_257 rfl rfl ?_
  refine JS_getR (x := 238) dX1_tryFrom_258 flX1_24 BS_233 (Nat.le_of_ble_eq_true rfl) (Nat.le_of_ble_eq_true rfl) (Or.inr ⟨_, ct_1_4⟩) RF_233_4 ?_
  refine JT_iload_n (q := 3) dX1_tryFrom_261 rfl rfl ?_
  refine JT_dup2 dX1_tryFrom_262 rfl rfl ?_
  obtain ⟨o3, h⟩ := h
  refine JS_iald dX1_tryFrom_263 BS_238 (Nat.le_of_ble_eq_true rfl) (Nat.le_of_ble_eq_true rfl) o3 ?_
  refine JT_iload (q := 8) dX1_tryFrom_264 rfl ?_
  refine JT_isub dX1_tryFrom_266 ?_
  obtain ⟨o4, h⟩ := h
  refine JS_iast dX1_tryFrom_267 BS_238 (Nat.le_of_ble_eq_true rfl) (Nat.le_of_ble_eq_true rfl) o4 ?_
  obtain ⟨s5, hs5⟩ : ∃ z, z = (pI (pI s 238 (a2).toNatClampNeg ((gI s 238 (a2).toNatClampNeg) + a8)) 238 (a3).toNatClampNeg ((gI (pI s 238 (a2).toNatClampNeg ((gI s 238 (a2).toNatClampNeg) + a8)) 238 (a3).toNatClampNeg) - a8)) := ⟨_, rfl⟩
  replace h := h s5 hs5
  rw [← hs5]
  refine JT_iinc (q := 7) (v := (a7 + 1)) (lv' := [(7, .int (a7 + 1)), (0, .ref 233), (1, .int a1), (2, .int a2), (3, .int a3), (4, .int a4), (5, .int a5), (6, .int a6), (8, .int a8)]) dX1_tryFrom_268 rfl (by rfl) (Nat.le_of_ble_eq_true rfl) rfl ?_
  refine JT_goto (tgt := 148) dX1_tryFrom_271 (by decide) ?_
  exact JT_sub [1, 2, 3, 4, 5, 6, 7, 0] rfl h
set_option maxRecDepth 1000000 in
theorem bX1_tryFrom {e : Nat} (a1 : Int32) {s : SM} {Q : SM → Prop} (h : (((gI s 233 6) ≤ a1 → rX1_noteWay s  ∧ Q (mX1_noteWay s )) ∧ (¬ (gI s 233 6) ≤ a1 → ((a1 < (4 : Int32) → gD s 2 = some (gDx s 2) ∧ ((gDx s 2), rfx (gDx s 2) 8) ∈ LX ∧ vp_in a1 4 ∧ vp_in (gI s 234 (a1).toNatClampNeg) 60 ∧ gD s 2 = some (gDx s 2) ∧ ((gDx s 2), rfx (gDx s 2) 8) ∈ LX ∧ vp_in a1 4 ∧ vp_in (gI s 234 (a1).toNatClampNeg) 60 ∧ gD s 2 = some (gDx s 2) ∧ ((gDx s 2), rfx (gDx s 2) 8) ∈ LX ∧ vp_in a1 4 ∧ vp_in (gI s 234 (a1).toNatClampNeg) 60 ∧ vp_in (gI s ((gDx s 2) + 1) ((gI s 234 (a1).toNatClampNeg)).toNatClampNeg) 9 ∧ (((gI s 239 ((gI s ((gDx s 2) + 1) ((gI s 234 (a1).toNatClampNeg)).toNatClampNeg)).toNatClampNeg) = a1 → BV MX1_tryFrom (e + 4) 93 [(0, .ref 233), (1, .int a1), (2, .int (gI s ((gDx s 2) + 1) ((gI s 234 (a1).toNatClampNeg)).toNatClampNeg)), (3, .int (gI s ((gDx s 2) + 2) ((gI s 234 (a1).toNatClampNeg)).toNatClampNeg)), (4, .int (gI s ((gDx s 2) + 4) ((gI s 234 (a1).toNatClampNeg)).toNatClampNeg)), (5, .int (1 : Int32)), (6, .int (gI s 233 8))] s Q) ∧ (¬ (gI s 239 ((gI s ((gDx s 2) + 1) ((gI s 234 (a1).toNatClampNeg)).toNatClampNeg)).toNatClampNeg) = a1 → vp_in (gI s ((gDx s 2) + 2) ((gI s 234 (a1).toNatClampNeg)).toNatClampNeg) 9 ∧ ((¬ (gI s 239 ((gI s ((gDx s 2) + 2) ((gI s 234 (a1).toNatClampNeg)).toNatClampNeg)).toNatClampNeg) = a1 → BV MX1_tryFrom (e + 4) 148 [(0, .ref 233), (1, .int a1), (2, .int (gI s ((gDx s 2) + 1) ((gI s 234 (a1).toNatClampNeg)).toNatClampNeg)), (3, .int (gI s ((gDx s 2) + 2) ((gI s 234 (a1).toNatClampNeg)).toNatClampNeg)), (4, .int (gI s ((gDx s 2) + 4) ((gI s 234 (a1).toNatClampNeg)).toNatClampNeg)), (5, .int (1 : Int32)), (6, .int (gI s 233 8)), (7, .int (if (1 : Int32) < (1 : Int32) then (1 : Int32) else (1 : Int32)))] s Q) ∧ ((gI s 239 ((gI s ((gDx s 2) + 2) ((gI s 234 (a1).toNatClampNeg)).toNatClampNeg)).toNatClampNeg) = a1 → BV MX1_tryFrom (e + 4) 93 [(0, .ref 233), (1, .int a1), (2, .int (gI s ((gDx s 2) + 1) ((gI s 234 (a1).toNatClampNeg)).toNatClampNeg)), (3, .int (gI s ((gDx s 2) + 2) ((gI s 234 (a1).toNatClampNeg)).toNatClampNeg)), (4, .int (gI s ((gDx s 2) + 4) ((gI s 234 (a1).toNatClampNeg)).toNatClampNeg)), (5, .int (1 : Int32)), (6, .int (gI s 233 8))] s Q))))) ∧ (¬ a1 < (4 : Int32) → rX1_noteWay s  ∧ Q (mX1_noteWay s )))))) : KV MX1_tryFrom (e + 4) [.ref 233, .int a1] s Q := by
  show BV MX1_tryFrom (e + 4) 0 [(0, .ref 233), (1, .int a1)] s Q
  refine JT_iload_n (q := 1) dX1_tryFrom_0 rfl rfl ?_
  refine JT_aload_n (q := 0) dX1_tryFrom_1 rfl rfl ?_
  refine JS_getI dX1_tryFrom_2 flX1_67 BS_233 (Nat.le_of_ble_eq_true rfl) (Nat.le_of_ble_eq_true rfl) (Or.inl ct_1_6) ?_
  refine JT_icmp_ge (tgt := 13) dX1_tryFrom_5 (by decide) (fun hc20 => ?_) (fun hc20 => ?_)
  · have h := h.1 hc20
    refine JT_aload_n (q := 0) dX1_tryFrom_13 rfl rfl ?_
    obtain ⟨o1, h⟩ := h
    refine JS_callVV (M' := MX1_noteWay) (d' := 1) (As := []) (rest := []) (P := (fun wm9 => (mX1_noteWay s ) = wm9)) dX1_tryFrom_14 cvX1_106 okX1_noteWay rfl (Nat.le_of_ble_eq_true rfl) BS_233 (Nat.le_of_ble_eq_true rfl) (Nat.le_of_ble_eq_true rfl) hci_1 (Nat.le_of_ble_eq_true rfl) (by show 1 + 1 ≤ e + 4; omega) (pX1_noteWay   o1 rfl) (fun wm9 hq9 => ?_)
    subst hq9
    exact JS_vret dX1_tryFrom_17 rfl h
  · have h := h.2 hc20
    refine JT_iload_n (q := 1) dX1_tryFrom_8 rfl rfl ?_
    refine JT_iconst (v := 4) dX1_tryFrom_9 ic_4 ?_
    refine JT_icmp_lt (tgt := 18) dX1_tryFrom_10 (by decide) (fun hc19 => ?_) (fun hc19 => ?_)
    · have h := h.1 hc19
      refine JT_aload_n (q := 0) dX1_tryFrom_18 rfl rfl ?_
      obtain ⟨hr2, hL3, h⟩ := h
      refine JS_getR (x := (gDx s 2)) dX1_tryFrom_19 flX1_30 BS_233 (Nat.le_of_ble_eq_true rfl) (Nat.le_of_ble_eq_true rfl) (Or.inl ⟨_, ct_1_11⟩) (RF_233_11.trans hr2) ?_
      refine JS_getR (x := ((gDx s 2) + 1)) dX1_tryFrom_22 flX1_81 (lxB hL3) (lx2 hL3) (lxN hL3) (Or.inr ⟨_, ct_4_0⟩) (lxR0 hL3) ?_
      refine JT_aload_n (q := 0) dX1_tryFrom_25 rfl rfl ?_
      refine JS_getR (x := 234) dX1_tryFrom_26 flX1_9 BS_233 (Nat.le_of_ble_eq_true rfl) (Nat.le_of_ble_eq_true rfl) (Or.inr ⟨_, ct_1_0⟩) RF_233_0 ?_
      refine JT_iload_n (q := 1) dX1_tryFrom_29 rfl rfl ?_
      obtain ⟨o4, h⟩ := h
      refine JS_iald dX1_tryFrom_30 BS_234 (Nat.le_of_ble_eq_true rfl) (Nat.le_of_ble_eq_true rfl) o4 ?_
      obtain ⟨o5, h⟩ := h
      refine JS_iald dX1_tryFrom_31 (lxB1 hL3) (lx2k hL3 _) (lxNk hL3 (Nat.le_of_ble_eq_true rfl)) o5 ?_
      refine JT_istore_n (lv' := [(2, .int (gI s ((gDx s 2) + 1) ((gI s 234 (a1).toNatClampNeg)).toNatClampNeg)), (0, .ref 233), (1, .int a1)]) dX1_tryFrom_32 rfl (Nat.le_of_ble_eq_true rfl) rfl ?_
      refine JT_aload_n (q := 1) dX1_tryFrom_33 rfl rfl ?_
      obtain ⟨hr6, hL7, h⟩ := h
      refine JS_getR (x := (gDx s 2)) dX1_tryFrom_34 flX1_30 BS_233 (Nat.le_of_ble_eq_true rfl) (Nat.le_of_ble_eq_true rfl) (Or.inl ⟨_, ct_1_11⟩) (RF_233_11.trans hr6) ?_
      refine JS_getR (x := ((gDx s 2) + 2)) dX1_tryFrom_37 flX1_84 (lxB hL7) (lx2 hL7) (lxN hL7) (Or.inr ⟨_, ct_4_1⟩) (lxR1 hL7) ?_
      refine JT_aload_n (q := 1) dX1_tryFrom_40 rfl rfl ?_
      refine JS_getR (x := 234) dX1_tryFrom_41 flX1_9 BS_233 (Nat.le_of_ble_eq_true rfl) (Nat.le_of_ble_eq_true rfl) (Or.inr ⟨_, ct_1_0⟩) RF_233_0 ?_
      refine JT_iload_n (q := 2) dX1_tryFrom_44 rfl rfl ?_
      obtain ⟨o8, h⟩ := h
      refine JS_iald dX1_tryFrom_45 BS_234 (Nat.le_of_ble_eq_true rfl) (Nat.le_of_ble_eq_true rfl) o8 ?_
      obtain ⟨o9, h⟩ := h
      refine JS_iald dX1_tryFrom_46 (lxB2 hL7) (lx2k hL7 _) (lxNk hL7 (Nat.le_of_ble_eq_true rfl)) o9 ?_
      refine JT_istore_n (lv' := [(3, .int (gI s ((gDx s 2) + 2) ((gI s 234 (a1).toNatClampNeg)).toNatClampNeg)), (2, .int (gI s ((gDx s 2) + 1) ((gI s 234 (a1).toNatClampNeg)).toNatClampNeg)), (0, .ref 233), (1, .int a1)]) dX1_tryFrom_47 rfl (Nat.le_of_ble_eq_true rfl) rfl ?_
      refine JT_aload_n (q := 2) dX1_tryFrom_48 rfl rfl ?_
      obtain ⟨hr10, hL11, h⟩ := h
      refine JS_getR (x := (gDx s 2)) dX1_tryFrom_49 flX1_30 BS_233 (Nat.le_of_ble_eq_true rfl) (Nat.le_of_ble_eq_true rfl) (Or.inl ⟨_, ct_1_11⟩) (RF_233_11.trans hr10) ?_
      refine JS_getR (x := ((gDx s 2) + 4)) dX1_tryFrom_52 flX1_109 (lxB hL11) (lx2 hL11) (lxN hL11) (Or.inr ⟨_, ct_4_3⟩) (lxR3 hL11) ?_
      refine JT_aload_n (q := 2) dX1_tryFrom_55 rfl rfl ?_
      refine JS_getR (x := 234) dX1_tryFrom_56 flX1_9 BS_233 (Nat.le_of_ble_eq_true rfl) (Nat.le_of_ble_eq_true rfl) (Or.inr ⟨_, ct_1_0⟩) RF_233_0 ?_
      refine JT_iload_n (q := 3) dX1_tryFrom_59 rfl rfl ?_
      obtain ⟨o12, h⟩ := h
      refine JS_iald dX1_tryFrom_60 BS_234 (Nat.le_of_ble_eq_true rfl) (Nat.le_of_ble_eq_true rfl) o12 ?_
      obtain ⟨o13, h⟩ := h
      refine JS_iald dX1_tryFrom_61 (lxB4 hL11) (lx2k hL11 _) (lxNk hL11 (Nat.le_of_ble_eq_true rfl)) o13 ?_
      refine JT_istore (lv' := [(4, .int (gI s ((gDx s 2) + 4) ((gI s 234 (a1).toNatClampNeg)).toNatClampNeg)), (3, .int (gI s ((gDx s 2) + 2) ((gI s 234 (a1).toNatClampNeg)).toNatClampNeg)), (2, .int (gI s ((gDx s 2) + 1) ((gI s 234 (a1).toNatClampNeg)).toNatClampNeg)), (0, .ref 233), (1, .int a1)]) dX1_tryFrom_62 (Nat.le_of_ble_eq_true rfl) rfl ?_
      refine JT_iconst (v := 1) dX1_tryFrom_64 ic_1 ?_
      refine JT_istore (lv' := [(5, .int (1 : Int32)), (4, .int (gI s ((gDx s 2) + 4) ((gI s 234 (a1).toNatClampNeg)).toNatClampNeg)), (3, .int (gI s ((gDx s 2) + 2) ((gI s 234 (a1).toNatClampNeg)).toNatClampNeg)), (2, .int (gI s ((gDx s 2) + 1) ((gI s 234 (a1).toNatClampNeg)).toNatClampNeg)), (0, .ref 233), (1, .int a1)]) dX1_tryFrom_65 (Nat.le_of_ble_eq_true rfl) rfl ?_
      refine JT_aload_n (q := 4) dX1_tryFrom_67 rfl rfl ?_
      refine JS_getI dX1_tryFrom_68 flX1_93 BS_233 (Nat.le_of_ble_eq_true rfl) (Nat.le_of_ble_eq_true rfl) (Or.inl ct_1_8) ?_
      refine JT_istore (lv' := [(6, .int (gI s 233 8)), (5, .int (1 : Int32)), (4, .int (gI s ((gDx s 2) + 4) ((gI s 234 (a1).toNatClampNeg)).toNatClampNeg)), (3, .int (gI s ((gDx s 2) + 2) ((gI s 234 (a1).toNatClampNeg)).toNatClampNeg)), (2, .int (gI s ((gDx s 2) + 1) ((gI s 234 (a1).toNatClampNeg)).toNatClampNeg)), (0, .ref 233), (1, .int a1)]) dX1_tryFrom_71 (Nat.le_of_ble_eq_true rfl) rfl ?_
      refine JT_aload_n (q := 5) dX1_tryFrom_73 rfl rfl ?_
      refine JS_getR (x := 239) dX1_tryFrom_74 flX1_27 BS_233 (Nat.le_of_ble_eq_true rfl) (Nat.le_of_ble_eq_true rfl) (Or.inr ⟨_, ct_1_5⟩) RF_233_5 ?_
      refine JT_iload_n (q := 4) dX1_tryFrom_77 rfl rfl ?_
      obtain ⟨o14, h⟩ := h
      refine JS_iald dX1_tryFrom_78 BS_239 (Nat.le_of_ble_eq_true rfl) (Nat.le_of_ble_eq_true rfl) o14 ?_
      refine JT_iload_n (q := 6) dX1_tryFrom_79 rfl rfl ?_
      refine JT_icmp_eq (tgt := 93) dX1_tryFrom_80 (by decide) (fun hc17 => ?_) (fun hc17 => ?_)
      · have h := h.1 hc17
        exact JT_sub [5, 6, 4, 3, 2, 1, 0] rfl h
      · have h := h.2 hc17
        refine JT_aload_n (q := 5) dX1_tryFrom_83 rfl rfl ?_
        refine JS_getR (x := 239) dX1_tryFrom_84 flX1_27 BS_233 (Nat.le_of_ble_eq_true rfl) (Nat.le_of_ble_eq_true rfl) (Or.inr ⟨_, ct_1_5⟩) RF_233_5 ?_
        refine JT_iload_n (q := 3) dX1_tryFrom_87 rfl rfl ?_
        obtain ⟨o15, h⟩ := h
        refine JS_iald dX1_tryFrom_88 BS_239 (Nat.le_of_ble_eq_true rfl) (Nat.le_of_ble_eq_true rfl) o15 ?_
        refine JT_iload_n (q := 6) dX1_tryFrom_89 rfl rfl ?_
        refine JT_icmp_ne (tgt := 140) dX1_tryFrom_90 (by decide) (fun hc16 => ?_) (fun hc16 => ?_)
        · have h := h.1 hc16
          refine JT_iconst (v := 1) dX1_tryFrom_140 ic_1 ?_
          refine JT_iload (q := 1) dX1_tryFrom_141 rfl ?_
          refine JT_mmax (d2 := e + 3) dX1_tryFrom_143 mlX1_120 (Nat.le_of_ble_eq_true rfl) rfl ?_
          refine JT_istore (lv' := [(7, .int (if (1 : Int32) < (1 : Int32) then (1 : Int32) else (1 : Int32))), (6, .int (gI s 233 8)), (5, .int (1 : Int32)), (4, .int (gI s ((gDx s 2) + 4) ((gI s 234 (a1).toNatClampNeg)).toNatClampNeg)), (3, .int (gI s ((gDx s 2) + 2) ((gI s 234 (a1).toNatClampNeg)).toNatClampNeg)), (2, .int (gI s ((gDx s 2) + 1) ((gI s 234 (a1).toNatClampNeg)).toNatClampNeg)), (0, .ref 233), (1, .int a1)]) dX1_tryFrom_146 (Nat.le_of_ble_eq_true rfl) rfl ?_
          exact JT_sub [6, 7, 5, 4, 3, 2, 1, 0] rfl h
        · have h := h.2 hc16
          exact JT_sub [5, 6, 4, 3, 2, 1, 0] rfl h
    · have h := h.2 hc19
      refine JT_aload_n (q := 0) dX1_tryFrom_13 rfl rfl ?_
      obtain ⟨o18, h⟩ := h
      refine JS_callVV (M' := MX1_noteWay) (d' := 1) (As := []) (rest := []) (P := (fun wm9 => (mX1_noteWay s ) = wm9)) dX1_tryFrom_14 cvX1_106 okX1_noteWay rfl (Nat.le_of_ble_eq_true rfl) BS_233 (Nat.le_of_ble_eq_true rfl) (Nat.le_of_ble_eq_true rfl) hci_1 (Nat.le_of_ble_eq_true rfl) (by show 1 + 1 ≤ e + 4; omega) (pX1_noteWay   o18 rfl) (fun wm9 hq9 => ?_)
      subst hq9
      exact JS_vret dX1_tryFrom_17 rfl h
set_option maxRecDepth 1000000 in
theorem gX1_tryFrom : ∀ n : Nat, ∀ e : Nat, n ≤ e → (∀ (a1 : Int32) (a2 : Int32) (a3 : Int32) (a4 : Int32) (a5 : Int32) (a6 : Int32) (s : SM) (Q : SM → Prop), (qX1_tryFrom n).1 s a1 a2 a3 a4 a5 a6 → Q ((lX1_tryFrom n).1 s a1 a2 a3 a4 a5 a6) → BV MX1_tryFrom (e + 4) 93 [(0, .ref 233), (1, .int a1), (2, .int a2), (3, .int a3), (4, .int a4), (5, .int a5), (6, .int a6)] s Q) ∧ (∀ (a1 : Int32) (a2 : Int32) (a3 : Int32) (a4 : Int32) (a5 : Int32) (a6 : Int32) (a7 : Int32) (s : SM) (Q : SM → Prop), (qX1_tryFrom n).2.1 s a1 a2 a3 a4 a5 a6 a7 → Q ((lX1_tryFrom n).2.1 s a1 a2 a3 a4 a5 a6 a7) → BV MX1_tryFrom (e + 4) 148 [(0, .ref 233), (1, .int a1), (2, .int a2), (3, .int a3), (4, .int a4), (5, .int a5), (6, .int a6), (7, .int a7)] s Q) ∧ (∀ (a1 : Int32) (a2 : Int32) (a3 : Int32) (a4 : Int32) (a5 : Int32) (a6 : Int32) (a7 : Int32) (a8 : Int32) (s : SM) (Q : SM → Prop), (qX1_tryFrom n).2.2.1 s a1 a2 a3 a4 a5 a6 a7 a8 → Q ((lX1_tryFrom n).2.2.1 s a1 a2 a3 a4 a5 a6 a7 a8) → BV MX1_tryFrom (e + 4) 212 [(0, .ref 233), (1, .int a1), (2, .int a2), (3, .int a3), (4, .int a4), (5, .int a5), (6, .int a6), (7, .int a7), (8, .int a8)] s Q) ∧ (∀ (a1 : Int32) (a2 : Int32) (a3 : Int32) (a4 : Int32) (a5 : Int32) (a6 : Int32) (a7 : Int32) (a8 : Int32) (s : SM) (Q : SM → Prop), (qX1_tryFrom n).2.2.2.1 s a1 a2 a3 a4 a5 a6 a7 a8 → Q ((lX1_tryFrom n).2.2.2.1 s a1 a2 a3 a4 a5 a6 a7 a8) → BV MX1_tryFrom (e + 4) 231 [(0, .ref 233), (1, .int a1), (2, .int a2), (3, .int a3), (4, .int a4), (5, .int a5), (6, .int a6), (7, .int a7), (8, .int a8)] s Q) ∧ (∀ (a1 : Int32) (a2 : Int32) (a3 : Int32) (a4 : Int32) (a5 : Int32) (a6 : Int32) (a7 : Int32) (a8 : Int32) (s : SM) (Q : SM → Prop), (qX1_tryFrom n).2.2.2.2.1 s a1 a2 a3 a4 a5 a6 a7 a8 → Q ((lX1_tryFrom n).2.2.2.2.1 s a1 a2 a3 a4 a5 a6 a7 a8) → BV MX1_tryFrom (e + 4) 246 [(0, .ref 233), (1, .int a1), (2, .int a2), (3, .int a3), (4, .int a4), (5, .int a5), (6, .int a6), (7, .int a7), (8, .int a8)] s Q) ∧ (∀ (a1 : Int32) (s : SM) (Q : SM → Prop), (qX1_tryFrom n).2.2.2.2.2 s a1 → Q ((lX1_tryFrom n).2.2.2.2.2 s a1) → KV MX1_tryFrom (e + 4) [.ref 233, .int a1] s Q) := by
  intro n
  induction n with
  | zero =>
    intro e _
    exact ⟨fun _ _ _ _ _ _ _ _ hq _ => absurd hq id, fun _ _ _ _ _ _ _ _ _ hq _ => absurd hq id, fun _ _ _ _ _ _ _ _ _ _ hq _ => absurd hq id, fun _ _ _ _ _ _ _ _ _ _ hq _ => absurd hq id, fun _ _ _ _ _ _ _ _ _ _ hq _ => absurd hq id, fun _ _ _ hq _ => absurd hq id⟩
  | succ n ih =>
    intro e he
    obtain ⟨e, rfl⟩ : ∃ e9, e = e9 + 1 := ⟨e - 1, by omega⟩
    have ihs := ih e (by omega)
    have ihl := ih (e + 1) (by omega)
    refine ⟨?_, ?_, ?_, ?_, ?_, ?_⟩
    · intro a1 a2 a3 a4 a5 a6 s Q hr h
      replace hr : uX1_tryFrom_93 (lX1_tryFrom n) (qX1_tryFrom n) s a1 a2 a3 a4 a5 a6 := hr
      replace h : Q (tX1_tryFrom_93 (lX1_tryFrom n) s a1 a2 a3 a4 a5 a6) := h
      unfold uX1_tryFrom_93 at hr
      unfold tX1_tryFrom_93 at h
      refine bX1_tryFrom_93 (e := e + 1) a1 a2 a3 a4 a5 a6 ?_
      refine ⟨hr.1, ?_⟩
      replace hr := hr.2
      refine ⟨fun c => ?_, fun c => ?_⟩
      · replace hr := hr.1 c
        replace h := q1n c h
        refine ⟨hr.1, ?_⟩
        replace hr := hr.2
        refine ⟨hr.1, ?_⟩
        replace hr := hr.2
        first | exact ihl.2.1 a1 a2 a3 a4 (vX1_aboutSum s a4 (-(gI s 238 (a3).toNatClampNeg))) (if ((vX1_aboutSum s a4 (-(gI s 238 (a3).toNatClampNeg))) + (1 : Int32)) < (gI s 233 8) then ((vX1_aboutSum s a4 (-(gI s 238 (a3).toNatClampNeg))) + (1 : Int32)) else (gI s 233 8)) (if (1 : Int32) < (vX1_aboutSum s a4 (-(gI s 238 (a3).toNatClampNeg))) then (vX1_aboutSum s a4 (-(gI s 238 (a3).toNatClampNeg))) else (1 : Int32)) _ Q hr h | contradiction
      · replace hr := hr.2 c
        replace h := q1p c h
        refine ⟨hr.1, ?_⟩
        replace hr := hr.2
        refine ⟨hr.1, ?_⟩
        replace hr := hr.2
        first | exact ihl.2.1 a1 a2 a3 a4 (vX1_aboutSum s a4 (gI s 238 (a2).toNatClampNeg)) (if ((vX1_aboutSum s a4 (gI s 238 (a2).toNatClampNeg)) + (1 : Int32)) < (gI s 233 8) then ((vX1_aboutSum s a4 (gI s 238 (a2).toNatClampNeg)) + (1 : Int32)) else (gI s 233 8)) (if (1 : Int32) < (vX1_aboutSum s a4 (gI s 238 (a2).toNatClampNeg)) then (vX1_aboutSum s a4 (gI s 238 (a2).toNatClampNeg)) else (1 : Int32)) _ Q hr h | contradiction
    · intro a1 a2 a3 a4 a5 a6 a7 s Q hr h
      replace hr : uX1_tryFrom_148 (lX1_tryFrom n) (qX1_tryFrom n) s a1 a2 a3 a4 a5 a6 a7 := hr
      replace h : Q (tX1_tryFrom_148 (lX1_tryFrom n) s a1 a2 a3 a4 a5 a6 a7) := h
      unfold uX1_tryFrom_148 at hr
      unfold tX1_tryFrom_148 at h
      refine bX1_tryFrom_148 (e := e + 1) a1 a2 a3 a4 a5 a6 a7 ?_
      refine ⟨fun c => ?_, fun c => ?_⟩
      · replace h := q1p c h
        first | exact h | contradiction
      · replace hr := hr c
        replace h := q1n c h
        refine ⟨hr.1, ?_⟩
        replace hr := hr.2
        refine ⟨hr.1, ?_⟩
        replace hr := hr.2
        refine ⟨hr.1, ?_⟩
        replace hr := hr.2
        refine ⟨hr.1, ?_⟩
        replace hr := hr.2
        refine ⟨hr.1, ?_⟩
        replace hr := hr.2
        refine ⟨hr.1, ?_⟩
        replace hr := hr.2
        refine ⟨hr.1, ?_⟩
        replace hr := hr.2
        intro s7 e9
        replace hr := hr s7 e9
        try rw [← e9] at h
        try dsimp only at h
        refine ⟨hr.1, ?_⟩
        replace hr := hr.2
        refine ⟨fun c => ?_, fun c => ?_⟩
        · replace hr := hr.1 c
          replace h := q1n c h
          first | exact ihl.2.2.1 a1 a2 a3 a4 a5 a6 a7 (vX6_valueOf s (rfx (gDx s 2) 8) a4 a7) _ Q hr h | contradiction
        · replace hr := hr.2 c
          replace h := q1p c h
          refine ⟨hr.1, ?_⟩
          replace hr := hr.2
          refine ⟨fun c => ?_, fun c => ?_⟩
          · replace hr := hr.1 c
            replace h := q1n c h
            first | exact ihl.2.2.2.2.1 a1 a2 a3 a4 a5 a6 a7 (vX6_valueOf s (rfx (gDx s 2) 8) a4 a7) _ Q hr h | contradiction
          · replace hr := hr.2 c
            replace h := q1p c h
            first | exact ihl.2.2.1 a1 a2 a3 a4 a5 a6 a7 (vX6_valueOf s (rfx (gDx s 2) 8) a4 a7) _ Q hr h | contradiction
    · intro a1 a2 a3 a4 a5 a6 a7 a8 s Q hr h
      replace hr : uX1_tryFrom_212 (lX1_tryFrom n) (qX1_tryFrom n) s a1 a2 a3 a4 a5 a6 a7 a8 := hr
      replace h : Q (tX1_tryFrom_212 (lX1_tryFrom n) s a1 a2 a3 a4 a5 a6 a7 a8) := h
      unfold uX1_tryFrom_212 at hr
      unfold tX1_tryFrom_212 at h
      refine bX1_tryFrom_212 (e := e + 1) a1 a2 a3 a4 a5 a6 a7 a8 ?_
      refine ⟨hr.1, ?_⟩
      replace hr := hr.2
      refine ⟨fun c => ?_, fun c => ?_⟩
      · replace hr := hr.1 c
        replace h := q1n c h
        first | exact ihl.2.2.2.1 a1 a2 a3 a4 a5 a6 a7 a8 _ Q hr h | contradiction
      · replace hr := hr.2 c
        replace h := q1p c h
        refine ⟨hr.1, ?_⟩
        replace hr := hr.2
        refine ⟨fun c => ?_, fun c => ?_⟩
        · replace hr := hr.1 c
          replace h := q1n c h
          first | exact ihl.2.2.2.2.1 a1 a2 a3 a4 a5 a6 a7 a8 _ Q hr h | contradiction
        · replace hr := hr.2 c
          replace h := q1p c h
          first | exact ihl.2.2.2.1 a1 a2 a3 a4 a5 a6 a7 a8 _ Q hr h | contradiction
    · intro a1 a2 a3 a4 a5 a6 a7 a8 s Q hr h
      replace hr : uX1_tryFrom_231 (lX1_tryFrom n) (qX1_tryFrom n) s a1 a2 a3 a4 a5 a6 a7 a8 := hr
      replace h : Q (tX1_tryFrom_231 (lX1_tryFrom n) s a1 a2 a3 a4 a5 a6 a7 a8) := h
      unfold uX1_tryFrom_231 at hr
      unfold tX1_tryFrom_231 at h
      refine bX1_tryFrom_231 (e := e + 1) a1 a2 a3 a4 a5 a6 a7 a8 ?_
      refine ⟨hr.1, ?_⟩
      replace hr := hr.2
      refine ihs.2.2.2.2.2 (a1 + (1 : Int32)) _ _ hr.1 ?_
      replace hr := hr.2 _ rfl
      try dsimp only at h
      first | exact ihl.2.2.2.2.1 a1 a2 a3 a4 a5 a6 a7 a8 _ Q hr h | contradiction
    · intro a1 a2 a3 a4 a5 a6 a7 a8 s Q hr h
      replace hr : uX1_tryFrom_246 (lX1_tryFrom n) (qX1_tryFrom n) s a1 a2 a3 a4 a5 a6 a7 a8 := hr
      replace h : Q (tX1_tryFrom_246 (lX1_tryFrom n) s a1 a2 a3 a4 a5 a6 a7 a8) := h
      unfold uX1_tryFrom_246 at hr
      unfold tX1_tryFrom_246 at h
      refine bX1_tryFrom_246 (e := e + 1) a1 a2 a3 a4 a5 a6 a7 a8 ?_
      refine ⟨hr.1, ?_⟩
      replace hr := hr.2
      refine ⟨hr.1, ?_⟩
      replace hr := hr.2
      refine ⟨hr.1, ?_⟩
      replace hr := hr.2
      refine ⟨hr.1, ?_⟩
      replace hr := hr.2
      intro s5 e9
      replace hr := hr s5 e9
      try rw [← e9] at h
      try dsimp only at h
      first | exact ihl.2.1 a1 a2 a3 a4 a5 a6 (a7 + 1) _ Q hr h | contradiction
    · intro a1 s Q hr h
      replace hr : uX1_tryFrom_e (lX1_tryFrom n) (qX1_tryFrom n) s a1 := hr
      replace h : Q (tX1_tryFrom_e (lX1_tryFrom n) s a1) := h
      unfold uX1_tryFrom_e at hr
      unfold tX1_tryFrom_e at h
      refine bX1_tryFrom (e := e + 1) a1 ?_
      refine ⟨fun c => ?_, fun c => ?_⟩
      · replace hr := hr.1 c
        replace h := q1p c h
        refine ⟨hr, ?_⟩
        first | exact h | contradiction
      · replace hr := hr.2 c
        replace h := q1n c h
        refine ⟨fun c => ?_, fun c => ?_⟩
        · replace hr := hr.1 c
          replace h := q1p c h
          refine ⟨hr.1, ?_⟩
          replace hr := hr.2
          refine ⟨hr.1, ?_⟩
          replace hr := hr.2
          refine ⟨hr.1, ?_⟩
          replace hr := hr.2
          refine ⟨hr.1, ?_⟩
          replace hr := hr.2
          refine ⟨hr.1, ?_⟩
          replace hr := hr.2
          refine ⟨hr.1, ?_⟩
          replace hr := hr.2
          refine ⟨hr.1, ?_⟩
          replace hr := hr.2
          refine ⟨hr.1, ?_⟩
          replace hr := hr.2
          refine ⟨hr.1, ?_⟩
          replace hr := hr.2
          refine ⟨hr.1, ?_⟩
          replace hr := hr.2
          refine ⟨hr.1, ?_⟩
          replace hr := hr.2
          refine ⟨hr.1, ?_⟩
          replace hr := hr.2
          refine ⟨hr.1, ?_⟩
          replace hr := hr.2
          refine ⟨fun c => ?_, fun c => ?_⟩
          · replace hr := hr.1 c
            replace h := q1p c h
            first | exact ihl.1 a1 (gI s ((gDx s 2) + 1) ((gI s 234 (a1).toNatClampNeg)).toNatClampNeg) (gI s ((gDx s 2) + 2) ((gI s 234 (a1).toNatClampNeg)).toNatClampNeg) (gI s ((gDx s 2) + 4) ((gI s 234 (a1).toNatClampNeg)).toNatClampNeg) (1 : Int32) (gI s 233 8) _ Q hr h | contradiction
          · replace hr := hr.2 c
            replace h := q1n c h
            refine ⟨hr.1, ?_⟩
            replace hr := hr.2
            refine ⟨fun c => ?_, fun c => ?_⟩
            · replace hr := hr.1 c
              replace h := q1n c h
              first | exact ihl.2.1 a1 (gI s ((gDx s 2) + 1) ((gI s 234 (a1).toNatClampNeg)).toNatClampNeg) (gI s ((gDx s 2) + 2) ((gI s 234 (a1).toNatClampNeg)).toNatClampNeg) (gI s ((gDx s 2) + 4) ((gI s 234 (a1).toNatClampNeg)).toNatClampNeg) (1 : Int32) (gI s 233 8) (if (1 : Int32) < (1 : Int32) then (1 : Int32) else (1 : Int32)) _ Q hr h | contradiction
            · replace hr := hr.2 c
              replace h := q1p c h
              first | exact ihl.1 a1 (gI s ((gDx s 2) + 1) ((gI s 234 (a1).toNatClampNeg)).toNatClampNeg) (gI s ((gDx s 2) + 2) ((gI s 234 (a1).toNatClampNeg)).toNatClampNeg) (gI s ((gDx s 2) + 4) ((gI s 234 (a1).toNatClampNeg)).toNatClampNeg) (1 : Int32) (gI s 233 8) _ Q hr h | contradiction
        · replace hr := hr.2 c
          replace h := q1n c h
          refine ⟨hr, ?_⟩
          first | exact h | contradiction
set_option maxRecDepth 1000000 in
theorem pX1_tryFrom (a1 : Int32) {s : SM} {Q : SM → Prop} (hr : rX1_tryFrom s a1) (h : Q (mX1_tryFrom s a1)) : KV MX1_tryFrom 404 [.ref 233, .int a1] s Q := (gX1_tryFrom 400 400 (Nat.le_refl _)).2.2.2.2.2 a1 s Q hr h
set_option maxRecDepth 1000000 in
theorem bX5_place_30 {e : Nat} (a1 : Int32) (a2 : Int32) {s : SM} {Q : SM → Prop} (h : (∀ s1, s1 = (cI (pI s 225 9 a2) 230 (va_cpy (gI (pI s 225 9 a2) 229) (gI (pI s 225 9 a2) 230) ((0 : Int32)).toNatClampNeg ((0 : Int32)).toNatClampNeg ((6 : Int32)).toNatClampNeg)) → Q s1)) : BV MX5_place (e + 4) 30 [(0, .ref 225), (1, .int a1), (2, .int a2)] s Q := by
  refine JT_aload_n (q := 0) dX5_place_30 rfl rfl ?_
  refine JT_iload_n (q := 2) dX5_place_31 rfl rfl ?_
  refine JS_putI dX5_place_32 flX5_75 BS_225 (Nat.le_of_ble_eq_true rfl) (Nat.le_of_ble_eq_true rfl) ct_5_9 ?_
  refine JT_aload_n (q := 0) dX5_place_35 rfl rfl ?_
  refine JS_getR (x := 229) dX5_place_36 flX5_21 BS_225 (Nat.le_of_ble_eq_true rfl) (Nat.le_of_ble_eq_true rfl) (Or.inr ⟨_, ct_5_5⟩) RF_225_5 ?_
  refine JT_iconst (v := 0) dX5_place_39 ic_0 ?_
  refine JT_aload_n (q := 0) dX5_place_40 rfl rfl ?_
  refine JS_getR (x := 230) dX5_place_41 flX5_24 BS_225 (Nat.le_of_ble_eq_true rfl) (Nat.le_of_ble_eq_true rfl) (Or.inr ⟨_, ct_5_6⟩) RF_225_6 ?_
  refine JT_iconst (v := 0) dX5_place_44 ic_0 ?_
  refine JT_bipush (v := 6) dX5_place_45 bp_6 ?_
  refine JS_copyI (d2 := e + 3) (na := 6) (nb := 6) dX5_place_47 mlX5_65 BS_230 (Nat.le_of_ble_eq_true rfl) (Nat.le_of_ble_eq_true rfl) BS_229 (Nat.le_of_ble_eq_true rfl) (Nat.le_of_ble_eq_true rfl) (by decide) (by decide) (by decide) (by decide) (by decide) (Nat.le_of_ble_eq_true rfl) rfl ?_
  obtain ⟨s1, hs1⟩ : ∃ z, z = (cI (pI s 225 9 a2) 230 (va_cpy (gI (pI s 225 9 a2) 229) (gI (pI s 225 9 a2) 230) ((0 : Int32)).toNatClampNeg ((0 : Int32)).toNatClampNeg ((6 : Int32)).toNatClampNeg)) := ⟨_, rfl⟩
  replace h := h s1 hs1
  rw [← hs1]
  exact JS_vret dX5_place_50 rfl h
set_option maxRecDepth 1000000 in
theorem bX5_place_100 {e : Nat} (a1 : Int32) (a2 : Int32) (a3 : Int32) {s : SM} {Q : SM → Prop} (h : (((4 : Int32) ≤ a3 → BV MX5_place (e + 4) 118 [(0, .ref 225), (1, .int a1), (2, .int a2)] s Q) ∧ (¬ (4 : Int32) ≤ a3 → KV MX5_placeBy (e + 3) [.ref 225, .int a1, .int a3, .int a2] s (fun s1 => BV MX5_place (e + 4) 100 [(0, .ref 225), (1, .int a1), (2, .int a2), (3, .int (a3 + 1))] s1 Q)))) : BV MX5_place (e + 4) 100 [(0, .ref 225), (1, .int a1), (2, .int a2), (3, .int a3)] s Q := by
  refine JT_iload_n (q := 3) dX5_place_100 rfl rfl ?_
  refine JT_iconst (v := 4) dX5_place_101 ic_4 ?_
  refine JT_icmp_ge (tgt := 118) dX5_place_102 (by decide) (fun hc3 => ?_) (fun hc3 => ?_)
  · have h := h.1 hc3
    exact JT_sub [0, 1, 2] rfl h
  · have h := h.2 hc3
    refine JT_aload_n (q := 0) dX5_place_105 rfl rfl ?_
    refine JT_iload_n (q := 1) dX5_place_106 rfl rfl ?_
    refine JT_iload_n (q := 3) dX5_place_107 rfl rfl ?_
    refine JT_iload_n (q := 2) dX5_place_108 rfl rfl ?_
    refine JS_callVV (M' := MX5_placeBy) (d' := e + 3) (As := [.int a1, .int a3, .int a2]) (rest := []) dX5_place_109 cvX5_91 okX5_placeBy rfl (Nat.le_of_ble_eq_true rfl) BS_225 (Nat.le_of_ble_eq_true rfl) (Nat.le_of_ble_eq_true rfl) hci_5 (Nat.le_of_ble_eq_true rfl) (by show e + 3 + 1 ≤ e + 4; omega) h (fun s1 h => ?_)
    refine JT_iinc (q := 3) (v := (a3 + 1)) (lv' := [(3, .int (a3 + 1)), (0, .ref 225), (1, .int a1), (2, .int a2)]) dX5_place_112 rfl (by rfl) (Nat.le_of_ble_eq_true rfl) rfl ?_
    refine JT_goto (tgt := 100) dX5_place_115 (by decide) ?_
    exact JT_sub [1, 2, 3, 0] rfl h
set_option maxRecDepth 1000000 in
theorem bX5_place_118 {e : Nat} (a1 : Int32) (a2 : Int32) {s : SM} {Q : SM → Prop} (h : vp_in a1 6 ∧ KV MX5_place (e + 3) [.ref 225, .int (a1 + (1 : Int32)), .int a2] (pI s 229 (a1).toNatClampNeg (4 : Int32)) (fun s2 => Q s2)) : BV MX5_place (e + 4) 118 [(0, .ref 225), (1, .int a1), (2, .int a2)] s Q := by
  refine JT_aload_n (q := 0) dX5_place_118 rfl rfl ?_
  refine JS_getR (x := 229) dX5_place_119 flX5_21 BS_225 (Nat.le_of_ble_eq_true rfl) (Nat.le_of_ble_eq_true rfl) (Or.inr ⟨_, ct_5_5⟩) RF_225_5 ?_
  refine JT_iload_n (q := 1) dX5_place_122 rfl rfl ?_
  refine JT_iconst (v := 4) dX5_place_123 ic_4 ?_
  obtain ⟨o1, h⟩ := h
  refine JS_iast dX5_place_124 BS_229 (Nat.le_of_ble_eq_true rfl) (Nat.le_of_ble_eq_true rfl) o1 ?_
  refine JT_aload_n (q := 0) dX5_place_125 rfl rfl ?_
  refine JT_iload_n (q := 1) dX5_place_126 rfl rfl ?_
  refine JT_iconst (v := 1) dX5_place_127 ic_1 ?_
  refine JT_iadd dX5_place_128 ?_
  refine JT_iload_n (q := 2) dX5_place_129 rfl rfl ?_
  refine JS_callVV (M' := MX5_place) (d' := e + 3) (As := [.int (a1 + (1 : Int32)), .int a2]) (rest := []) dX5_place_130 cvX5_83 okX5_place rfl (Nat.le_of_ble_eq_true rfl) BS_225 (Nat.le_of_ble_eq_true rfl) (Nat.le_of_ble_eq_true rfl) hci_5 (Nat.le_of_ble_eq_true rfl) (by show e + 3 + 1 ≤ e + 4; omega) h (fun s2 h => ?_)
  exact JS_vret dX5_place_133 rfl h
set_option maxRecDepth 1000000 in
theorem bX5_place {e : Nat} (a1 : Int32) (a2 : Int32) {s : SM} {Q : SM → Prop} (h : (((gI s 225 9) < ((a2 + (gI s 225 0)) - a1) → (((gI s 225 0) ≤ a1 → BV MX5_place (e + 4) 30 [(0, .ref 225), (1, .int a1), (2, .int a2)] s Q) ∧ (¬ (gI s 225 0) ≤ a1 → ((a1 < (6 : Int32) → vp_in a1 6 ∧ vp_in a1 6 ∧ (((gI s 226 (a1).toNatClampNeg) = (gI s 227 (a1).toNatClampNeg) → BV MX5_place (e + 4) 118 [(0, .ref 225), (1, .int a1), (2, .int a2)] s Q) ∧ (¬ (gI s 226 (a1).toNatClampNeg) = (gI s 227 (a1).toNatClampNeg) → gD s 1 = some (gDx s 1) ∧ ((gDx s 1), rfx (gDx s 1) 8) ∈ LX ∧ vp_in a1 6 ∧ (((vX4_lives s (gDx s 1) (rfx (gDx s 1) 8) (gI s 226 (a1).toNatClampNeg)) = 0 → BV MX5_place (e + 4) 118 [(0, .ref 225), (1, .int a1), (2, .int a2)] s Q) ∧ (¬ (vX4_lives s (gDx s 1) (rfx (gDx s 1) 8) (gI s 226 (a1).toNatClampNeg)) = 0 → gD s 1 = some (gDx s 1) ∧ ((gDx s 1), rfx (gDx s 1) 8) ∈ LX ∧ vp_in a1 6 ∧ (((vX4_lives s (gDx s 1) (rfx (gDx s 1) 8) (gI s 227 (a1).toNatClampNeg)) = 0 → BV MX5_place (e + 4) 118 [(0, .ref 225), (1, .int a1), (2, .int a2)] s Q) ∧ (¬ (vX4_lives s (gDx s 1) (rfx (gDx s 1) 8) (gI s 227 (a1).toNatClampNeg)) = 0 → BV MX5_place (e + 4) 100 [(0, .ref 225), (1, .int a1), (2, .int a2), (3, .int (0 : Int32))] s Q))))))) ∧ (¬ a1 < (6 : Int32) → BV MX5_place (e + 4) 30 [(0, .ref 225), (1, .int a1), (2, .int a2)] s Q))))) ∧ (¬ (gI s 225 9) < ((a2 + (gI s 225 0)) - a1) → Q s))) : KV MX5_place (e + 4) [.ref 225, .int a1, .int a2] s Q := by
  show BV MX5_place (e + 4) 0 [(0, .ref 225), (1, .int a1), (2, .int a2)] s Q
  refine JT_iload_n (q := 2) dX5_place_0 rfl rfl ?_
  refine JT_aload_n (q := 0) dX5_place_1 rfl rfl ?_
  refine JS_getI dX5_place_2 flX5_58 BS_225 (Nat.le_of_ble_eq_true rfl) (Nat.le_of_ble_eq_true rfl) (Or.inl ct_5_0) ?_
  refine JT_iadd dX5_place_5 ?_
  refine JT_iload_n (q := 1) dX5_place_6 rfl rfl ?_
  refine JT_isub dX5_place_7 ?_
  refine JT_aload_n (q := 0) dX5_place_8 rfl rfl ?_
  refine JS_getI dX5_place_9 flX5_75 BS_225 (Nat.le_of_ble_eq_true rfl) (Nat.le_of_ble_eq_true rfl) (Or.inl ct_5_9) ?_
  refine JT_icmp_gt (tgt := 16) dX5_place_12 (by decide) (fun hc16 => ?_) (fun hc16 => ?_)
  · have h := h.1 hc16
    refine JT_iload_n (q := 1) dX5_place_16 rfl rfl ?_
    refine JT_aload_n (q := 0) dX5_place_17 rfl rfl ?_
    refine JS_getI dX5_place_18 flX5_58 BS_225 (Nat.le_of_ble_eq_true rfl) (Nat.le_of_ble_eq_true rfl) (Or.inl ct_5_0) ?_
    refine JT_icmp_ge (tgt := 30) dX5_place_21 (by decide) (fun hc15 => ?_) (fun hc15 => ?_)
    · have h := h.1 hc15
      exact JT_sub [0, 1, 2] rfl h
    · have h := h.2 hc15
      refine JT_iload_n (q := 1) dX5_place_24 rfl rfl ?_
      refine JT_bipush (v := 6) dX5_place_25 bp_6 ?_
      refine JT_icmp_lt (tgt := 51) dX5_place_27 (by decide) (fun hc14 => ?_) (fun hc14 => ?_)
      · have h := h.1 hc14
        refine JT_aload_n (q := 0) dX5_place_51 rfl rfl ?_
        refine JS_getR (x := 226) dX5_place_52 flX5_9 BS_225 (Nat.le_of_ble_eq_true rfl) (Nat.le_of_ble_eq_true rfl) (Or.inr ⟨_, ct_5_2⟩) RF_225_2 ?_
        refine JT_iload_n (q := 1) dX5_place_55 rfl rfl ?_
        obtain ⟨o1, h⟩ := h
        refine JS_iald dX5_place_56 BS_226 (Nat.le_of_ble_eq_true rfl) (Nat.le_of_ble_eq_true rfl) o1 ?_
        refine JT_aload_n (q := 0) dX5_place_57 rfl rfl ?_
        refine JS_getR (x := 227) dX5_place_58 flX5_15 BS_225 (Nat.le_of_ble_eq_true rfl) (Nat.le_of_ble_eq_true rfl) (Or.inr ⟨_, ct_5_3⟩) RF_225_3 ?_
        refine JT_iload_n (q := 1) dX5_place_61 rfl rfl ?_
        obtain ⟨o2, h⟩ := h
        refine JS_iald dX5_place_62 BS_227 (Nat.le_of_ble_eq_true rfl) (Nat.le_of_ble_eq_true rfl) o2 ?_
        refine JT_icmp_eq (tgt := 118) dX5_place_63 (by decide) (fun hc13 => ?_) (fun hc13 => ?_)
        · have h := h.1 hc13
          exact JT_sub [0, 1, 2] rfl h
        · have h := h.2 hc13
          refine JT_aload_n (q := 0) dX5_place_66 rfl rfl ?_
          obtain ⟨hr3, hL4, h⟩ := h
          refine JS_getR (x := (gDx s 1)) dX5_place_67 flX5_71 BS_225 (Nat.le_of_ble_eq_true rfl) (Nat.le_of_ble_eq_true rfl) (Or.inl ⟨_, ct_5_10⟩) (RF_225_10.trans hr3) ?_
          refine JT_aload_n (q := 0) dX5_place_70 rfl rfl ?_
          refine JS_getR (x := 226) dX5_place_71 flX5_9 BS_225 (Nat.le_of_ble_eq_true rfl) (Nat.le_of_ble_eq_true rfl) (Or.inr ⟨_, ct_5_2⟩) RF_225_2 ?_
          refine JT_iload_n (q := 1) dX5_place_74 rfl rfl ?_
          obtain ⟨o5, h⟩ := h
          refine JS_iald dX5_place_75 BS_226 (Nat.le_of_ble_eq_true rfl) (Nat.le_of_ble_eq_true rfl) o5 ?_
          refine JS_callVI (M' := MX4_lives) (d' := 0) (As := [.int (gI s 226 (a1).toNatClampNeg)]) (rest := []) (P := (fun zv9 wm9 => (vX4_lives s (gDx s 1) (rfx (gDx s 1) 8) (gI s 226 (a1).toNatClampNeg)) = zv9 ∧ s = wm9)) dX5_place_76 cvX5_87 okX4_lives rfl (Nat.le_of_ble_eq_true rfl) (lxB hL4) (lx2 hL4) (lxN hL4) hci_4 (Nat.le_of_ble_eq_true rfl) (by show 0 + 1 ≤ e + 4; omega) (pX4_lives hL4 ((gI s 226 (a1).toNatClampNeg))  ⟨rfl, rfl⟩) (fun zv9 wm9 hq9 => ?_)
          obtain ⟨rfl, rfl⟩ := hq9
          refine JT_if_eq (tgt := 118) dX5_place_79 (by decide) (fun hc11 => ?_) (fun hc11 => ?_)
          · have h := h.1 hc11
            exact JT_sub [0, 1, 2] rfl h
          · have h := h.2 hc11
            refine JT_aload_n (q := 0) dX5_place_82 rfl rfl ?_
            obtain ⟨hr6, hL7, h⟩ := h
            refine JS_getR (x := (gDx s 1)) dX5_place_83 flX5_71 BS_225 (Nat.le_of_ble_eq_true rfl) (Nat.le_of_ble_eq_true rfl) (Or.inl ⟨_, ct_5_10⟩) (RF_225_10.trans hr6) ?_
            refine JT_aload_n (q := 0) dX5_place_86 rfl rfl ?_
            refine JS_getR (x := 227) dX5_place_87 flX5_15 BS_225 (Nat.le_of_ble_eq_true rfl) (Nat.le_of_ble_eq_true rfl) (Or.inr ⟨_, ct_5_3⟩) RF_225_3 ?_
            refine JT_iload_n (q := 1) dX5_place_90 rfl rfl ?_
            obtain ⟨o8, h⟩ := h
            refine JS_iald dX5_place_91 BS_227 (Nat.le_of_ble_eq_true rfl) (Nat.le_of_ble_eq_true rfl) o8 ?_
            refine JS_callVI (M' := MX4_lives) (d' := 0) (As := [.int (gI s 227 (a1).toNatClampNeg)]) (rest := []) (P := (fun zv9 wm9 => (vX4_lives s (gDx s 1) (rfx (gDx s 1) 8) (gI s 227 (a1).toNatClampNeg)) = zv9 ∧ s = wm9)) dX5_place_92 cvX5_87 okX4_lives rfl (Nat.le_of_ble_eq_true rfl) (lxB hL7) (lx2 hL7) (lxN hL7) hci_4 (Nat.le_of_ble_eq_true rfl) (by show 0 + 1 ≤ e + 4; omega) (pX4_lives hL7 ((gI s 227 (a1).toNatClampNeg))  ⟨rfl, rfl⟩) (fun zv9 wm9 hq9 => ?_)
            obtain ⟨rfl, rfl⟩ := hq9
            refine JT_if_eq (tgt := 118) dX5_place_95 (by decide) (fun hc9 => ?_) (fun hc9 => ?_)
            · have h := h.1 hc9
              exact JT_sub [0, 1, 2] rfl h
            · have h := h.2 hc9
              refine JT_iconst (v := 0) dX5_place_98 ic_0 ?_
              refine JT_istore_n (lv' := [(3, .int (0 : Int32)), (0, .ref 225), (1, .int a1), (2, .int a2)]) dX5_place_99 rfl (Nat.le_of_ble_eq_true rfl) rfl ?_
              exact JT_sub [1, 2, 3, 0] rfl h
      · have h := h.2 hc14
        exact JT_sub [0, 1, 2] rfl h
  · have h := h.2 hc16
    exact JS_vret dX5_place_15 rfl h
set_option maxRecDepth 1000000 in
theorem bX5_placeBy_185 {e : Nat} (a1 : Int32) (a2 : Int32) (a3 : Int32) (a4 : Int32) (a5 : Int32) (a6 : Int32) {s : SM} {Q : SM → Prop} (h : vp_in a4 9 ∧ vp_in a4 9 ∧ vp_in a5 9 ∧ vp_in a5 9 ∧ (∀ s5, s5 = (pI (pI s 232 (a4).toNatClampNeg ((gI s 232 (a4).toNatClampNeg) + a6)) 232 (a5).toNatClampNeg ((gI (pI s 232 (a4).toNatClampNeg ((gI s 232 (a4).toNatClampNeg) + a6)) 232 (a5).toNatClampNeg) + a6)) → Q s5)) : BV MX5_placeBy (e + 4) 185 [(0, .ref 225), (1, .int a1), (2, .int a2), (3, .int a3), (4, .int a4), (5, .int a5), (6, .int a6)] s Q := by
  refine JT_aload_n (q := 0) dX5_placeBy_185 rfl rfl ?_
  refine JS_getR (x := 232) dX5_placeBy_186 flX5_30 BS_225 (Nat.le_of_ble_eq_true rfl) (Nat.le_of_ble_eq_true rfl) (Or.inr ⟨_, ct_5_8⟩) RF_225_8 ?_
  refine JT_iload (q := 4) dX5_placeBy_189 rfl ?_
  refine JT_dup2 dX5_placeBy_191 rfl rfl ?_
  obtain ⟨o1, h⟩ := h
  refine JS_iald dX5_placeBy_192 BS_232 (Nat.le_of_ble_eq_true rfl) (Nat.le_of_ble_eq_true rfl) o1 ?_
  refine JT_iload (q := 6) dX5_placeBy_193 rfl ?_
  refine JT_iadd dX5_placeBy_195 ?_
  obtain ⟨o2, h⟩ := h
  refine JS_iast dX5_placeBy_196 BS_232 (Nat.le_of_ble_eq_true rfl) (Nat.le_of_ble_eq_true rfl) o2 ?_
  refine JT_aload_n (q := 0) dX5_placeBy_197 rfl rfl ?_
  refine JS_getR (x := 232) dX5_placeBy_198 flX5_30 BS_225 (Nat.le_of_ble_eq_true rfl) (Nat.le_of_ble_eq_true rfl) (Or.inr ⟨_, ct_5_8⟩) RF_225_8 ?_
  refine JT_iload (q := 5) dX5_placeBy_201 rfl ?_
  refine JT_dup2 dX5_placeBy_203 rfl rfl ?_
  obtain ⟨o3, h⟩ := h
  refine JS_iald dX5_placeBy_204 BS_232 (Nat.le_of_ble_eq_true rfl) (Nat.le_of_ble_eq_true rfl) o3 ?_
  refine JT_iload (q := 6) dX5_placeBy_205 rfl ?_
  refine JT_iadd dX5_placeBy_207 ?_
  obtain ⟨o4, h⟩ := h
  refine JS_iast dX5_placeBy_208 BS_232 (Nat.le_of_ble_eq_true rfl) (Nat.le_of_ble_eq_true rfl) o4 ?_
  obtain ⟨s5, hs5⟩ : ∃ z, z = (pI (pI s 232 (a4).toNatClampNeg ((gI s 232 (a4).toNatClampNeg) + a6)) 232 (a5).toNatClampNeg ((gI (pI s 232 (a4).toNatClampNeg ((gI s 232 (a4).toNatClampNeg) + a6)) 232 (a5).toNatClampNeg) + a6)) := ⟨_, rfl⟩
  replace h := h s5 hs5
  rw [← hs5]
  exact JS_vret dX5_placeBy_209 rfl h
set_option maxRecDepth 1000000 in
theorem bX5_placeBy {e : Nat} (a1 : Int32) (a2 : Int32) (a3 : Int32) {s : SM} {Q : SM → Prop} (h : ((¬ (a2 &&& (1 : Int32)) = 0 → gD s 1 = some (gDx s 1) ∧ ((gDx s 1), rfx (gDx s 1) 8) ∈ LX ∧ vp_in a1 6 ∧ vp_in (gI s 226 (a1).toNatClampNeg) 9 ∧ ((¬ (a2 &&& (2 : Int32)) = 0 → gD s 1 = some (gDx s 1) ∧ ((gDx s 1), rfx (gDx s 1) 8) ∈ LX ∧ vp_in a1 6 ∧ vp_in (gI s 227 (a1).toNatClampNeg) 9 ∧ (((gI s ((rfx (gDx s 1) 8) + 3) ((gI s 226 (a1).toNatClampNeg)).toNatClampNeg) = (-1 : Int32) → Q s) ∧ (¬ (gI s ((rfx (gDx s 1) 8) + 3) ((gI s 226 (a1).toNatClampNeg)).toNatClampNeg) = (-1 : Int32) → (((gI s ((rfx (gDx s 1) 8) + 3) ((gI s 227 (a1).toNatClampNeg)).toNatClampNeg) = (-1 : Int32) → Q s) ∧ (¬ (gI s ((rfx (gDx s 1) 8) + 3) ((gI s 227 (a1).toNatClampNeg)).toNatClampNeg) = (-1 : Int32) → gD s 1 = some (gDx s 1) ∧ ((gDx s 1), rfx (gDx s 1) 8) ∈ LX ∧ (((vX4_lives s (gDx s 1) (rfx (gDx s 1) 8) (gI s ((rfx (gDx s 1) 8) + 3) ((gI s 226 (a1).toNatClampNeg)).toNatClampNeg)) = 0 → Q s) ∧ (¬ (vX4_lives s (gDx s 1) (rfx (gDx s 1) 8) (gI s ((rfx (gDx s 1) 8) + 3) ((gI s 226 (a1).toNatClampNeg)).toNatClampNeg)) = 0 → gD s 1 = some (gDx s 1) ∧ ((gDx s 1), rfx (gDx s 1) 8) ∈ LX ∧ ((¬ (vX4_lives s (gDx s 1) (rfx (gDx s 1) 8) (gI s ((rfx (gDx s 1) 8) + 3) ((gI s 227 (a1).toNatClampNeg)).toNatClampNeg)) = 0 → gD s 1 = some (gDx s 1) ∧ ((gDx s 1), rfx (gDx s 1) 8) ∈ LX ∧ vp_in a1 6 ∧ vp_in (gI s 228 (a1).toNatClampNeg) 6 ∧ vp_in (gI s ((rfx (gDx s 1) 8) + 3) ((gI s 226 (a1).toNatClampNeg)).toNatClampNeg) 9 ∧ vp_in (gI s ((rfx (gDx s 1) 8) + 3) ((gI s 226 (a1).toNatClampNeg)).toNatClampNeg) 9 ∧ (∀ s19, s19 = (pI s 232 ((gI s ((rfx (gDx s 1) 8) + 3) ((gI s 226 (a1).toNatClampNeg)).toNatClampNeg)).toNatClampNeg ((gI s 232 ((gI s ((rfx (gDx s 1) 8) + 3) ((gI s 226 (a1).toNatClampNeg)).toNatClampNeg)).toNatClampNeg) - (gI s ((rfx (gDx s 1) 8) + 5) ((gI s 228 (a1).toNatClampNeg)).toNatClampNeg))) → vp_in (gI s ((rfx (gDx s 1) 8) + 3) ((gI s 227 (a1).toNatClampNeg)).toNatClampNeg) 9 ∧ vp_in (gI s ((rfx (gDx s 1) 8) + 3) ((gI s 227 (a1).toNatClampNeg)).toNatClampNeg) 9 ∧ (∀ s22, s22 = (pI s19 232 ((gI s ((rfx (gDx s 1) 8) + 3) ((gI s 227 (a1).toNatClampNeg)).toNatClampNeg)).toNatClampNeg ((gI s19 232 ((gI s ((rfx (gDx s 1) 8) + 3) ((gI s 227 (a1).toNatClampNeg)).toNatClampNeg)).toNatClampNeg) - (gI s ((rfx (gDx s 1) 8) + 5) ((gI s 228 (a1).toNatClampNeg)).toNatClampNeg))) → vp_in (gI s ((rfx (gDx s 1) 8) + 3) ((gI s 226 (a1).toNatClampNeg)).toNatClampNeg) 9 ∧ (((gI s22 232 ((gI s ((rfx (gDx s 1) 8) + 3) ((gI s 226 (a1).toNatClampNeg)).toNatClampNeg)).toNatClampNeg) < 0 → BV MX5_placeBy (e + 4) 185 [(0, .ref 225), (1, .int a1), (2, .int a2), (3, .int a3), (4, .int (gI s ((rfx (gDx s 1) 8) + 3) ((gI s 226 (a1).toNatClampNeg)).toNatClampNeg)), (5, .int (gI s ((rfx (gDx s 1) 8) + 3) ((gI s 227 (a1).toNatClampNeg)).toNatClampNeg)), (6, .int (gI s ((rfx (gDx s 1) 8) + 5) ((gI s 228 (a1).toNatClampNeg)).toNatClampNeg))] s22 Q) ∧ (¬ (gI s22 232 ((gI s ((rfx (gDx s 1) 8) + 3) ((gI s 226 (a1).toNatClampNeg)).toNatClampNeg)).toNatClampNeg) < 0 → vp_in (gI s ((rfx (gDx s 1) 8) + 3) ((gI s 227 (a1).toNatClampNeg)).toNatClampNeg) 9 ∧ (((gI s22 232 ((gI s ((rfx (gDx s 1) 8) + 3) ((gI s 227 (a1).toNatClampNeg)).toNatClampNeg)).toNatClampNeg) < 0 → BV MX5_placeBy (e + 4) 185 [(0, .ref 225), (1, .int a1), (2, .int a2), (3, .int a3), (4, .int (gI s ((rfx (gDx s 1) 8) + 3) ((gI s 226 (a1).toNatClampNeg)).toNatClampNeg)), (5, .int (gI s ((rfx (gDx s 1) 8) + 3) ((gI s 227 (a1).toNatClampNeg)).toNatClampNeg)), (6, .int (gI s ((rfx (gDx s 1) 8) + 5) ((gI s 228 (a1).toNatClampNeg)).toNatClampNeg))] s22 Q) ∧ (¬ (gI s22 232 ((gI s ((rfx (gDx s 1) 8) + 3) ((gI s 227 (a1).toNatClampNeg)).toNatClampNeg)).toNatClampNeg) < 0 → vp_in a1 6 ∧ KV MX5_place (e + 3) [.ref 225, .int (a1 + (1 : Int32)), .int (a3 + (1 : Int32))] (pI s22 229 (a1).toNatClampNeg a2) (fun s26 => BV MX5_placeBy (e + 4) 185 [(0, .ref 225), (1, .int a1), (2, .int a2), (3, .int a3), (4, .int (gI s ((rfx (gDx s 1) 8) + 3) ((gI s 226 (a1).toNatClampNeg)).toNatClampNeg)), (5, .int (gI s ((rfx (gDx s 1) 8) + 3) ((gI s 227 (a1).toNatClampNeg)).toNatClampNeg)), (6, .int (gI s ((rfx (gDx s 1) 8) + 5) ((gI s 228 (a1).toNatClampNeg)).toNatClampNeg))] s26 Q)))))))) ∧ ((vX4_lives s (gDx s 1) (rfx (gDx s 1) 8) (gI s ((rfx (gDx s 1) 8) + 3) ((gI s 227 (a1).toNatClampNeg)).toNatClampNeg)) = 0 → Q s))))))))) ∧ ((a2 &&& (2 : Int32)) = 0 → vp_in a1 6 ∧ (((gI s ((rfx (gDx s 1) 8) + 3) ((gI s 226 (a1).toNatClampNeg)).toNatClampNeg) = (-1 : Int32) → Q s) ∧ (¬ (gI s ((rfx (gDx s 1) 8) + 3) ((gI s 226 (a1).toNatClampNeg)).toNatClampNeg) = (-1 : Int32) → (((gI s 227 (a1).toNatClampNeg) = (-1 : Int32) → Q s) ∧ (¬ (gI s 227 (a1).toNatClampNeg) = (-1 : Int32) → gD s 1 = some (gDx s 1) ∧ ((gDx s 1), rfx (gDx s 1) 8) ∈ LX ∧ (((vX4_lives s (gDx s 1) (rfx (gDx s 1) 8) (gI s ((rfx (gDx s 1) 8) + 3) ((gI s 226 (a1).toNatClampNeg)).toNatClampNeg)) = 0 → Q s) ∧ (¬ (vX4_lives s (gDx s 1) (rfx (gDx s 1) 8) (gI s ((rfx (gDx s 1) 8) + 3) ((gI s 226 (a1).toNatClampNeg)).toNatClampNeg)) = 0 → gD s 1 = some (gDx s 1) ∧ ((gDx s 1), rfx (gDx s 1) 8) ∈ LX ∧ ((¬ (vX4_lives s (gDx s 1) (rfx (gDx s 1) 8) (gI s 227 (a1).toNatClampNeg)) = 0 → gD s 1 = some (gDx s 1) ∧ ((gDx s 1), rfx (gDx s 1) 8) ∈ LX ∧ vp_in a1 6 ∧ vp_in (gI s 228 (a1).toNatClampNeg) 6 ∧ vp_in (gI s ((rfx (gDx s 1) 8) + 3) ((gI s 226 (a1).toNatClampNeg)).toNatClampNeg) 9 ∧ vp_in (gI s ((rfx (gDx s 1) 8) + 3) ((gI s 226 (a1).toNatClampNeg)).toNatClampNeg) 9 ∧ (∀ s47, s47 = (pI s 232 ((gI s ((rfx (gDx s 1) 8) + 3) ((gI s 226 (a1).toNatClampNeg)).toNatClampNeg)).toNatClampNeg ((gI s 232 ((gI s ((rfx (gDx s 1) 8) + 3) ((gI s 226 (a1).toNatClampNeg)).toNatClampNeg)).toNatClampNeg) - (gI s ((rfx (gDx s 1) 8) + 5) ((gI s 228 (a1).toNatClampNeg)).toNatClampNeg))) → vp_in (gI s 227 (a1).toNatClampNeg) 9 ∧ vp_in (gI s 227 (a1).toNatClampNeg) 9 ∧ (∀ s50, s50 = (pI s47 232 ((gI s 227 (a1).toNatClampNeg)).toNatClampNeg ((gI s47 232 ((gI s 227 (a1).toNatClampNeg)).toNatClampNeg) - (gI s ((rfx (gDx s 1) 8) + 5) ((gI s 228 (a1).toNatClampNeg)).toNatClampNeg))) → vp_in (gI s ((rfx (gDx s 1) 8) + 3) ((gI s 226 (a1).toNatClampNeg)).toNatClampNeg) 9 ∧ (((gI s50 232 ((gI s ((rfx (gDx s 1) 8) + 3) ((gI s 226 (a1).toNatClampNeg)).toNatClampNeg)).toNatClampNeg) < 0 → BV MX5_placeBy (e + 4) 185 [(0, .ref 225), (1, .int a1), (2, .int a2), (3, .int a3), (4, .int (gI s ((rfx (gDx s 1) 8) + 3) ((gI s 226 (a1).toNatClampNeg)).toNatClampNeg)), (5, .int (gI s 227 (a1).toNatClampNeg)), (6, .int (gI s ((rfx (gDx s 1) 8) + 5) ((gI s 228 (a1).toNatClampNeg)).toNatClampNeg))] s50 Q) ∧ (¬ (gI s50 232 ((gI s ((rfx (gDx s 1) 8) + 3) ((gI s 226 (a1).toNatClampNeg)).toNatClampNeg)).toNatClampNeg) < 0 → vp_in (gI s 227 (a1).toNatClampNeg) 9 ∧ (((gI s50 232 ((gI s 227 (a1).toNatClampNeg)).toNatClampNeg) < 0 → BV MX5_placeBy (e + 4) 185 [(0, .ref 225), (1, .int a1), (2, .int a2), (3, .int a3), (4, .int (gI s ((rfx (gDx s 1) 8) + 3) ((gI s 226 (a1).toNatClampNeg)).toNatClampNeg)), (5, .int (gI s 227 (a1).toNatClampNeg)), (6, .int (gI s ((rfx (gDx s 1) 8) + 5) ((gI s 228 (a1).toNatClampNeg)).toNatClampNeg))] s50 Q) ∧ (¬ (gI s50 232 ((gI s 227 (a1).toNatClampNeg)).toNatClampNeg) < 0 → vp_in a1 6 ∧ KV MX5_place (e + 3) [.ref 225, .int (a1 + (1 : Int32)), .int (a3 + (1 : Int32))] (pI s50 229 (a1).toNatClampNeg a2) (fun s54 => BV MX5_placeBy (e + 4) 185 [(0, .ref 225), (1, .int a1), (2, .int a2), (3, .int a3), (4, .int (gI s ((rfx (gDx s 1) 8) + 3) ((gI s 226 (a1).toNatClampNeg)).toNatClampNeg)), (5, .int (gI s 227 (a1).toNatClampNeg)), (6, .int (gI s ((rfx (gDx s 1) 8) + 5) ((gI s 228 (a1).toNatClampNeg)).toNatClampNeg))] s54 Q)))))))) ∧ ((vX4_lives s (gDx s 1) (rfx (gDx s 1) 8) (gI s 227 (a1).toNatClampNeg)) = 0 → Q s))))))))))) ∧ ((a2 &&& (1 : Int32)) = 0 → vp_in a1 6 ∧ ((¬ (a2 &&& (2 : Int32)) = 0 → gD s 1 = some (gDx s 1) ∧ ((gDx s 1), rfx (gDx s 1) 8) ∈ LX ∧ vp_in a1 6 ∧ vp_in (gI s 227 (a1).toNatClampNeg) 9 ∧ (((gI s 226 (a1).toNatClampNeg) = (-1 : Int32) → Q s) ∧ (¬ (gI s 226 (a1).toNatClampNeg) = (-1 : Int32) → (((gI s ((rfx (gDx s 1) 8) + 3) ((gI s 227 (a1).toNatClampNeg)).toNatClampNeg) = (-1 : Int32) → Q s) ∧ (¬ (gI s ((rfx (gDx s 1) 8) + 3) ((gI s 227 (a1).toNatClampNeg)).toNatClampNeg) = (-1 : Int32) → gD s 1 = some (gDx s 1) ∧ ((gDx s 1), rfx (gDx s 1) 8) ∈ LX ∧ (((vX4_lives s (gDx s 1) (rfx (gDx s 1) 8) (gI s 226 (a1).toNatClampNeg)) = 0 → Q s) ∧ (¬ (vX4_lives s (gDx s 1) (rfx (gDx s 1) 8) (gI s 226 (a1).toNatClampNeg)) = 0 → gD s 1 = some (gDx s 1) ∧ ((gDx s 1), rfx (gDx s 1) 8) ∈ LX ∧ ((¬ (vX4_lives s (gDx s 1) (rfx (gDx s 1) 8) (gI s ((rfx (gDx s 1) 8) + 3) ((gI s 227 (a1).toNatClampNeg)).toNatClampNeg)) = 0 → gD s 1 = some (gDx s 1) ∧ ((gDx s 1), rfx (gDx s 1) 8) ∈ LX ∧ vp_in a1 6 ∧ vp_in (gI s 228 (a1).toNatClampNeg) 6 ∧ vp_in (gI s 226 (a1).toNatClampNeg) 9 ∧ vp_in (gI s 226 (a1).toNatClampNeg) 9 ∧ (∀ s80, s80 = (pI s 232 ((gI s 226 (a1).toNatClampNeg)).toNatClampNeg ((gI s 232 ((gI s 226 (a1).toNatClampNeg)).toNatClampNeg) - (gI s ((rfx (gDx s 1) 8) + 5) ((gI s 228 (a1).toNatClampNeg)).toNatClampNeg))) → vp_in (gI s ((rfx (gDx s 1) 8) + 3) ((gI s 227 (a1).toNatClampNeg)).toNatClampNeg) 9 ∧ vp_in (gI s ((rfx (gDx s 1) 8) + 3) ((gI s 227 (a1).toNatClampNeg)).toNatClampNeg) 9 ∧ (∀ s83, s83 = (pI s80 232 ((gI s ((rfx (gDx s 1) 8) + 3) ((gI s 227 (a1).toNatClampNeg)).toNatClampNeg)).toNatClampNeg ((gI s80 232 ((gI s ((rfx (gDx s 1) 8) + 3) ((gI s 227 (a1).toNatClampNeg)).toNatClampNeg)).toNatClampNeg) - (gI s ((rfx (gDx s 1) 8) + 5) ((gI s 228 (a1).toNatClampNeg)).toNatClampNeg))) → vp_in (gI s 226 (a1).toNatClampNeg) 9 ∧ (((gI s83 232 ((gI s 226 (a1).toNatClampNeg)).toNatClampNeg) < 0 → BV MX5_placeBy (e + 4) 185 [(0, .ref 225), (1, .int a1), (2, .int a2), (3, .int a3), (4, .int (gI s 226 (a1).toNatClampNeg)), (5, .int (gI s ((rfx (gDx s 1) 8) + 3) ((gI s 227 (a1).toNatClampNeg)).toNatClampNeg)), (6, .int (gI s ((rfx (gDx s 1) 8) + 5) ((gI s 228 (a1).toNatClampNeg)).toNatClampNeg))] s83 Q) ∧ (¬ (gI s83 232 ((gI s 226 (a1).toNatClampNeg)).toNatClampNeg) < 0 → vp_in (gI s ((rfx (gDx s 1) 8) + 3) ((gI s 227 (a1).toNatClampNeg)).toNatClampNeg) 9 ∧ (((gI s83 232 ((gI s ((rfx (gDx s 1) 8) + 3) ((gI s 227 (a1).toNatClampNeg)).toNatClampNeg)).toNatClampNeg) < 0 → BV MX5_placeBy (e + 4) 185 [(0, .ref 225), (1, .int a1), (2, .int a2), (3, .int a3), (4, .int (gI s 226 (a1).toNatClampNeg)), (5, .int (gI s ((rfx (gDx s 1) 8) + 3) ((gI s 227 (a1).toNatClampNeg)).toNatClampNeg)), (6, .int (gI s ((rfx (gDx s 1) 8) + 5) ((gI s 228 (a1).toNatClampNeg)).toNatClampNeg))] s83 Q) ∧ (¬ (gI s83 232 ((gI s ((rfx (gDx s 1) 8) + 3) ((gI s 227 (a1).toNatClampNeg)).toNatClampNeg)).toNatClampNeg) < 0 → vp_in a1 6 ∧ KV MX5_place (e + 3) [.ref 225, .int (a1 + (1 : Int32)), .int (a3 + (1 : Int32))] (pI s83 229 (a1).toNatClampNeg a2) (fun s87 => BV MX5_placeBy (e + 4) 185 [(0, .ref 225), (1, .int a1), (2, .int a2), (3, .int a3), (4, .int (gI s 226 (a1).toNatClampNeg)), (5, .int (gI s ((rfx (gDx s 1) 8) + 3) ((gI s 227 (a1).toNatClampNeg)).toNatClampNeg)), (6, .int (gI s ((rfx (gDx s 1) 8) + 5) ((gI s 228 (a1).toNatClampNeg)).toNatClampNeg))] s87 Q)))))))) ∧ ((vX4_lives s (gDx s 1) (rfx (gDx s 1) 8) (gI s ((rfx (gDx s 1) 8) + 3) ((gI s 227 (a1).toNatClampNeg)).toNatClampNeg)) = 0 → Q s))))))))) ∧ ((a2 &&& (2 : Int32)) = 0 → vp_in a1 6 ∧ (((gI s 226 (a1).toNatClampNeg) = (-1 : Int32) → Q s) ∧ (¬ (gI s 226 (a1).toNatClampNeg) = (-1 : Int32) → (((gI s 227 (a1).toNatClampNeg) = (-1 : Int32) → Q s) ∧ (¬ (gI s 227 (a1).toNatClampNeg) = (-1 : Int32) → gD s 1 = some (gDx s 1) ∧ ((gDx s 1), rfx (gDx s 1) 8) ∈ LX ∧ (((vX4_lives s (gDx s 1) (rfx (gDx s 1) 8) (gI s 226 (a1).toNatClampNeg)) = 0 → Q s) ∧ (¬ (vX4_lives s (gDx s 1) (rfx (gDx s 1) 8) (gI s 226 (a1).toNatClampNeg)) = 0 → gD s 1 = some (gDx s 1) ∧ ((gDx s 1), rfx (gDx s 1) 8) ∈ LX ∧ ((¬ (vX4_lives s (gDx s 1) (rfx (gDx s 1) 8) (gI s 227 (a1).toNatClampNeg)) = 0 → gD s 1 = some (gDx s 1) ∧ ((gDx s 1), rfx (gDx s 1) 8) ∈ LX ∧ vp_in a1 6 ∧ vp_in (gI s 228 (a1).toNatClampNeg) 6 ∧ vp_in (gI s 226 (a1).toNatClampNeg) 9 ∧ vp_in (gI s 226 (a1).toNatClampNeg) 9 ∧ (∀ s108, s108 = (pI s 232 ((gI s 226 (a1).toNatClampNeg)).toNatClampNeg ((gI s 232 ((gI s 226 (a1).toNatClampNeg)).toNatClampNeg) - (gI s ((rfx (gDx s 1) 8) + 5) ((gI s 228 (a1).toNatClampNeg)).toNatClampNeg))) → vp_in (gI s 227 (a1).toNatClampNeg) 9 ∧ vp_in (gI s 227 (a1).toNatClampNeg) 9 ∧ (∀ s111, s111 = (pI s108 232 ((gI s 227 (a1).toNatClampNeg)).toNatClampNeg ((gI s108 232 ((gI s 227 (a1).toNatClampNeg)).toNatClampNeg) - (gI s ((rfx (gDx s 1) 8) + 5) ((gI s 228 (a1).toNatClampNeg)).toNatClampNeg))) → vp_in (gI s 226 (a1).toNatClampNeg) 9 ∧ (((gI s111 232 ((gI s 226 (a1).toNatClampNeg)).toNatClampNeg) < 0 → BV MX5_placeBy (e + 4) 185 [(0, .ref 225), (1, .int a1), (2, .int a2), (3, .int a3), (4, .int (gI s 226 (a1).toNatClampNeg)), (5, .int (gI s 227 (a1).toNatClampNeg)), (6, .int (gI s ((rfx (gDx s 1) 8) + 5) ((gI s 228 (a1).toNatClampNeg)).toNatClampNeg))] s111 Q) ∧ (¬ (gI s111 232 ((gI s 226 (a1).toNatClampNeg)).toNatClampNeg) < 0 → vp_in (gI s 227 (a1).toNatClampNeg) 9 ∧ (((gI s111 232 ((gI s 227 (a1).toNatClampNeg)).toNatClampNeg) < 0 → BV MX5_placeBy (e + 4) 185 [(0, .ref 225), (1, .int a1), (2, .int a2), (3, .int a3), (4, .int (gI s 226 (a1).toNatClampNeg)), (5, .int (gI s 227 (a1).toNatClampNeg)), (6, .int (gI s ((rfx (gDx s 1) 8) + 5) ((gI s 228 (a1).toNatClampNeg)).toNatClampNeg))] s111 Q) ∧ (¬ (gI s111 232 ((gI s 227 (a1).toNatClampNeg)).toNatClampNeg) < 0 → vp_in a1 6 ∧ KV MX5_place (e + 3) [.ref 225, .int (a1 + (1 : Int32)), .int (a3 + (1 : Int32))] (pI s111 229 (a1).toNatClampNeg a2) (fun s115 => BV MX5_placeBy (e + 4) 185 [(0, .ref 225), (1, .int a1), (2, .int a2), (3, .int a3), (4, .int (gI s 226 (a1).toNatClampNeg)), (5, .int (gI s 227 (a1).toNatClampNeg)), (6, .int (gI s ((rfx (gDx s 1) 8) + 5) ((gI s 228 (a1).toNatClampNeg)).toNatClampNeg))] s115 Q)))))))) ∧ ((vX4_lives s (gDx s 1) (rfx (gDx s 1) 8) (gI s 227 (a1).toNatClampNeg)) = 0 → Q s))))))))))))) : KV MX5_placeBy (e + 4) [.ref 225, .int a1, .int a2, .int a3] s Q := by
  show BV MX5_placeBy (e + 4) 0 [(0, .ref 225), (1, .int a1), (2, .int a2), (3, .int a3)] s Q
  refine JT_iload_n (q := 2) dX5_placeBy_0 rfl rfl ?_
  refine JT_iconst (v := 1) dX5_placeBy_1 ic_1 ?_
  refine JT_iand dX5_placeBy_2 ?_
  refine JT_if_ne (tgt := 15) dX5_placeBy_3 (by decide) (fun hc126 => ?_) (fun hc126 => ?_)
  · have h := h.1 hc126
    refine JT_aload_n (q := 0) dX5_placeBy_15 rfl rfl ?_
    obtain ⟨hr1, hL2, h⟩ := h
    refine JS_getR (x := (gDx s 1)) dX5_placeBy_16 flX5_71 BS_225 (Nat.le_of_ble_eq_true rfl) (Nat.le_of_ble_eq_true rfl) (Or.inl ⟨_, ct_5_10⟩) (RF_225_10.trans hr1) ?_
    refine JS_getR (x := (rfx (gDx s 1) 8)) dX5_placeBy_19 flX5_95 (lxB hL2) (lx2 hL2) (lxN hL2) (Or.inl ⟨_, ct_4_8⟩) (lxR8 hL2) ?_
    refine JS_getR (x := ((rfx (gDx s 1) 8) + 3)) dX5_placeBy_22 flX5_99 (pxB (lxP hL2)) (px2 (lxP hL2)) (pxN (lxP hL2)) (Or.inr ⟨_, ct_6_2⟩) (pxR2 (lxP hL2)) ?_
    refine JT_aload_n (q := 0) dX5_placeBy_25 rfl rfl ?_
    refine JS_getR (x := 226) dX5_placeBy_26 flX5_9 BS_225 (Nat.le_of_ble_eq_true rfl) (Nat.le_of_ble_eq_true rfl) (Or.inr ⟨_, ct_5_2⟩) RF_225_2 ?_
    refine JT_iload_n (q := 1) dX5_placeBy_29 rfl rfl ?_
    obtain ⟨o3, h⟩ := h
    refine JS_iald dX5_placeBy_30 BS_226 (Nat.le_of_ble_eq_true rfl) (Nat.le_of_ble_eq_true rfl) o3 ?_
    obtain ⟨o4, h⟩ := h
    refine JS_iald dX5_placeBy_31 (pxB3 (lxP hL2)) (px2k (lxP hL2) _) (pxNk (lxP hL2) (Nat.le_of_ble_eq_true rfl)) o4 ?_
    refine JT_istore (lv' := [(4, .int (gI s ((rfx (gDx s 1) 8) + 3) ((gI s 226 (a1).toNatClampNeg)).toNatClampNeg)), (0, .ref 225), (1, .int a1), (2, .int a2), (3, .int a3)]) dX5_placeBy_32 (Nat.le_of_ble_eq_true rfl) rfl ?_
    refine JT_iload_n (q := 3) dX5_placeBy_34 rfl rfl ?_
    refine JT_iconst (v := 2) dX5_placeBy_35 ic_2 ?_
    refine JT_iand dX5_placeBy_36 ?_
    refine JT_if_ne (tgt := 49) dX5_placeBy_37 (by decide) (fun hc64 => ?_) (fun hc64 => ?_)
    · have h := h.1 hc64
      refine JT_aload_n (q := 1) dX5_placeBy_49 rfl rfl ?_
      obtain ⟨hr5, hL6, h⟩ := h
      refine JS_getR (x := (gDx s 1)) dX5_placeBy_50 flX5_71 BS_225 (Nat.le_of_ble_eq_true rfl) (Nat.le_of_ble_eq_true rfl) (Or.inl ⟨_, ct_5_10⟩) (RF_225_10.trans hr5) ?_
      refine JS_getR (x := (rfx (gDx s 1) 8)) dX5_placeBy_53 flX5_95 (lxB hL6) (lx2 hL6) (lxN hL6) (Or.inl ⟨_, ct_4_8⟩) (lxR8 hL6) ?_
      refine JS_getR (x := ((rfx (gDx s 1) 8) + 3)) dX5_placeBy_56 flX5_99 (pxB (lxP hL6)) (px2 (lxP hL6)) (pxN (lxP hL6)) (Or.inr ⟨_, ct_6_2⟩) (pxR2 (lxP hL6)) ?_
      refine JT_aload_n (q := 1) dX5_placeBy_59 rfl rfl ?_
      refine JS_getR (x := 227) dX5_placeBy_60 flX5_15 BS_225 (Nat.le_of_ble_eq_true rfl) (Nat.le_of_ble_eq_true rfl) (Or.inr ⟨_, ct_5_3⟩) RF_225_3 ?_
      refine JT_iload_n (q := 2) dX5_placeBy_63 rfl rfl ?_
      obtain ⟨o7, h⟩ := h
      refine JS_iald dX5_placeBy_64 BS_227 (Nat.le_of_ble_eq_true rfl) (Nat.le_of_ble_eq_true rfl) o7 ?_
      obtain ⟨o8, h⟩ := h
      refine JS_iald dX5_placeBy_65 (pxB3 (lxP hL6)) (px2k (lxP hL6) _) (pxNk (lxP hL6) (Nat.le_of_ble_eq_true rfl)) o8 ?_
      refine JT_istore (lv' := [(5, .int (gI s ((rfx (gDx s 1) 8) + 3) ((gI s 227 (a1).toNatClampNeg)).toNatClampNeg)), (4, .int (gI s ((rfx (gDx s 1) 8) + 3) ((gI s 226 (a1).toNatClampNeg)).toNatClampNeg)), (0, .ref 225), (1, .int a1), (2, .int a2), (3, .int a3)]) dX5_placeBy_66 (Nat.le_of_ble_eq_true rfl) rfl ?_
      refine JT_iload (q := 1) dX5_placeBy_68 rfl ?_
      refine JT_iconst (v := -1) dX5_placeBy_70 ic_m1 ?_
      refine JT_icmp_eq (tgt := 104) dX5_placeBy_71 (by decide) (fun hc35 => ?_) (fun hc35 => ?_)
      · have h := h.1 hc35
        exact JS_vret dX5_placeBy_104 rfl h
      · have h := h.2 hc35
        refine JT_iload (q := 0) dX5_placeBy_74 rfl ?_
        refine JT_iconst (v := -1) dX5_placeBy_76 ic_m1 ?_
        refine JT_icmp_eq (tgt := 104) dX5_placeBy_77 (by decide) (fun hc34 => ?_) (fun hc34 => ?_)
        · have h := h.1 hc34
          exact JS_vret dX5_placeBy_104 rfl h
        · have h := h.2 hc34
          refine JT_aload_n (q := 2) dX5_placeBy_80 rfl rfl ?_
          obtain ⟨hr9, hL10, h⟩ := h
          refine JS_getR (x := (gDx s 1)) dX5_placeBy_81 flX5_71 BS_225 (Nat.le_of_ble_eq_true rfl) (Nat.le_of_ble_eq_true rfl) (Or.inl ⟨_, ct_5_10⟩) (RF_225_10.trans hr9) ?_
          refine JT_iload (q := 1) dX5_placeBy_84 rfl ?_
          refine JS_callVI (M' := MX4_lives) (d' := 0) (As := [.int (gI s ((rfx (gDx s 1) 8) + 3) ((gI s 226 (a1).toNatClampNeg)).toNatClampNeg)]) (rest := []) (P := (fun zv9 wm9 => (vX4_lives s (gDx s 1) (rfx (gDx s 1) 8) (gI s ((rfx (gDx s 1) 8) + 3) ((gI s 226 (a1).toNatClampNeg)).toNatClampNeg)) = zv9 ∧ s = wm9)) dX5_placeBy_86 cvX5_87 okX4_lives rfl (Nat.le_of_ble_eq_true rfl) (lxB hL10) (lx2 hL10) (lxN hL10) hci_4 (Nat.le_of_ble_eq_true rfl) (by show 0 + 1 ≤ e + 4; omega) (pX4_lives hL10 ((gI s ((rfx (gDx s 1) 8) + 3) ((gI s 226 (a1).toNatClampNeg)).toNatClampNeg))  ⟨rfl, rfl⟩) (fun zv9 wm9 hq9 => ?_)
          obtain ⟨rfl, rfl⟩ := hq9
          refine JT_if_eq (tgt := 104) dX5_placeBy_89 (by decide) (fun hc32 => ?_) (fun hc32 => ?_)
          · have h := h.1 hc32
            exact JS_vret dX5_placeBy_104 rfl h
          · have h := h.2 hc32
            refine JT_aload_n (q := 2) dX5_placeBy_92 rfl rfl ?_
            obtain ⟨hr11, hL12, h⟩ := h
            refine JS_getR (x := (gDx s 1)) dX5_placeBy_93 flX5_71 BS_225 (Nat.le_of_ble_eq_true rfl) (Nat.le_of_ble_eq_true rfl) (Or.inl ⟨_, ct_5_10⟩) (RF_225_10.trans hr11) ?_
            refine JT_iload (q := 0) dX5_placeBy_96 rfl ?_
            refine JS_callVI (M' := MX4_lives) (d' := 0) (As := [.int (gI s ((rfx (gDx s 1) 8) + 3) ((gI s 227 (a1).toNatClampNeg)).toNatClampNeg)]) (rest := []) (P := (fun zv9 wm9 => (vX4_lives s (gDx s 1) (rfx (gDx s 1) 8) (gI s ((rfx (gDx s 1) 8) + 3) ((gI s 227 (a1).toNatClampNeg)).toNatClampNeg)) = zv9 ∧ s = wm9)) dX5_placeBy_98 cvX5_87 okX4_lives rfl (Nat.le_of_ble_eq_true rfl) (lxB hL12) (lx2 hL12) (lxN hL12) hci_4 (Nat.le_of_ble_eq_true rfl) (by show 0 + 1 ≤ e + 4; omega) (pX4_lives hL12 ((gI s ((rfx (gDx s 1) 8) + 3) ((gI s 227 (a1).toNatClampNeg)).toNatClampNeg))  ⟨rfl, rfl⟩) (fun zv9 wm9 hq9 => ?_)
            obtain ⟨rfl, rfl⟩ := hq9
            refine JT_if_ne (tgt := 105) dX5_placeBy_101 (by decide) (fun hc30 => ?_) (fun hc30 => ?_)
            · have h := h.1 hc30
              refine JT_aload_n (q := 2) dX5_placeBy_105 rfl rfl ?_
              obtain ⟨hr13, hL14, h⟩ := h
              refine JS_getR (x := (gDx s 1)) dX5_placeBy_106 flX5_71 BS_225 (Nat.le_of_ble_eq_true rfl) (Nat.le_of_ble_eq_true rfl) (Or.inl ⟨_, ct_5_10⟩) (RF_225_10.trans hr13) ?_
              refine JS_getR (x := (rfx (gDx s 1) 8)) dX5_placeBy_109 flX5_95 (lxB hL14) (lx2 hL14) (lxN hL14) (Or.inl ⟨_, ct_4_8⟩) (lxR8 hL14) ?_
              refine JS_getR (x := ((rfx (gDx s 1) 8) + 5)) dX5_placeBy_112 flX5_102 (pxB (lxP hL14)) (px2 (lxP hL14)) (pxN (lxP hL14)) (Or.inr ⟨_, ct_6_4⟩) (pxR4 (lxP hL14)) ?_
              refine JT_aload_n (q := 2) dX5_placeBy_115 rfl rfl ?_
              refine JS_getR (x := 228) dX5_placeBy_116 flX5_18 BS_225 (Nat.le_of_ble_eq_true rfl) (Nat.le_of_ble_eq_true rfl) (Or.inr ⟨_, ct_5_4⟩) RF_225_4 ?_
              refine JT_iload_n (q := 3) dX5_placeBy_119 rfl rfl ?_
              obtain ⟨o15, h⟩ := h
              refine JS_iald dX5_placeBy_120 BS_228 (Nat.le_of_ble_eq_true rfl) (Nat.le_of_ble_eq_true rfl) o15 ?_
              obtain ⟨o16, h⟩ := h
              refine JS_iald dX5_placeBy_121 (pxB5 (lxP hL14)) (px2k (lxP hL14) _) (pxNk (lxP hL14) (Nat.le_of_ble_eq_true rfl)) o16 ?_
              refine JT_istore (lv' := [(6, .int (gI s ((rfx (gDx s 1) 8) + 5) ((gI s 228 (a1).toNatClampNeg)).toNatClampNeg)), (5, .int (gI s ((rfx (gDx s 1) 8) + 3) ((gI s 227 (a1).toNatClampNeg)).toNatClampNeg)), (4, .int (gI s ((rfx (gDx s 1) 8) + 3) ((gI s 226 (a1).toNatClampNeg)).toNatClampNeg)), (0, .ref 225), (1, .int a1), (2, .int a2), (3, .int a3)]) dX5_placeBy_122 (Nat.le_of_ble_eq_true rfl) rfl ?_
              refine JT_aload_n (q := 3) dX5_placeBy_124 rfl rfl ?_
              refine JS_getR (x := 232) dX5_placeBy_125 flX5_30 BS_225 (Nat.le_of_ble_eq_true rfl) (Nat.le_of_ble_eq_true rfl) (Or.inr ⟨_, ct_5_8⟩) RF_225_8 ?_
              refine JT_iload (q := 2) dX5_placeBy_128 rfl ?_
              refine JT_dup2 dX5_placeBy_130 rfl rfl ?_
              obtain ⟨o17, h⟩ := h
              refine JS_iald dX5_placeBy_131 BS_232 (Nat.le_of_ble_eq_true rfl) (Nat.le_of_ble_eq_true rfl) o17 ?_
              refine JT_iload (q := 0) dX5_placeBy_132 rfl ?_
              refine JT_isub dX5_placeBy_134 ?_
              obtain ⟨o18, h⟩ := h
              refine JS_iast dX5_placeBy_135 BS_232 (Nat.le_of_ble_eq_true rfl) (Nat.le_of_ble_eq_true rfl) o18 ?_
              obtain ⟨s19, hs19⟩ : ∃ z, z = (pI s 232 ((gI s ((rfx (gDx s 1) 8) + 3) ((gI s 226 (a1).toNatClampNeg)).toNatClampNeg)).toNatClampNeg ((gI s 232 ((gI s ((rfx (gDx s 1) 8) + 3) ((gI s 226 (a1).toNatClampNeg)).toNatClampNeg)).toNatClampNeg) - (gI s ((rfx (gDx s 1) 8) + 5) ((gI s 228 (a1).toNatClampNeg)).toNatClampNeg))) := ⟨_, rfl⟩
              replace h := h s19 hs19
              rw [← hs19]
              refine JT_aload_n (q := 3) dX5_placeBy_136 rfl rfl ?_
              refine JS_getR (x := 232) dX5_placeBy_137 flX5_30 BS_225 (Nat.le_of_ble_eq_true rfl) (Nat.le_of_ble_eq_true rfl) (Or.inr ⟨_, ct_5_8⟩) RF_225_8 ?_
              refine JT_iload (q := 1) dX5_placeBy_140 rfl ?_
              refine JT_dup2 dX5_placeBy_142 rfl rfl ?_
              obtain ⟨o20, h⟩ := h
              refine JS_iald dX5_placeBy_143 BS_232 (Nat.le_of_ble_eq_true rfl) (Nat.le_of_ble_eq_true rfl) o20 ?_
              refine JT_iload (q := 0) dX5_placeBy_144 rfl ?_
              refine JT_isub dX5_placeBy_146 ?_
              obtain ⟨o21, h⟩ := h
              refine JS_iast dX5_placeBy_147 BS_232 (Nat.le_of_ble_eq_true rfl) (Nat.le_of_ble_eq_true rfl) o21 ?_
              obtain ⟨s22, hs22⟩ : ∃ z, z = (pI s19 232 ((gI s ((rfx (gDx s 1) 8) + 3) ((gI s 227 (a1).toNatClampNeg)).toNatClampNeg)).toNatClampNeg ((gI s19 232 ((gI s ((rfx (gDx s 1) 8) + 3) ((gI s 227 (a1).toNatClampNeg)).toNatClampNeg)).toNatClampNeg) - (gI s ((rfx (gDx s 1) 8) + 5) ((gI s 228 (a1).toNatClampNeg)).toNatClampNeg))) := ⟨_, rfl⟩
              replace h := h s22 hs22
              rw [← hs22]
              refine JT_aload_n (q := 3) dX5_placeBy_148 rfl rfl ?_
              refine JS_getR (x := 232) dX5_placeBy_149 flX5_30 BS_225 (Nat.le_of_ble_eq_true rfl) (Nat.le_of_ble_eq_true rfl) (Or.inr ⟨_, ct_5_8⟩) RF_225_8 ?_
              refine JT_iload (q := 2) dX5_placeBy_152 rfl ?_
              obtain ⟨o23, h⟩ := h
              refine JS_iald dX5_placeBy_154 BS_232 (Nat.le_of_ble_eq_true rfl) (Nat.le_of_ble_eq_true rfl) o23 ?_
              refine JT_if_lt (tgt := 185) dX5_placeBy_155 (by decide) (fun hc29 => ?_) (fun hc29 => ?_)
              · have h := h.1 hc29
                exact JT_sub [3, 4, 5, 6, 2, 1, 0] rfl h
              · have h := h.2 hc29
                refine JT_aload_n (q := 3) dX5_placeBy_158 rfl rfl ?_
                refine JS_getR (x := 232) dX5_placeBy_159 flX5_30 BS_225 (Nat.le_of_ble_eq_true rfl) (Nat.le_of_ble_eq_true rfl) (Or.inr ⟨_, ct_5_8⟩) RF_225_8 ?_
                refine JT_iload (q := 1) dX5_placeBy_162 rfl ?_
                obtain ⟨o24, h⟩ := h
                refine JS_iald dX5_placeBy_164 BS_232 (Nat.le_of_ble_eq_true rfl) (Nat.le_of_ble_eq_true rfl) o24 ?_
                refine JT_if_lt (tgt := 185) dX5_placeBy_165 (by decide) (fun hc28 => ?_) (fun hc28 => ?_)
                · have h := h.1 hc28
                  exact JT_sub [3, 4, 5, 6, 2, 1, 0] rfl h
                · have h := h.2 hc28
                  refine JT_aload_n (q := 3) dX5_placeBy_168 rfl rfl ?_
                  refine JS_getR (x := 229) dX5_placeBy_169 flX5_21 BS_225 (Nat.le_of_ble_eq_true rfl) (Nat.le_of_ble_eq_true rfl) (Or.inr ⟨_, ct_5_5⟩) RF_225_5 ?_
                  refine JT_iload_n (q := 4) dX5_placeBy_172 rfl rfl ?_
                  refine JT_iload_n (q := 5) dX5_placeBy_173 rfl rfl ?_
                  obtain ⟨o25, h⟩ := h
                  refine JS_iast dX5_placeBy_174 BS_229 (Nat.le_of_ble_eq_true rfl) (Nat.le_of_ble_eq_true rfl) o25 ?_
                  refine JT_aload_n (q := 3) dX5_placeBy_175 rfl rfl ?_
                  refine JT_iload_n (q := 4) dX5_placeBy_176 rfl rfl ?_
                  refine JT_iconst (v := 1) dX5_placeBy_177 ic_1 ?_
                  refine JT_iadd dX5_placeBy_178 ?_
                  refine JT_iload_n (q := 6) dX5_placeBy_179 rfl rfl ?_
                  refine JT_iconst (v := 1) dX5_placeBy_180 ic_1 ?_
                  refine JT_iadd dX5_placeBy_181 ?_
                  refine JS_callVV (M' := MX5_place) (d' := e + 3) (As := [.int (a1 + (1 : Int32)), .int (a3 + (1 : Int32))]) (rest := []) dX5_placeBy_182 cvX5_83 okX5_place rfl (Nat.le_of_ble_eq_true rfl) BS_225 (Nat.le_of_ble_eq_true rfl) (Nat.le_of_ble_eq_true rfl) hci_5 (Nat.le_of_ble_eq_true rfl) (by show e + 3 + 1 ≤ e + 4; omega) h (fun s26 h => ?_)
                  exact JT_sub [3, 4, 5, 6, 2, 1, 0] rfl h
            · have h := h.2 hc30
              exact JS_vret dX5_placeBy_104 rfl h
    · have h := h.2 hc64
      refine JT_aload_n (q := 1) dX5_placeBy_40 rfl rfl ?_
      refine JS_getR (x := 227) dX5_placeBy_41 flX5_15 BS_225 (Nat.le_of_ble_eq_true rfl) (Nat.le_of_ble_eq_true rfl) (Or.inr ⟨_, ct_5_3⟩) RF_225_3 ?_
      refine JT_iload_n (q := 2) dX5_placeBy_44 rfl rfl ?_
      obtain ⟨o36, h⟩ := h
      refine JS_iald dX5_placeBy_45 BS_227 (Nat.le_of_ble_eq_true rfl) (Nat.le_of_ble_eq_true rfl) o36 ?_
      refine JT_goto (tgt := 66) dX5_placeBy_46 (by decide) ?_
      refine JT_istore (lv' := [(5, .int (gI s 227 (a1).toNatClampNeg)), (4, .int (gI s ((rfx (gDx s 1) 8) + 3) ((gI s 226 (a1).toNatClampNeg)).toNatClampNeg)), (0, .ref 225), (1, .int a1), (2, .int a2), (3, .int a3)]) dX5_placeBy_66 (Nat.le_of_ble_eq_true rfl) rfl ?_
      refine JT_iload (q := 1) dX5_placeBy_68 rfl ?_
      refine JT_iconst (v := -1) dX5_placeBy_70 ic_m1 ?_
      refine JT_icmp_eq (tgt := 104) dX5_placeBy_71 (by decide) (fun hc63 => ?_) (fun hc63 => ?_)
      · have h := h.1 hc63
        exact JS_vret dX5_placeBy_104 rfl h
      · have h := h.2 hc63
        refine JT_iload (q := 0) dX5_placeBy_74 rfl ?_
        refine JT_iconst (v := -1) dX5_placeBy_76 ic_m1 ?_
        refine JT_icmp_eq (tgt := 104) dX5_placeBy_77 (by decide) (fun hc62 => ?_) (fun hc62 => ?_)
        · have h := h.1 hc62
          exact JS_vret dX5_placeBy_104 rfl h
        · have h := h.2 hc62
          refine JT_aload_n (q := 2) dX5_placeBy_80 rfl rfl ?_
          obtain ⟨hr37, hL38, h⟩ := h
          refine JS_getR (x := (gDx s 1)) dX5_placeBy_81 flX5_71 BS_225 (Nat.le_of_ble_eq_true rfl) (Nat.le_of_ble_eq_true rfl) (Or.inl ⟨_, ct_5_10⟩) (RF_225_10.trans hr37) ?_
          refine JT_iload (q := 1) dX5_placeBy_84 rfl ?_
          refine JS_callVI (M' := MX4_lives) (d' := 0) (As := [.int (gI s ((rfx (gDx s 1) 8) + 3) ((gI s 226 (a1).toNatClampNeg)).toNatClampNeg)]) (rest := []) (P := (fun zv9 wm9 => (vX4_lives s (gDx s 1) (rfx (gDx s 1) 8) (gI s ((rfx (gDx s 1) 8) + 3) ((gI s 226 (a1).toNatClampNeg)).toNatClampNeg)) = zv9 ∧ s = wm9)) dX5_placeBy_86 cvX5_87 okX4_lives rfl (Nat.le_of_ble_eq_true rfl) (lxB hL38) (lx2 hL38) (lxN hL38) hci_4 (Nat.le_of_ble_eq_true rfl) (by show 0 + 1 ≤ e + 4; omega) (pX4_lives hL38 ((gI s ((rfx (gDx s 1) 8) + 3) ((gI s 226 (a1).toNatClampNeg)).toNatClampNeg))  ⟨rfl, rfl⟩) (fun zv9 wm9 hq9 => ?_)
          obtain ⟨rfl, rfl⟩ := hq9
          refine JT_if_eq (tgt := 104) dX5_placeBy_89 (by decide) (fun hc60 => ?_) (fun hc60 => ?_)
          · have h := h.1 hc60
            exact JS_vret dX5_placeBy_104 rfl h
          · have h := h.2 hc60
            refine JT_aload_n (q := 2) dX5_placeBy_92 rfl rfl ?_
            obtain ⟨hr39, hL40, h⟩ := h
            refine JS_getR (x := (gDx s 1)) dX5_placeBy_93 flX5_71 BS_225 (Nat.le_of_ble_eq_true rfl) (Nat.le_of_ble_eq_true rfl) (Or.inl ⟨_, ct_5_10⟩) (RF_225_10.trans hr39) ?_
            refine JT_iload (q := 0) dX5_placeBy_96 rfl ?_
            refine JS_callVI (M' := MX4_lives) (d' := 0) (As := [.int (gI s 227 (a1).toNatClampNeg)]) (rest := []) (P := (fun zv9 wm9 => (vX4_lives s (gDx s 1) (rfx (gDx s 1) 8) (gI s 227 (a1).toNatClampNeg)) = zv9 ∧ s = wm9)) dX5_placeBy_98 cvX5_87 okX4_lives rfl (Nat.le_of_ble_eq_true rfl) (lxB hL40) (lx2 hL40) (lxN hL40) hci_4 (Nat.le_of_ble_eq_true rfl) (by show 0 + 1 ≤ e + 4; omega) (pX4_lives hL40 ((gI s 227 (a1).toNatClampNeg))  ⟨rfl, rfl⟩) (fun zv9 wm9 hq9 => ?_)
            obtain ⟨rfl, rfl⟩ := hq9
            refine JT_if_ne (tgt := 105) dX5_placeBy_101 (by decide) (fun hc58 => ?_) (fun hc58 => ?_)
            · have h := h.1 hc58
              refine JT_aload_n (q := 2) dX5_placeBy_105 rfl rfl ?_
              obtain ⟨hr41, hL42, h⟩ := h
              refine JS_getR (x := (gDx s 1)) dX5_placeBy_106 flX5_71 BS_225 (Nat.le_of_ble_eq_true rfl) (Nat.le_of_ble_eq_true rfl) (Or.inl ⟨_, ct_5_10⟩) (RF_225_10.trans hr41) ?_
              refine JS_getR (x := (rfx (gDx s 1) 8)) dX5_placeBy_109 flX5_95 (lxB hL42) (lx2 hL42) (lxN hL42) (Or.inl ⟨_, ct_4_8⟩) (lxR8 hL42) ?_
              refine JS_getR (x := ((rfx (gDx s 1) 8) + 5)) dX5_placeBy_112 flX5_102 (pxB (lxP hL42)) (px2 (lxP hL42)) (pxN (lxP hL42)) (Or.inr ⟨_, ct_6_4⟩) (pxR4 (lxP hL42)) ?_
              refine JT_aload_n (q := 2) dX5_placeBy_115 rfl rfl ?_
              refine JS_getR (x := 228) dX5_placeBy_116 flX5_18 BS_225 (Nat.le_of_ble_eq_true rfl) (Nat.le_of_ble_eq_true rfl) (Or.inr ⟨_, ct_5_4⟩) RF_225_4 ?_
              refine JT_iload_n (q := 3) dX5_placeBy_119 rfl rfl ?_
              obtain ⟨o43, h⟩ := h
              refine JS_iald dX5_placeBy_120 BS_228 (Nat.le_of_ble_eq_true rfl) (Nat.le_of_ble_eq_true rfl) o43 ?_
              obtain ⟨o44, h⟩ := h
              refine JS_iald dX5_placeBy_121 (pxB5 (lxP hL42)) (px2k (lxP hL42) _) (pxNk (lxP hL42) (Nat.le_of_ble_eq_true rfl)) o44 ?_
              refine JT_istore (lv' := [(6, .int (gI s ((rfx (gDx s 1) 8) + 5) ((gI s 228 (a1).toNatClampNeg)).toNatClampNeg)), (5, .int (gI s 227 (a1).toNatClampNeg)), (4, .int (gI s ((rfx (gDx s 1) 8) + 3) ((gI s 226 (a1).toNatClampNeg)).toNatClampNeg)), (0, .ref 225), (1, .int a1), (2, .int a2), (3, .int a3)]) dX5_placeBy_122 (Nat.le_of_ble_eq_true rfl) rfl ?_
              refine JT_aload_n (q := 3) dX5_placeBy_124 rfl rfl ?_
              refine JS_getR (x := 232) dX5_placeBy_125 flX5_30 BS_225 (Nat.le_of_ble_eq_true rfl) (Nat.le_of_ble_eq_true rfl) (Or.inr ⟨_, ct_5_8⟩) RF_225_8 ?_
              refine JT_iload (q := 2) dX5_placeBy_128 rfl ?_
              refine JT_dup2 dX5_placeBy_130 rfl rfl ?_
              obtain ⟨o45, h⟩ := h
              refine JS_iald dX5_placeBy_131 BS_232 (Nat.le_of_ble_eq_true rfl) (Nat.le_of_ble_eq_true rfl) o45 ?_
              refine JT_iload (q := 0) dX5_placeBy_132 rfl ?_
              refine JT_isub dX5_placeBy_134 ?_
              obtain ⟨o46, h⟩ := h
              refine JS_iast dX5_placeBy_135 BS_232 (Nat.le_of_ble_eq_true rfl) (Nat.le_of_ble_eq_true rfl) o46 ?_
              obtain ⟨s47, hs47⟩ : ∃ z, z = (pI s 232 ((gI s ((rfx (gDx s 1) 8) + 3) ((gI s 226 (a1).toNatClampNeg)).toNatClampNeg)).toNatClampNeg ((gI s 232 ((gI s ((rfx (gDx s 1) 8) + 3) ((gI s 226 (a1).toNatClampNeg)).toNatClampNeg)).toNatClampNeg) - (gI s ((rfx (gDx s 1) 8) + 5) ((gI s 228 (a1).toNatClampNeg)).toNatClampNeg))) := ⟨_, rfl⟩
              replace h := h s47 hs47
              rw [← hs47]
              refine JT_aload_n (q := 3) dX5_placeBy_136 rfl rfl ?_
              refine JS_getR (x := 232) dX5_placeBy_137 flX5_30 BS_225 (Nat.le_of_ble_eq_true rfl) (Nat.le_of_ble_eq_true rfl) (Or.inr ⟨_, ct_5_8⟩) RF_225_8 ?_
              refine JT_iload (q := 1) dX5_placeBy_140 rfl ?_
              refine JT_dup2 dX5_placeBy_142 rfl rfl ?_
              obtain ⟨o48, h⟩ := h
              refine JS_iald dX5_placeBy_143 BS_232 (Nat.le_of_ble_eq_true rfl) (Nat.le_of_ble_eq_true rfl) o48 ?_
              refine JT_iload (q := 0) dX5_placeBy_144 rfl ?_
              refine JT_isub dX5_placeBy_146 ?_
              obtain ⟨o49, h⟩ := h
              refine JS_iast dX5_placeBy_147 BS_232 (Nat.le_of_ble_eq_true rfl) (Nat.le_of_ble_eq_true rfl) o49 ?_
              obtain ⟨s50, hs50⟩ : ∃ z, z = (pI s47 232 ((gI s 227 (a1).toNatClampNeg)).toNatClampNeg ((gI s47 232 ((gI s 227 (a1).toNatClampNeg)).toNatClampNeg) - (gI s ((rfx (gDx s 1) 8) + 5) ((gI s 228 (a1).toNatClampNeg)).toNatClampNeg))) := ⟨_, rfl⟩
              replace h := h s50 hs50
              rw [← hs50]
              refine JT_aload_n (q := 3) dX5_placeBy_148 rfl rfl ?_
              refine JS_getR (x := 232) dX5_placeBy_149 flX5_30 BS_225 (Nat.le_of_ble_eq_true rfl) (Nat.le_of_ble_eq_true rfl) (Or.inr ⟨_, ct_5_8⟩) RF_225_8 ?_
              refine JT_iload (q := 2) dX5_placeBy_152 rfl ?_
              obtain ⟨o51, h⟩ := h
              refine JS_iald dX5_placeBy_154 BS_232 (Nat.le_of_ble_eq_true rfl) (Nat.le_of_ble_eq_true rfl) o51 ?_
              refine JT_if_lt (tgt := 185) dX5_placeBy_155 (by decide) (fun hc57 => ?_) (fun hc57 => ?_)
              · have h := h.1 hc57
                exact JT_sub [3, 4, 5, 6, 2, 1, 0] rfl h
              · have h := h.2 hc57
                refine JT_aload_n (q := 3) dX5_placeBy_158 rfl rfl ?_
                refine JS_getR (x := 232) dX5_placeBy_159 flX5_30 BS_225 (Nat.le_of_ble_eq_true rfl) (Nat.le_of_ble_eq_true rfl) (Or.inr ⟨_, ct_5_8⟩) RF_225_8 ?_
                refine JT_iload (q := 1) dX5_placeBy_162 rfl ?_
                obtain ⟨o52, h⟩ := h
                refine JS_iald dX5_placeBy_164 BS_232 (Nat.le_of_ble_eq_true rfl) (Nat.le_of_ble_eq_true rfl) o52 ?_
                refine JT_if_lt (tgt := 185) dX5_placeBy_165 (by decide) (fun hc56 => ?_) (fun hc56 => ?_)
                · have h := h.1 hc56
                  exact JT_sub [3, 4, 5, 6, 2, 1, 0] rfl h
                · have h := h.2 hc56
                  refine JT_aload_n (q := 3) dX5_placeBy_168 rfl rfl ?_
                  refine JS_getR (x := 229) dX5_placeBy_169 flX5_21 BS_225 (Nat.le_of_ble_eq_true rfl) (Nat.le_of_ble_eq_true rfl) (Or.inr ⟨_, ct_5_5⟩) RF_225_5 ?_
                  refine JT_iload_n (q := 4) dX5_placeBy_172 rfl rfl ?_
                  refine JT_iload_n (q := 5) dX5_placeBy_173 rfl rfl ?_
                  obtain ⟨o53, h⟩ := h
                  refine JS_iast dX5_placeBy_174 BS_229 (Nat.le_of_ble_eq_true rfl) (Nat.le_of_ble_eq_true rfl) o53 ?_
                  refine JT_aload_n (q := 3) dX5_placeBy_175 rfl rfl ?_
                  refine JT_iload_n (q := 4) dX5_placeBy_176 rfl rfl ?_
                  refine JT_iconst (v := 1) dX5_placeBy_177 ic_1 ?_
                  refine JT_iadd dX5_placeBy_178 ?_
                  refine JT_iload_n (q := 6) dX5_placeBy_179 rfl rfl ?_
                  refine JT_iconst (v := 1) dX5_placeBy_180 ic_1 ?_
                  refine JT_iadd dX5_placeBy_181 ?_
                  refine JS_callVV (M' := MX5_place) (d' := e + 3) (As := [.int (a1 + (1 : Int32)), .int (a3 + (1 : Int32))]) (rest := []) dX5_placeBy_182 cvX5_83 okX5_place rfl (Nat.le_of_ble_eq_true rfl) BS_225 (Nat.le_of_ble_eq_true rfl) (Nat.le_of_ble_eq_true rfl) hci_5 (Nat.le_of_ble_eq_true rfl) (by show e + 3 + 1 ≤ e + 4; omega) h (fun s54 h => ?_)
                  exact JT_sub [3, 4, 5, 6, 2, 1, 0] rfl h
            · have h := h.2 hc58
              exact JS_vret dX5_placeBy_104 rfl h
  · have h := h.2 hc126
    refine JT_aload_n (q := 0) dX5_placeBy_6 rfl rfl ?_
    refine JS_getR (x := 226) dX5_placeBy_7 flX5_9 BS_225 (Nat.le_of_ble_eq_true rfl) (Nat.le_of_ble_eq_true rfl) (Or.inr ⟨_, ct_5_2⟩) RF_225_2 ?_
    refine JT_iload_n (q := 1) dX5_placeBy_10 rfl rfl ?_
    obtain ⟨o65, h⟩ := h
    refine JS_iald dX5_placeBy_11 BS_226 (Nat.le_of_ble_eq_true rfl) (Nat.le_of_ble_eq_true rfl) o65 ?_
    refine JT_goto (tgt := 32) dX5_placeBy_12 (by decide) ?_
    refine JT_istore (lv' := [(4, .int (gI s 226 (a1).toNatClampNeg)), (0, .ref 225), (1, .int a1), (2, .int a2), (3, .int a3)]) dX5_placeBy_32 (Nat.le_of_ble_eq_true rfl) rfl ?_
    refine JT_iload_n (q := 3) dX5_placeBy_34 rfl rfl ?_
    refine JT_iconst (v := 2) dX5_placeBy_35 ic_2 ?_
    refine JT_iand dX5_placeBy_36 ?_
    refine JT_if_ne (tgt := 49) dX5_placeBy_37 (by decide) (fun hc125 => ?_) (fun hc125 => ?_)
    · have h := h.1 hc125
      refine JT_aload_n (q := 1) dX5_placeBy_49 rfl rfl ?_
      obtain ⟨hr66, hL67, h⟩ := h
      refine JS_getR (x := (gDx s 1)) dX5_placeBy_50 flX5_71 BS_225 (Nat.le_of_ble_eq_true rfl) (Nat.le_of_ble_eq_true rfl) (Or.inl ⟨_, ct_5_10⟩) (RF_225_10.trans hr66) ?_
      refine JS_getR (x := (rfx (gDx s 1) 8)) dX5_placeBy_53 flX5_95 (lxB hL67) (lx2 hL67) (lxN hL67) (Or.inl ⟨_, ct_4_8⟩) (lxR8 hL67) ?_
      refine JS_getR (x := ((rfx (gDx s 1) 8) + 3)) dX5_placeBy_56 flX5_99 (pxB (lxP hL67)) (px2 (lxP hL67)) (pxN (lxP hL67)) (Or.inr ⟨_, ct_6_2⟩) (pxR2 (lxP hL67)) ?_
      refine JT_aload_n (q := 1) dX5_placeBy_59 rfl rfl ?_
      refine JS_getR (x := 227) dX5_placeBy_60 flX5_15 BS_225 (Nat.le_of_ble_eq_true rfl) (Nat.le_of_ble_eq_true rfl) (Or.inr ⟨_, ct_5_3⟩) RF_225_3 ?_
      refine JT_iload_n (q := 2) dX5_placeBy_63 rfl rfl ?_
      obtain ⟨o68, h⟩ := h
      refine JS_iald dX5_placeBy_64 BS_227 (Nat.le_of_ble_eq_true rfl) (Nat.le_of_ble_eq_true rfl) o68 ?_
      obtain ⟨o69, h⟩ := h
      refine JS_iald dX5_placeBy_65 (pxB3 (lxP hL67)) (px2k (lxP hL67) _) (pxNk (lxP hL67) (Nat.le_of_ble_eq_true rfl)) o69 ?_
      refine JT_istore (lv' := [(5, .int (gI s ((rfx (gDx s 1) 8) + 3) ((gI s 227 (a1).toNatClampNeg)).toNatClampNeg)), (4, .int (gI s 226 (a1).toNatClampNeg)), (0, .ref 225), (1, .int a1), (2, .int a2), (3, .int a3)]) dX5_placeBy_66 (Nat.le_of_ble_eq_true rfl) rfl ?_
      refine JT_iload (q := 1) dX5_placeBy_68 rfl ?_
      refine JT_iconst (v := -1) dX5_placeBy_70 ic_m1 ?_
      refine JT_icmp_eq (tgt := 104) dX5_placeBy_71 (by decide) (fun hc96 => ?_) (fun hc96 => ?_)
      · have h := h.1 hc96
        exact JS_vret dX5_placeBy_104 rfl h
      · have h := h.2 hc96
        refine JT_iload (q := 0) dX5_placeBy_74 rfl ?_
        refine JT_iconst (v := -1) dX5_placeBy_76 ic_m1 ?_
        refine JT_icmp_eq (tgt := 104) dX5_placeBy_77 (by decide) (fun hc95 => ?_) (fun hc95 => ?_)
        · have h := h.1 hc95
          exact JS_vret dX5_placeBy_104 rfl h
        · have h := h.2 hc95
          refine JT_aload_n (q := 2) dX5_placeBy_80 rfl rfl ?_
          obtain ⟨hr70, hL71, h⟩ := h
          refine JS_getR (x := (gDx s 1)) dX5_placeBy_81 flX5_71 BS_225 (Nat.le_of_ble_eq_true rfl) (Nat.le_of_ble_eq_true rfl) (Or.inl ⟨_, ct_5_10⟩) (RF_225_10.trans hr70) ?_
          refine JT_iload (q := 1) dX5_placeBy_84 rfl ?_
          refine JS_callVI (M' := MX4_lives) (d' := 0) (As := [.int (gI s 226 (a1).toNatClampNeg)]) (rest := []) (P := (fun zv9 wm9 => (vX4_lives s (gDx s 1) (rfx (gDx s 1) 8) (gI s 226 (a1).toNatClampNeg)) = zv9 ∧ s = wm9)) dX5_placeBy_86 cvX5_87 okX4_lives rfl (Nat.le_of_ble_eq_true rfl) (lxB hL71) (lx2 hL71) (lxN hL71) hci_4 (Nat.le_of_ble_eq_true rfl) (by show 0 + 1 ≤ e + 4; omega) (pX4_lives hL71 ((gI s 226 (a1).toNatClampNeg))  ⟨rfl, rfl⟩) (fun zv9 wm9 hq9 => ?_)
          obtain ⟨rfl, rfl⟩ := hq9
          refine JT_if_eq (tgt := 104) dX5_placeBy_89 (by decide) (fun hc93 => ?_) (fun hc93 => ?_)
          · have h := h.1 hc93
            exact JS_vret dX5_placeBy_104 rfl h
          · have h := h.2 hc93
            refine JT_aload_n (q := 2) dX5_placeBy_92 rfl rfl ?_
            obtain ⟨hr72, hL73, h⟩ := h
            refine JS_getR (x := (gDx s 1)) dX5_placeBy_93 flX5_71 BS_225 (Nat.le_of_ble_eq_true rfl) (Nat.le_of_ble_eq_true rfl) (Or.inl ⟨_, ct_5_10⟩) (RF_225_10.trans hr72) ?_
            refine JT_iload (q := 0) dX5_placeBy_96 rfl ?_
            refine JS_callVI (M' := MX4_lives) (d' := 0) (As := [.int (gI s ((rfx (gDx s 1) 8) + 3) ((gI s 227 (a1).toNatClampNeg)).toNatClampNeg)]) (rest := []) (P := (fun zv9 wm9 => (vX4_lives s (gDx s 1) (rfx (gDx s 1) 8) (gI s ((rfx (gDx s 1) 8) + 3) ((gI s 227 (a1).toNatClampNeg)).toNatClampNeg)) = zv9 ∧ s = wm9)) dX5_placeBy_98 cvX5_87 okX4_lives rfl (Nat.le_of_ble_eq_true rfl) (lxB hL73) (lx2 hL73) (lxN hL73) hci_4 (Nat.le_of_ble_eq_true rfl) (by show 0 + 1 ≤ e + 4; omega) (pX4_lives hL73 ((gI s ((rfx (gDx s 1) 8) + 3) ((gI s 227 (a1).toNatClampNeg)).toNatClampNeg))  ⟨rfl, rfl⟩) (fun zv9 wm9 hq9 => ?_)
            obtain ⟨rfl, rfl⟩ := hq9
            refine JT_if_ne (tgt := 105) dX5_placeBy_101 (by decide) (fun hc91 => ?_) (fun hc91 => ?_)
            · have h := h.1 hc91
              refine JT_aload_n (q := 2) dX5_placeBy_105 rfl rfl ?_
              obtain ⟨hr74, hL75, h⟩ := h
              refine JS_getR (x := (gDx s 1)) dX5_placeBy_106 flX5_71 BS_225 (Nat.le_of_ble_eq_true rfl) (Nat.le_of_ble_eq_true rfl) (Or.inl ⟨_, ct_5_10⟩) (RF_225_10.trans hr74) ?_
              refine JS_getR (x := (rfx (gDx s 1) 8)) dX5_placeBy_109 flX5_95 (lxB hL75) (lx2 hL75) (lxN hL75) (Or.inl ⟨_, ct_4_8⟩) (lxR8 hL75) ?_
              refine JS_getR (x := ((rfx (gDx s 1) 8) + 5)) dX5_placeBy_112 flX5_102 (pxB (lxP hL75)) (px2 (lxP hL75)) (pxN (lxP hL75)) (Or.inr ⟨_, ct_6_4⟩) (pxR4 (lxP hL75)) ?_
              refine JT_aload_n (q := 2) dX5_placeBy_115 rfl rfl ?_
              refine JS_getR (x := 228) dX5_placeBy_116 flX5_18 BS_225 (Nat.le_of_ble_eq_true rfl) (Nat.le_of_ble_eq_true rfl) (Or.inr ⟨_, ct_5_4⟩) RF_225_4 ?_
              refine JT_iload_n (q := 3) dX5_placeBy_119 rfl rfl ?_
              obtain ⟨o76, h⟩ := h
              refine JS_iald dX5_placeBy_120 BS_228 (Nat.le_of_ble_eq_true rfl) (Nat.le_of_ble_eq_true rfl) o76 ?_
              obtain ⟨o77, h⟩ := h
              refine JS_iald dX5_placeBy_121 (pxB5 (lxP hL75)) (px2k (lxP hL75) _) (pxNk (lxP hL75) (Nat.le_of_ble_eq_true rfl)) o77 ?_
              refine JT_istore (lv' := [(6, .int (gI s ((rfx (gDx s 1) 8) + 5) ((gI s 228 (a1).toNatClampNeg)).toNatClampNeg)), (5, .int (gI s ((rfx (gDx s 1) 8) + 3) ((gI s 227 (a1).toNatClampNeg)).toNatClampNeg)), (4, .int (gI s 226 (a1).toNatClampNeg)), (0, .ref 225), (1, .int a1), (2, .int a2), (3, .int a3)]) dX5_placeBy_122 (Nat.le_of_ble_eq_true rfl) rfl ?_
              refine JT_aload_n (q := 3) dX5_placeBy_124 rfl rfl ?_
              refine JS_getR (x := 232) dX5_placeBy_125 flX5_30 BS_225 (Nat.le_of_ble_eq_true rfl) (Nat.le_of_ble_eq_true rfl) (Or.inr ⟨_, ct_5_8⟩) RF_225_8 ?_
              refine JT_iload (q := 2) dX5_placeBy_128 rfl ?_
              refine JT_dup2 dX5_placeBy_130 rfl rfl ?_
              obtain ⟨o78, h⟩ := h
              refine JS_iald dX5_placeBy_131 BS_232 (Nat.le_of_ble_eq_true rfl) (Nat.le_of_ble_eq_true rfl) o78 ?_
              refine JT_iload (q := 0) dX5_placeBy_132 rfl ?_
              refine JT_isub dX5_placeBy_134 ?_
              obtain ⟨o79, h⟩ := h
              refine JS_iast dX5_placeBy_135 BS_232 (Nat.le_of_ble_eq_true rfl) (Nat.le_of_ble_eq_true rfl) o79 ?_
              obtain ⟨s80, hs80⟩ : ∃ z, z = (pI s 232 ((gI s 226 (a1).toNatClampNeg)).toNatClampNeg ((gI s 232 ((gI s 226 (a1).toNatClampNeg)).toNatClampNeg) - (gI s ((rfx (gDx s 1) 8) + 5) ((gI s 228 (a1).toNatClampNeg)).toNatClampNeg))) := ⟨_, rfl⟩
              replace h := h s80 hs80
              rw [← hs80]
              refine JT_aload_n (q := 3) dX5_placeBy_136 rfl rfl ?_
              refine JS_getR (x := 232) dX5_placeBy_137 flX5_30 BS_225 (Nat.le_of_ble_eq_true rfl) (Nat.le_of_ble_eq_true rfl) (Or.inr ⟨_, ct_5_8⟩) RF_225_8 ?_
              refine JT_iload (q := 1) dX5_placeBy_140 rfl ?_
              refine JT_dup2 dX5_placeBy_142 rfl rfl ?_
              obtain ⟨o81, h⟩ := h
              refine JS_iald dX5_placeBy_143 BS_232 (Nat.le_of_ble_eq_true rfl) (Nat.le_of_ble_eq_true rfl) o81 ?_
              refine JT_iload (q := 0) dX5_placeBy_144 rfl ?_
              refine JT_isub dX5_placeBy_146 ?_
              obtain ⟨o82, h⟩ := h
              refine JS_iast dX5_placeBy_147 BS_232 (Nat.le_of_ble_eq_true rfl) (Nat.le_of_ble_eq_true rfl) o82 ?_
              obtain ⟨s83, hs83⟩ : ∃ z, z = (pI s80 232 ((gI s ((rfx (gDx s 1) 8) + 3) ((gI s 227 (a1).toNatClampNeg)).toNatClampNeg)).toNatClampNeg ((gI s80 232 ((gI s ((rfx (gDx s 1) 8) + 3) ((gI s 227 (a1).toNatClampNeg)).toNatClampNeg)).toNatClampNeg) - (gI s ((rfx (gDx s 1) 8) + 5) ((gI s 228 (a1).toNatClampNeg)).toNatClampNeg))) := ⟨_, rfl⟩
              replace h := h s83 hs83
              rw [← hs83]
              refine JT_aload_n (q := 3) dX5_placeBy_148 rfl rfl ?_
              refine JS_getR (x := 232) dX5_placeBy_149 flX5_30 BS_225 (Nat.le_of_ble_eq_true rfl) (Nat.le_of_ble_eq_true rfl) (Or.inr ⟨_, ct_5_8⟩) RF_225_8 ?_
              refine JT_iload (q := 2) dX5_placeBy_152 rfl ?_
              obtain ⟨o84, h⟩ := h
              refine JS_iald dX5_placeBy_154 BS_232 (Nat.le_of_ble_eq_true rfl) (Nat.le_of_ble_eq_true rfl) o84 ?_
              refine JT_if_lt (tgt := 185) dX5_placeBy_155 (by decide) (fun hc90 => ?_) (fun hc90 => ?_)
              · have h := h.1 hc90
                exact JT_sub [3, 4, 5, 6, 2, 1, 0] rfl h
              · have h := h.2 hc90
                refine JT_aload_n (q := 3) dX5_placeBy_158 rfl rfl ?_
                refine JS_getR (x := 232) dX5_placeBy_159 flX5_30 BS_225 (Nat.le_of_ble_eq_true rfl) (Nat.le_of_ble_eq_true rfl) (Or.inr ⟨_, ct_5_8⟩) RF_225_8 ?_
                refine JT_iload (q := 1) dX5_placeBy_162 rfl ?_
                obtain ⟨o85, h⟩ := h
                refine JS_iald dX5_placeBy_164 BS_232 (Nat.le_of_ble_eq_true rfl) (Nat.le_of_ble_eq_true rfl) o85 ?_
                refine JT_if_lt (tgt := 185) dX5_placeBy_165 (by decide) (fun hc89 => ?_) (fun hc89 => ?_)
                · have h := h.1 hc89
                  exact JT_sub [3, 4, 5, 6, 2, 1, 0] rfl h
                · have h := h.2 hc89
                  refine JT_aload_n (q := 3) dX5_placeBy_168 rfl rfl ?_
                  refine JS_getR (x := 229) dX5_placeBy_169 flX5_21 BS_225 (Nat.le_of_ble_eq_true rfl) (Nat.le_of_ble_eq_true rfl) (Or.inr ⟨_, ct_5_5⟩) RF_225_5 ?_
                  refine JT_iload_n (q := 4) dX5_placeBy_172 rfl rfl ?_
                  refine JT_iload_n (q := 5) dX5_placeBy_173 rfl rfl ?_
                  obtain ⟨o86, h⟩ := h
                  refine JS_iast dX5_placeBy_174 BS_229 (Nat.le_of_ble_eq_true rfl) (Nat.le_of_ble_eq_true rfl) o86 ?_
                  refine JT_aload_n (q := 3) dX5_placeBy_175 rfl rfl ?_
                  refine JT_iload_n (q := 4) dX5_placeBy_176 rfl rfl ?_
                  refine JT_iconst (v := 1) dX5_placeBy_177 ic_1 ?_
                  refine JT_iadd dX5_placeBy_178 ?_
                  refine JT_iload_n (q := 6) dX5_placeBy_179 rfl rfl ?_
                  refine JT_iconst (v := 1) dX5_placeBy_180 ic_1 ?_
                  refine JT_iadd dX5_placeBy_181 ?_
                  refine JS_callVV (M' := MX5_place) (d' := e + 3) (As := [.int (a1 + (1 : Int32)), .int (a3 + (1 : Int32))]) (rest := []) dX5_placeBy_182 cvX5_83 okX5_place rfl (Nat.le_of_ble_eq_true rfl) BS_225 (Nat.le_of_ble_eq_true rfl) (Nat.le_of_ble_eq_true rfl) hci_5 (Nat.le_of_ble_eq_true rfl) (by show e + 3 + 1 ≤ e + 4; omega) h (fun s87 h => ?_)
                  exact JT_sub [3, 4, 5, 6, 2, 1, 0] rfl h
            · have h := h.2 hc91
              exact JS_vret dX5_placeBy_104 rfl h
    · have h := h.2 hc125
      refine JT_aload_n (q := 1) dX5_placeBy_40 rfl rfl ?_
      refine JS_getR (x := 227) dX5_placeBy_41 flX5_15 BS_225 (Nat.le_of_ble_eq_true rfl) (Nat.le_of_ble_eq_true rfl) (Or.inr ⟨_, ct_5_3⟩) RF_225_3 ?_
      refine JT_iload_n (q := 2) dX5_placeBy_44 rfl rfl ?_
      obtain ⟨o97, h⟩ := h
      refine JS_iald dX5_placeBy_45 BS_227 (Nat.le_of_ble_eq_true rfl) (Nat.le_of_ble_eq_true rfl) o97 ?_
      refine JT_goto (tgt := 66) dX5_placeBy_46 (by decide) ?_
      refine JT_istore (lv' := [(5, .int (gI s 227 (a1).toNatClampNeg)), (4, .int (gI s 226 (a1).toNatClampNeg)), (0, .ref 225), (1, .int a1), (2, .int a2), (3, .int a3)]) dX5_placeBy_66 (Nat.le_of_ble_eq_true rfl) rfl ?_
      refine JT_iload (q := 1) dX5_placeBy_68 rfl ?_
      refine JT_iconst (v := -1) dX5_placeBy_70 ic_m1 ?_
      refine JT_icmp_eq (tgt := 104) dX5_placeBy_71 (by decide) (fun hc124 => ?_) (fun hc124 => ?_)
      · have h := h.1 hc124
        exact JS_vret dX5_placeBy_104 rfl h
      · have h := h.2 hc124
        refine JT_iload (q := 0) dX5_placeBy_74 rfl ?_
        refine JT_iconst (v := -1) dX5_placeBy_76 ic_m1 ?_
        refine JT_icmp_eq (tgt := 104) dX5_placeBy_77 (by decide) (fun hc123 => ?_) (fun hc123 => ?_)
        · have h := h.1 hc123
          exact JS_vret dX5_placeBy_104 rfl h
        · have h := h.2 hc123
          refine JT_aload_n (q := 2) dX5_placeBy_80 rfl rfl ?_
          obtain ⟨hr98, hL99, h⟩ := h
          refine JS_getR (x := (gDx s 1)) dX5_placeBy_81 flX5_71 BS_225 (Nat.le_of_ble_eq_true rfl) (Nat.le_of_ble_eq_true rfl) (Or.inl ⟨_, ct_5_10⟩) (RF_225_10.trans hr98) ?_
          refine JT_iload (q := 1) dX5_placeBy_84 rfl ?_
          refine JS_callVI (M' := MX4_lives) (d' := 0) (As := [.int (gI s 226 (a1).toNatClampNeg)]) (rest := []) (P := (fun zv9 wm9 => (vX4_lives s (gDx s 1) (rfx (gDx s 1) 8) (gI s 226 (a1).toNatClampNeg)) = zv9 ∧ s = wm9)) dX5_placeBy_86 cvX5_87 okX4_lives rfl (Nat.le_of_ble_eq_true rfl) (lxB hL99) (lx2 hL99) (lxN hL99) hci_4 (Nat.le_of_ble_eq_true rfl) (by show 0 + 1 ≤ e + 4; omega) (pX4_lives hL99 ((gI s 226 (a1).toNatClampNeg))  ⟨rfl, rfl⟩) (fun zv9 wm9 hq9 => ?_)
          obtain ⟨rfl, rfl⟩ := hq9
          refine JT_if_eq (tgt := 104) dX5_placeBy_89 (by decide) (fun hc121 => ?_) (fun hc121 => ?_)
          · have h := h.1 hc121
            exact JS_vret dX5_placeBy_104 rfl h
          · have h := h.2 hc121
            refine JT_aload_n (q := 2) dX5_placeBy_92 rfl rfl ?_
            obtain ⟨hr100, hL101, h⟩ := h
            refine JS_getR (x := (gDx s 1)) dX5_placeBy_93 flX5_71 BS_225 (Nat.le_of_ble_eq_true rfl) (Nat.le_of_ble_eq_true rfl) (Or.inl ⟨_, ct_5_10⟩) (RF_225_10.trans hr100) ?_
            refine JT_iload (q := 0) dX5_placeBy_96 rfl ?_
            refine JS_callVI (M' := MX4_lives) (d' := 0) (As := [.int (gI s 227 (a1).toNatClampNeg)]) (rest := []) (P := (fun zv9 wm9 => (vX4_lives s (gDx s 1) (rfx (gDx s 1) 8) (gI s 227 (a1).toNatClampNeg)) = zv9 ∧ s = wm9)) dX5_placeBy_98 cvX5_87 okX4_lives rfl (Nat.le_of_ble_eq_true rfl) (lxB hL101) (lx2 hL101) (lxN hL101) hci_4 (Nat.le_of_ble_eq_true rfl) (by show 0 + 1 ≤ e + 4; omega) (pX4_lives hL101 ((gI s 227 (a1).toNatClampNeg))  ⟨rfl, rfl⟩) (fun zv9 wm9 hq9 => ?_)
            obtain ⟨rfl, rfl⟩ := hq9
            refine JT_if_ne (tgt := 105) dX5_placeBy_101 (by decide) (fun hc119 => ?_) (fun hc119 => ?_)
            · have h := h.1 hc119
              refine JT_aload_n (q := 2) dX5_placeBy_105 rfl rfl ?_
              obtain ⟨hr102, hL103, h⟩ := h
              refine JS_getR (x := (gDx s 1)) dX5_placeBy_106 flX5_71 BS_225 (Nat.le_of_ble_eq_true rfl) (Nat.le_of_ble_eq_true rfl) (Or.inl ⟨_, ct_5_10⟩) (RF_225_10.trans hr102) ?_
              refine JS_getR (x := (rfx (gDx s 1) 8)) dX5_placeBy_109 flX5_95 (lxB hL103) (lx2 hL103) (lxN hL103) (Or.inl ⟨_, ct_4_8⟩) (lxR8 hL103) ?_
              refine JS_getR (x := ((rfx (gDx s 1) 8) + 5)) dX5_placeBy_112 flX5_102 (pxB (lxP hL103)) (px2 (lxP hL103)) (pxN (lxP hL103)) (Or.inr ⟨_, ct_6_4⟩) (pxR4 (lxP hL103)) ?_
              refine JT_aload_n (q := 2) dX5_placeBy_115 rfl rfl ?_
              refine JS_getR (x := 228) dX5_placeBy_116 flX5_18 BS_225 (Nat.le_of_ble_eq_true rfl) (Nat.le_of_ble_eq_true rfl) (Or.inr ⟨_, ct_5_4⟩) RF_225_4 ?_
              refine JT_iload_n (q := 3) dX5_placeBy_119 rfl rfl ?_
              obtain ⟨o104, h⟩ := h
              refine JS_iald dX5_placeBy_120 BS_228 (Nat.le_of_ble_eq_true rfl) (Nat.le_of_ble_eq_true rfl) o104 ?_
              obtain ⟨o105, h⟩ := h
              refine JS_iald dX5_placeBy_121 (pxB5 (lxP hL103)) (px2k (lxP hL103) _) (pxNk (lxP hL103) (Nat.le_of_ble_eq_true rfl)) o105 ?_
              refine JT_istore (lv' := [(6, .int (gI s ((rfx (gDx s 1) 8) + 5) ((gI s 228 (a1).toNatClampNeg)).toNatClampNeg)), (5, .int (gI s 227 (a1).toNatClampNeg)), (4, .int (gI s 226 (a1).toNatClampNeg)), (0, .ref 225), (1, .int a1), (2, .int a2), (3, .int a3)]) dX5_placeBy_122 (Nat.le_of_ble_eq_true rfl) rfl ?_
              refine JT_aload_n (q := 3) dX5_placeBy_124 rfl rfl ?_
              refine JS_getR (x := 232) dX5_placeBy_125 flX5_30 BS_225 (Nat.le_of_ble_eq_true rfl) (Nat.le_of_ble_eq_true rfl) (Or.inr ⟨_, ct_5_8⟩) RF_225_8 ?_
              refine JT_iload (q := 2) dX5_placeBy_128 rfl ?_
              refine JT_dup2 dX5_placeBy_130 rfl rfl ?_
              obtain ⟨o106, h⟩ := h
              refine JS_iald dX5_placeBy_131 BS_232 (Nat.le_of_ble_eq_true rfl) (Nat.le_of_ble_eq_true rfl) o106 ?_
              refine JT_iload (q := 0) dX5_placeBy_132 rfl ?_
              refine JT_isub dX5_placeBy_134 ?_
              obtain ⟨o107, h⟩ := h
              refine JS_iast dX5_placeBy_135 BS_232 (Nat.le_of_ble_eq_true rfl) (Nat.le_of_ble_eq_true rfl) o107 ?_
              obtain ⟨s108, hs108⟩ : ∃ z, z = (pI s 232 ((gI s 226 (a1).toNatClampNeg)).toNatClampNeg ((gI s 232 ((gI s 226 (a1).toNatClampNeg)).toNatClampNeg) - (gI s ((rfx (gDx s 1) 8) + 5) ((gI s 228 (a1).toNatClampNeg)).toNatClampNeg))) := ⟨_, rfl⟩
              replace h := h s108 hs108
              rw [← hs108]
              refine JT_aload_n (q := 3) dX5_placeBy_136 rfl rfl ?_
              refine JS_getR (x := 232) dX5_placeBy_137 flX5_30 BS_225 (Nat.le_of_ble_eq_true rfl) (Nat.le_of_ble_eq_true rfl) (Or.inr ⟨_, ct_5_8⟩) RF_225_8 ?_
              refine JT_iload (q := 1) dX5_placeBy_140 rfl ?_
              refine JT_dup2 dX5_placeBy_142 rfl rfl ?_
              obtain ⟨o109, h⟩ := h
              refine JS_iald dX5_placeBy_143 BS_232 (Nat.le_of_ble_eq_true rfl) (Nat.le_of_ble_eq_true rfl) o109 ?_
              refine JT_iload (q := 0) dX5_placeBy_144 rfl ?_
              refine JT_isub dX5_placeBy_146 ?_
              obtain ⟨o110, h⟩ := h
              refine JS_iast dX5_placeBy_147 BS_232 (Nat.le_of_ble_eq_true rfl) (Nat.le_of_ble_eq_true rfl) o110 ?_
              obtain ⟨s111, hs111⟩ : ∃ z, z = (pI s108 232 ((gI s 227 (a1).toNatClampNeg)).toNatClampNeg ((gI s108 232 ((gI s 227 (a1).toNatClampNeg)).toNatClampNeg) - (gI s ((rfx (gDx s 1) 8) + 5) ((gI s 228 (a1).toNatClampNeg)).toNatClampNeg))) := ⟨_, rfl⟩
              replace h := h s111 hs111
              rw [← hs111]
              refine JT_aload_n (q := 3) dX5_placeBy_148 rfl rfl ?_
              refine JS_getR (x := 232) dX5_placeBy_149 flX5_30 BS_225 (Nat.le_of_ble_eq_true rfl) (Nat.le_of_ble_eq_true rfl) (Or.inr ⟨_, ct_5_8⟩) RF_225_8 ?_
              refine JT_iload (q := 2) dX5_placeBy_152 rfl ?_
              obtain ⟨o112, h⟩ := h
              refine JS_iald dX5_placeBy_154 BS_232 (Nat.le_of_ble_eq_true rfl) (Nat.le_of_ble_eq_true rfl) o112 ?_
              refine JT_if_lt (tgt := 185) dX5_placeBy_155 (by decide) (fun hc118 => ?_) (fun hc118 => ?_)
              · have h := h.1 hc118
                exact JT_sub [3, 4, 5, 6, 2, 1, 0] rfl h
              · have h := h.2 hc118
                refine JT_aload_n (q := 3) dX5_placeBy_158 rfl rfl ?_
                refine JS_getR (x := 232) dX5_placeBy_159 flX5_30 BS_225 (Nat.le_of_ble_eq_true rfl) (Nat.le_of_ble_eq_true rfl) (Or.inr ⟨_, ct_5_8⟩) RF_225_8 ?_
                refine JT_iload (q := 1) dX5_placeBy_162 rfl ?_
                obtain ⟨o113, h⟩ := h
                refine JS_iald dX5_placeBy_164 BS_232 (Nat.le_of_ble_eq_true rfl) (Nat.le_of_ble_eq_true rfl) o113 ?_
                refine JT_if_lt (tgt := 185) dX5_placeBy_165 (by decide) (fun hc117 => ?_) (fun hc117 => ?_)
                · have h := h.1 hc117
                  exact JT_sub [3, 4, 5, 6, 2, 1, 0] rfl h
                · have h := h.2 hc117
                  refine JT_aload_n (q := 3) dX5_placeBy_168 rfl rfl ?_
                  refine JS_getR (x := 229) dX5_placeBy_169 flX5_21 BS_225 (Nat.le_of_ble_eq_true rfl) (Nat.le_of_ble_eq_true rfl) (Or.inr ⟨_, ct_5_5⟩) RF_225_5 ?_
                  refine JT_iload_n (q := 4) dX5_placeBy_172 rfl rfl ?_
                  refine JT_iload_n (q := 5) dX5_placeBy_173 rfl rfl ?_
                  obtain ⟨o114, h⟩ := h
                  refine JS_iast dX5_placeBy_174 BS_229 (Nat.le_of_ble_eq_true rfl) (Nat.le_of_ble_eq_true rfl) o114 ?_
                  refine JT_aload_n (q := 3) dX5_placeBy_175 rfl rfl ?_
                  refine JT_iload_n (q := 4) dX5_placeBy_176 rfl rfl ?_
                  refine JT_iconst (v := 1) dX5_placeBy_177 ic_1 ?_
                  refine JT_iadd dX5_placeBy_178 ?_
                  refine JT_iload_n (q := 6) dX5_placeBy_179 rfl rfl ?_
                  refine JT_iconst (v := 1) dX5_placeBy_180 ic_1 ?_
                  refine JT_iadd dX5_placeBy_181 ?_
                  refine JS_callVV (M' := MX5_place) (d' := e + 3) (As := [.int (a1 + (1 : Int32)), .int (a3 + (1 : Int32))]) (rest := []) dX5_placeBy_182 cvX5_83 okX5_place rfl (Nat.le_of_ble_eq_true rfl) BS_225 (Nat.le_of_ble_eq_true rfl) (Nat.le_of_ble_eq_true rfl) hci_5 (Nat.le_of_ble_eq_true rfl) (by show e + 3 + 1 ≤ e + 4; omega) h (fun s115 h => ?_)
                  exact JT_sub [3, 4, 5, 6, 2, 1, 0] rfl h
            · have h := h.2 hc119
              exact JS_vret dX5_placeBy_104 rfl h
set_option maxRecDepth 1000000 in
theorem gX5_place : ∀ n : Nat, ∀ e : Nat, n ≤ e → (∀ (a1 : Int32) (a2 : Int32) (s : SM) (Q : SM → Prop), (qX5_place n).1 s a1 a2 → Q ((lX5_place n).1 s a1 a2) → BV MX5_place (e + 4) 30 [(0, .ref 225), (1, .int a1), (2, .int a2)] s Q) ∧ (∀ (a1 : Int32) (a2 : Int32) (a3 : Int32) (s : SM) (Q : SM → Prop), (qX5_place n).2.1 s a1 a2 a3 → Q ((lX5_place n).2.1 s a1 a2 a3) → BV MX5_place (e + 4) 100 [(0, .ref 225), (1, .int a1), (2, .int a2), (3, .int a3)] s Q) ∧ (∀ (a1 : Int32) (a2 : Int32) (s : SM) (Q : SM → Prop), (qX5_place n).2.2.1 s a1 a2 → Q ((lX5_place n).2.2.1 s a1 a2) → BV MX5_place (e + 4) 118 [(0, .ref 225), (1, .int a1), (2, .int a2)] s Q) ∧ (∀ (a1 : Int32) (a2 : Int32) (a3 : Int32) (a4 : Int32) (a5 : Int32) (a6 : Int32) (s : SM) (Q : SM → Prop), (qX5_place n).2.2.2.1 s a1 a2 a3 a4 a5 a6 → Q ((lX5_place n).2.2.2.1 s a1 a2 a3 a4 a5 a6) → BV MX5_placeBy (e + 4) 185 [(0, .ref 225), (1, .int a1), (2, .int a2), (3, .int a3), (4, .int a4), (5, .int a5), (6, .int a6)] s Q) ∧ (∀ (a1 : Int32) (a2 : Int32) (s : SM) (Q : SM → Prop), (qX5_place n).2.2.2.2.1 s a1 a2 → Q ((lX5_place n).2.2.2.2.1 s a1 a2) → KV MX5_place (e + 4) [.ref 225, .int a1, .int a2] s Q) ∧ (∀ (a1 : Int32) (a2 : Int32) (a3 : Int32) (s : SM) (Q : SM → Prop), (qX5_place n).2.2.2.2.2 s a1 a2 a3 → Q ((lX5_place n).2.2.2.2.2 s a1 a2 a3) → KV MX5_placeBy (e + 4) [.ref 225, .int a1, .int a2, .int a3] s Q) := by
  intro n
  induction n with
  | zero =>
    intro e _
    exact ⟨fun _ _ _ _ hq _ => absurd hq id, fun _ _ _ _ _ hq _ => absurd hq id, fun _ _ _ _ hq _ => absurd hq id, fun _ _ _ _ _ _ _ _ hq _ => absurd hq id, fun _ _ _ _ hq _ => absurd hq id, fun _ _ _ _ _ hq _ => absurd hq id⟩
  | succ n ih =>
    intro e he
    obtain ⟨e, rfl⟩ : ∃ e9, e = e9 + 1 := ⟨e - 1, by omega⟩
    have ihs := ih e (by omega)
    have ihl := ih (e + 1) (by omega)
    refine ⟨?_, ?_, ?_, ?_, ?_, ?_⟩
    · intro a1 a2 s Q hr h
      replace hr : uX5_place_30 (lX5_place n) (qX5_place n) s a1 a2 := hr
      replace h : Q (tX5_place_30 (lX5_place n) s a1 a2) := h
      unfold uX5_place_30 at hr
      unfold tX5_place_30 at h
      refine bX5_place_30 (e := e + 1) a1 a2 ?_
      intro s1 e9
      try rw [← e9] at h
      try dsimp only at h
      first | exact h | contradiction
    · intro a1 a2 a3 s Q hr h
      replace hr : uX5_place_100 (lX5_place n) (qX5_place n) s a1 a2 a3 := hr
      replace h : Q (tX5_place_100 (lX5_place n) s a1 a2 a3) := h
      unfold uX5_place_100 at hr
      unfold tX5_place_100 at h
      refine bX5_place_100 (e := e + 1) a1 a2 a3 ?_
      refine ⟨fun c => ?_, fun c => ?_⟩
      · replace hr := hr.1 c
        replace h := q1p c h
        first | exact ihl.2.2.1 a1 a2 _ Q hr h | contradiction
      · replace hr := hr.2 c
        replace h := q1n c h
        refine ihs.2.2.2.2.2 a1 a3 a2 _ _ hr.1 ?_
        replace hr := hr.2 _ rfl
        try dsimp only at h
        first | exact ihl.2.1 a1 a2 (a3 + 1) _ Q hr h | contradiction
    · intro a1 a2 s Q hr h
      replace hr : uX5_place_118 (lX5_place n) (qX5_place n) s a1 a2 := hr
      replace h : Q (tX5_place_118 (lX5_place n) s a1 a2) := h
      unfold uX5_place_118 at hr
      unfold tX5_place_118 at h
      refine bX5_place_118 (e := e + 1) a1 a2 ?_
      refine ⟨hr.1, ?_⟩
      replace hr := hr.2
      refine ihs.2.2.2.2.1 (a1 + (1 : Int32)) a2 _ _ hr ?_
      try dsimp only at h
      first | exact h | contradiction
    · intro a1 a2 a3 a4 a5 a6 s Q hr h
      replace hr : uX5_placeBy_185 (lX5_place n) (qX5_place n) s a1 a2 a3 a4 a5 a6 := hr
      replace h : Q (tX5_placeBy_185 (lX5_place n) s a1 a2 a3 a4 a5 a6) := h
      unfold uX5_placeBy_185 at hr
      unfold tX5_placeBy_185 at h
      refine bX5_placeBy_185 (e := e + 1) a1 a2 a3 a4 a5 a6 ?_
      refine ⟨hr.1, ?_⟩
      replace hr := hr.2
      refine ⟨hr.1, ?_⟩
      replace hr := hr.2
      refine ⟨hr.1, ?_⟩
      replace hr := hr.2
      refine ⟨hr, ?_⟩
      intro s5 e9
      try rw [← e9] at h
      try dsimp only at h
      first | exact h | contradiction
    · intro a1 a2 s Q hr h
      replace hr : uX5_place_e (lX5_place n) (qX5_place n) s a1 a2 := hr
      replace h : Q (tX5_place_e (lX5_place n) s a1 a2) := h
      unfold uX5_place_e at hr
      unfold tX5_place_e at h
      refine bX5_place (e := e + 1) a1 a2 ?_
      refine ⟨fun c => ?_, fun c => ?_⟩
      · replace hr := hr c
        replace h := q1p c h
        refine ⟨fun c => ?_, fun c => ?_⟩
        · replace hr := hr.1 c
          replace h := q1p c h
          first | exact ihl.1 a1 a2 _ Q hr h | contradiction
        · replace hr := hr.2 c
          replace h := q1n c h
          refine ⟨fun c => ?_, fun c => ?_⟩
          · replace hr := hr.1 c
            replace h := q1p c h
            refine ⟨hr.1, ?_⟩
            replace hr := hr.2
            refine ⟨hr.1, ?_⟩
            replace hr := hr.2
            refine ⟨fun c => ?_, fun c => ?_⟩
            · replace hr := hr.1 c
              replace h := q1p c h
              first | exact ihl.2.2.1 a1 a2 _ Q hr h | contradiction
            · replace hr := hr.2 c
              replace h := q1n c h
              refine ⟨hr.1, ?_⟩
              replace hr := hr.2
              refine ⟨hr.1, ?_⟩
              replace hr := hr.2
              refine ⟨hr.1, ?_⟩
              replace hr := hr.2
              refine ⟨fun c => ?_, fun c => ?_⟩
              · replace hr := hr.1 c
                replace h := q1p c h
                first | exact ihl.2.2.1 a1 a2 _ Q hr h | contradiction
              · replace hr := hr.2 c
                replace h := q1n c h
                refine ⟨hr.1, ?_⟩
                replace hr := hr.2
                refine ⟨hr.1, ?_⟩
                replace hr := hr.2
                refine ⟨hr.1, ?_⟩
                replace hr := hr.2
                refine ⟨fun c => ?_, fun c => ?_⟩
                · replace hr := hr.1 c
                  replace h := q1p c h
                  first | exact ihl.2.2.1 a1 a2 _ Q hr h | contradiction
                · replace hr := hr.2 c
                  replace h := q1n c h
                  first | exact ihl.2.1 a1 a2 (0 : Int32) _ Q hr h | contradiction
          · replace hr := hr.2 c
            replace h := q1n c h
            first | exact ihl.1 a1 a2 _ Q hr h | contradiction
      · replace h := q1n c h
        first | exact h | contradiction
    · intro a1 a2 a3 s Q hr h
      replace hr : uX5_placeBy_e (lX5_place n) (qX5_place n) s a1 a2 a3 := hr
      replace h : Q (tX5_placeBy_e (lX5_place n) s a1 a2 a3) := h
      unfold uX5_placeBy_e at hr
      unfold tX5_placeBy_e at h
      refine bX5_placeBy (e := e + 1) a1 a2 a3 ?_
      refine ⟨fun c => ?_, fun c => ?_⟩
      · replace hr := hr.1 c
        replace h := q1n c h
        refine ⟨hr.1, ?_⟩
        replace hr := hr.2
        refine ⟨hr.1, ?_⟩
        replace hr := hr.2
        refine ⟨hr.1, ?_⟩
        replace hr := hr.2
        refine ⟨hr.1, ?_⟩
        replace hr := hr.2
        refine ⟨fun c => ?_, fun c => ?_⟩
        · replace hr := hr.1 c
          replace h := q1n c h
          refine ⟨hr.1, ?_⟩
          replace hr := hr.2
          refine ⟨hr.1, ?_⟩
          replace hr := hr.2
          refine ⟨hr.1, ?_⟩
          replace hr := hr.2
          refine ⟨hr.1, ?_⟩
          replace hr := hr.2
          refine ⟨fun c => ?_, fun c => ?_⟩
          · replace h := q1p c h
            first | exact h | contradiction
          · replace hr := hr c
            replace h := q1n c h
            refine ⟨fun c => ?_, fun c => ?_⟩
            · replace h := q1p c h
              first | exact h | contradiction
            · replace hr := hr c
              replace h := q1n c h
              refine ⟨hr.1, ?_⟩
              replace hr := hr.2
              refine ⟨hr.1, ?_⟩
              replace hr := hr.2
              refine ⟨fun c => ?_, fun c => ?_⟩
              · replace h := q1p c h
                first | exact h | contradiction
              · replace hr := hr c
                replace h := q1n c h
                refine ⟨hr.1, ?_⟩
                replace hr := hr.2
                refine ⟨hr.1, ?_⟩
                replace hr := hr.2
                refine ⟨fun c => ?_, fun c => ?_⟩
                · replace hr := hr c
                  replace h := q1n c h
                  refine ⟨hr.1, ?_⟩
                  replace hr := hr.2
                  refine ⟨hr.1, ?_⟩
                  replace hr := hr.2
                  refine ⟨hr.1, ?_⟩
                  replace hr := hr.2
                  refine ⟨hr.1, ?_⟩
                  replace hr := hr.2
                  refine ⟨hr.1, ?_⟩
                  replace hr := hr.2
                  refine ⟨hr.1, ?_⟩
                  replace hr := hr.2
                  intro s19 e9
                  replace hr := hr s19 e9
                  try rw [← e9] at h
                  try dsimp only at h
                  refine ⟨hr.1, ?_⟩
                  replace hr := hr.2
                  refine ⟨hr.1, ?_⟩
                  replace hr := hr.2
                  intro s22 e9
                  replace hr := hr s22 e9
                  try rw [← e9] at h
                  try dsimp only at h
                  refine ⟨hr.1, ?_⟩
                  replace hr := hr.2
                  refine ⟨fun c => ?_, fun c => ?_⟩
                  · replace hr := hr.1 c
                    replace h := q1p c h
                    first | exact ihl.2.2.2.1 a1 a2 a3 (gI s ((rfx (gDx s 1) 8) + 3) ((gI s 226 (a1).toNatClampNeg)).toNatClampNeg) (gI s ((rfx (gDx s 1) 8) + 3) ((gI s 227 (a1).toNatClampNeg)).toNatClampNeg) (gI s ((rfx (gDx s 1) 8) + 5) ((gI s 228 (a1).toNatClampNeg)).toNatClampNeg) _ Q hr h | contradiction
                  · replace hr := hr.2 c
                    replace h := q1n c h
                    refine ⟨hr.1, ?_⟩
                    replace hr := hr.2
                    refine ⟨fun c => ?_, fun c => ?_⟩
                    · replace hr := hr.1 c
                      replace h := q1p c h
                      first | exact ihl.2.2.2.1 a1 a2 a3 (gI s ((rfx (gDx s 1) 8) + 3) ((gI s 226 (a1).toNatClampNeg)).toNatClampNeg) (gI s ((rfx (gDx s 1) 8) + 3) ((gI s 227 (a1).toNatClampNeg)).toNatClampNeg) (gI s ((rfx (gDx s 1) 8) + 5) ((gI s 228 (a1).toNatClampNeg)).toNatClampNeg) _ Q hr h | contradiction
                    · replace hr := hr.2 c
                      replace h := q1n c h
                      refine ⟨hr.1, ?_⟩
                      replace hr := hr.2
                      refine ihs.2.2.2.2.1 (a1 + (1 : Int32)) (a3 + (1 : Int32)) _ _ hr.1 ?_
                      replace hr := hr.2 _ rfl
                      try dsimp only at h
                      first | exact ihl.2.2.2.1 a1 a2 a3 (gI s ((rfx (gDx s 1) 8) + 3) ((gI s 226 (a1).toNatClampNeg)).toNatClampNeg) (gI s ((rfx (gDx s 1) 8) + 3) ((gI s 227 (a1).toNatClampNeg)).toNatClampNeg) (gI s ((rfx (gDx s 1) 8) + 5) ((gI s 228 (a1).toNatClampNeg)).toNatClampNeg) _ Q hr h | contradiction
                · replace h := q1p c h
                  first | exact h | contradiction
        · replace hr := hr.2 c
          replace h := q1p c h
          refine ⟨hr.1, ?_⟩
          replace hr := hr.2
          refine ⟨fun c => ?_, fun c => ?_⟩
          · replace h := q1p c h
            first | exact h | contradiction
          · replace hr := hr c
            replace h := q1n c h
            refine ⟨fun c => ?_, fun c => ?_⟩
            · replace h := q1p c h
              first | exact h | contradiction
            · replace hr := hr c
              replace h := q1n c h
              refine ⟨hr.1, ?_⟩
              replace hr := hr.2
              refine ⟨hr.1, ?_⟩
              replace hr := hr.2
              refine ⟨fun c => ?_, fun c => ?_⟩
              · replace h := q1p c h
                first | exact h | contradiction
              · replace hr := hr c
                replace h := q1n c h
                refine ⟨hr.1, ?_⟩
                replace hr := hr.2
                refine ⟨hr.1, ?_⟩
                replace hr := hr.2
                refine ⟨fun c => ?_, fun c => ?_⟩
                · replace hr := hr c
                  replace h := q1n c h
                  refine ⟨hr.1, ?_⟩
                  replace hr := hr.2
                  refine ⟨hr.1, ?_⟩
                  replace hr := hr.2
                  refine ⟨hr.1, ?_⟩
                  replace hr := hr.2
                  refine ⟨hr.1, ?_⟩
                  replace hr := hr.2
                  refine ⟨hr.1, ?_⟩
                  replace hr := hr.2
                  refine ⟨hr.1, ?_⟩
                  replace hr := hr.2
                  intro s47 e9
                  replace hr := hr s47 e9
                  try rw [← e9] at h
                  try dsimp only at h
                  refine ⟨hr.1, ?_⟩
                  replace hr := hr.2
                  refine ⟨hr.1, ?_⟩
                  replace hr := hr.2
                  intro s50 e9
                  replace hr := hr s50 e9
                  try rw [← e9] at h
                  try dsimp only at h
                  refine ⟨hr.1, ?_⟩
                  replace hr := hr.2
                  refine ⟨fun c => ?_, fun c => ?_⟩
                  · replace hr := hr.1 c
                    replace h := q1p c h
                    first | exact ihl.2.2.2.1 a1 a2 a3 (gI s ((rfx (gDx s 1) 8) + 3) ((gI s 226 (a1).toNatClampNeg)).toNatClampNeg) (gI s 227 (a1).toNatClampNeg) (gI s ((rfx (gDx s 1) 8) + 5) ((gI s 228 (a1).toNatClampNeg)).toNatClampNeg) _ Q hr h | contradiction
                  · replace hr := hr.2 c
                    replace h := q1n c h
                    refine ⟨hr.1, ?_⟩
                    replace hr := hr.2
                    refine ⟨fun c => ?_, fun c => ?_⟩
                    · replace hr := hr.1 c
                      replace h := q1p c h
                      first | exact ihl.2.2.2.1 a1 a2 a3 (gI s ((rfx (gDx s 1) 8) + 3) ((gI s 226 (a1).toNatClampNeg)).toNatClampNeg) (gI s 227 (a1).toNatClampNeg) (gI s ((rfx (gDx s 1) 8) + 5) ((gI s 228 (a1).toNatClampNeg)).toNatClampNeg) _ Q hr h | contradiction
                    · replace hr := hr.2 c
                      replace h := q1n c h
                      refine ⟨hr.1, ?_⟩
                      replace hr := hr.2
                      refine ihs.2.2.2.2.1 (a1 + (1 : Int32)) (a3 + (1 : Int32)) _ _ hr.1 ?_
                      replace hr := hr.2 _ rfl
                      try dsimp only at h
                      first | exact ihl.2.2.2.1 a1 a2 a3 (gI s ((rfx (gDx s 1) 8) + 3) ((gI s 226 (a1).toNatClampNeg)).toNatClampNeg) (gI s 227 (a1).toNatClampNeg) (gI s ((rfx (gDx s 1) 8) + 5) ((gI s 228 (a1).toNatClampNeg)).toNatClampNeg) _ Q hr h | contradiction
                · replace h := q1p c h
                  first | exact h | contradiction
      · replace hr := hr.2 c
        replace h := q1p c h
        refine ⟨hr.1, ?_⟩
        replace hr := hr.2
        refine ⟨fun c => ?_, fun c => ?_⟩
        · replace hr := hr.1 c
          replace h := q1n c h
          refine ⟨hr.1, ?_⟩
          replace hr := hr.2
          refine ⟨hr.1, ?_⟩
          replace hr := hr.2
          refine ⟨hr.1, ?_⟩
          replace hr := hr.2
          refine ⟨hr.1, ?_⟩
          replace hr := hr.2
          refine ⟨fun c => ?_, fun c => ?_⟩
          · replace h := q1p c h
            first | exact h | contradiction
          · replace hr := hr c
            replace h := q1n c h
            refine ⟨fun c => ?_, fun c => ?_⟩
            · replace h := q1p c h
              first | exact h | contradiction
            · replace hr := hr c
              replace h := q1n c h
              refine ⟨hr.1, ?_⟩
              replace hr := hr.2
              refine ⟨hr.1, ?_⟩
              replace hr := hr.2
              refine ⟨fun c => ?_, fun c => ?_⟩
              · replace h := q1p c h
                first | exact h | contradiction
              · replace hr := hr c
                replace h := q1n c h
                refine ⟨hr.1, ?_⟩
                replace hr := hr.2
                refine ⟨hr.1, ?_⟩
                replace hr := hr.2
                refine ⟨fun c => ?_, fun c => ?_⟩
                · replace hr := hr c
                  replace h := q1n c h
                  refine ⟨hr.1, ?_⟩
                  replace hr := hr.2
                  refine ⟨hr.1, ?_⟩
                  replace hr := hr.2
                  refine ⟨hr.1, ?_⟩
                  replace hr := hr.2
                  refine ⟨hr.1, ?_⟩
                  replace hr := hr.2
                  refine ⟨hr.1, ?_⟩
                  replace hr := hr.2
                  refine ⟨hr.1, ?_⟩
                  replace hr := hr.2
                  intro s80 e9
                  replace hr := hr s80 e9
                  try rw [← e9] at h
                  try dsimp only at h
                  refine ⟨hr.1, ?_⟩
                  replace hr := hr.2
                  refine ⟨hr.1, ?_⟩
                  replace hr := hr.2
                  intro s83 e9
                  replace hr := hr s83 e9
                  try rw [← e9] at h
                  try dsimp only at h
                  refine ⟨hr.1, ?_⟩
                  replace hr := hr.2
                  refine ⟨fun c => ?_, fun c => ?_⟩
                  · replace hr := hr.1 c
                    replace h := q1p c h
                    first | exact ihl.2.2.2.1 a1 a2 a3 (gI s 226 (a1).toNatClampNeg) (gI s ((rfx (gDx s 1) 8) + 3) ((gI s 227 (a1).toNatClampNeg)).toNatClampNeg) (gI s ((rfx (gDx s 1) 8) + 5) ((gI s 228 (a1).toNatClampNeg)).toNatClampNeg) _ Q hr h | contradiction
                  · replace hr := hr.2 c
                    replace h := q1n c h
                    refine ⟨hr.1, ?_⟩
                    replace hr := hr.2
                    refine ⟨fun c => ?_, fun c => ?_⟩
                    · replace hr := hr.1 c
                      replace h := q1p c h
                      first | exact ihl.2.2.2.1 a1 a2 a3 (gI s 226 (a1).toNatClampNeg) (gI s ((rfx (gDx s 1) 8) + 3) ((gI s 227 (a1).toNatClampNeg)).toNatClampNeg) (gI s ((rfx (gDx s 1) 8) + 5) ((gI s 228 (a1).toNatClampNeg)).toNatClampNeg) _ Q hr h | contradiction
                    · replace hr := hr.2 c
                      replace h := q1n c h
                      refine ⟨hr.1, ?_⟩
                      replace hr := hr.2
                      refine ihs.2.2.2.2.1 (a1 + (1 : Int32)) (a3 + (1 : Int32)) _ _ hr.1 ?_
                      replace hr := hr.2 _ rfl
                      try dsimp only at h
                      first | exact ihl.2.2.2.1 a1 a2 a3 (gI s 226 (a1).toNatClampNeg) (gI s ((rfx (gDx s 1) 8) + 3) ((gI s 227 (a1).toNatClampNeg)).toNatClampNeg) (gI s ((rfx (gDx s 1) 8) + 5) ((gI s 228 (a1).toNatClampNeg)).toNatClampNeg) _ Q hr h | contradiction
                · replace h := q1p c h
                  first | exact h | contradiction
        · replace hr := hr.2 c
          replace h := q1p c h
          refine ⟨hr.1, ?_⟩
          replace hr := hr.2
          refine ⟨fun c => ?_, fun c => ?_⟩
          · replace h := q1p c h
            first | exact h | contradiction
          · replace hr := hr c
            replace h := q1n c h
            refine ⟨fun c => ?_, fun c => ?_⟩
            · replace h := q1p c h
              first | exact h | contradiction
            · replace hr := hr c
              replace h := q1n c h
              refine ⟨hr.1, ?_⟩
              replace hr := hr.2
              refine ⟨hr.1, ?_⟩
              replace hr := hr.2
              refine ⟨fun c => ?_, fun c => ?_⟩
              · replace h := q1p c h
                first | exact h | contradiction
              · replace hr := hr c
                replace h := q1n c h
                refine ⟨hr.1, ?_⟩
                replace hr := hr.2
                refine ⟨hr.1, ?_⟩
                replace hr := hr.2
                refine ⟨fun c => ?_, fun c => ?_⟩
                · replace hr := hr c
                  replace h := q1n c h
                  refine ⟨hr.1, ?_⟩
                  replace hr := hr.2
                  refine ⟨hr.1, ?_⟩
                  replace hr := hr.2
                  refine ⟨hr.1, ?_⟩
                  replace hr := hr.2
                  refine ⟨hr.1, ?_⟩
                  replace hr := hr.2
                  refine ⟨hr.1, ?_⟩
                  replace hr := hr.2
                  refine ⟨hr.1, ?_⟩
                  replace hr := hr.2
                  intro s108 e9
                  replace hr := hr s108 e9
                  try rw [← e9] at h
                  try dsimp only at h
                  refine ⟨hr.1, ?_⟩
                  replace hr := hr.2
                  refine ⟨hr.1, ?_⟩
                  replace hr := hr.2
                  intro s111 e9
                  replace hr := hr s111 e9
                  try rw [← e9] at h
                  try dsimp only at h
                  refine ⟨hr.1, ?_⟩
                  replace hr := hr.2
                  refine ⟨fun c => ?_, fun c => ?_⟩
                  · replace hr := hr.1 c
                    replace h := q1p c h
                    first | exact ihl.2.2.2.1 a1 a2 a3 (gI s 226 (a1).toNatClampNeg) (gI s 227 (a1).toNatClampNeg) (gI s ((rfx (gDx s 1) 8) + 5) ((gI s 228 (a1).toNatClampNeg)).toNatClampNeg) _ Q hr h | contradiction
                  · replace hr := hr.2 c
                    replace h := q1n c h
                    refine ⟨hr.1, ?_⟩
                    replace hr := hr.2
                    refine ⟨fun c => ?_, fun c => ?_⟩
                    · replace hr := hr.1 c
                      replace h := q1p c h
                      first | exact ihl.2.2.2.1 a1 a2 a3 (gI s 226 (a1).toNatClampNeg) (gI s 227 (a1).toNatClampNeg) (gI s ((rfx (gDx s 1) 8) + 5) ((gI s 228 (a1).toNatClampNeg)).toNatClampNeg) _ Q hr h | contradiction
                    · replace hr := hr.2 c
                      replace h := q1n c h
                      refine ⟨hr.1, ?_⟩
                      replace hr := hr.2
                      refine ihs.2.2.2.2.1 (a1 + (1 : Int32)) (a3 + (1 : Int32)) _ _ hr.1 ?_
                      replace hr := hr.2 _ rfl
                      try dsimp only at h
                      first | exact ihl.2.2.2.1 a1 a2 a3 (gI s 226 (a1).toNatClampNeg) (gI s 227 (a1).toNatClampNeg) (gI s ((rfx (gDx s 1) 8) + 5) ((gI s 228 (a1).toNatClampNeg)).toNatClampNeg) _ Q hr h | contradiction
                · replace h := q1p c h
                  first | exact h | contradiction
set_option maxRecDepth 1000000 in
theorem pX5_place (a1 : Int32) (a2 : Int32) {s : SM} {Q : SM → Prop} (hr : rX5_place s a1 a2) (h : Q (mX5_place s a1 a2)) : KV MX5_place 204 [.ref 225, .int a1, .int a2] s Q := (gX5_place 200 200 (Nat.le_refl _)).2.2.2.2.1 a1 a2 s Q hr h
set_option maxRecDepth 1000000 in
theorem pX5_placeBy (a1 : Int32) (a2 : Int32) (a3 : Int32) {s : SM} {Q : SM → Prop} (hr : rX5_placeBy s a1 a2 a3) (h : Q (mX5_placeBy s a1 a2 a3)) : KV MX5_placeBy 204 [.ref 225, .int a1, .int a2, .int a3] s Q := (gX5_place 200 200 (Nat.le_refl _)).2.2.2.2.2 a1 a2 a3 s Q hr h
set_option maxRecDepth 1000000 in
theorem bX1_search (a1 : Int32) {s : SM} {Q : Int32 → SM → Prop} (h : (((gI (pI (pI (pI s 233 8 a1) 233 9 (0 : Int32)) 233 7 (gI (pI (pI s 233 8 a1) 233 9 (0 : Int32)) 233 6)) 233 10) = 0 → Q (gI (pI (pI (pI s 233 8 a1) 233 9 (0 : Int32)) 233 7 (gI (pI (pI s 233 8 a1) 233 9 (0 : Int32)) 233 6)) 233 9) (pI (pI (pI s 233 8 a1) 233 9 (0 : Int32)) 233 7 (gI (pI (pI s 233 8 a1) 233 9 (0 : Int32)) 233 6))) ∧ (¬ (gI (pI (pI (pI s 233 8 a1) 233 9 (0 : Int32)) 233 7 (gI (pI (pI s 233 8 a1) 233 9 (0 : Int32)) 233 6)) 233 10) = 0 → rX1_tryFrom (pI (pI (pI s 233 8 a1) 233 9 (0 : Int32)) 233 7 (gI (pI (pI s 233 8 a1) 233 9 (0 : Int32)) 233 6)) (0 : Int32) ∧ (∀ s1, s1 = (mX1_tryFrom (pI (pI (pI s 233 8 a1) 233 9 (0 : Int32)) 233 7 (gI (pI (pI s 233 8 a1) 233 9 (0 : Int32)) 233 6)) (0 : Int32)) → Q (gI s1 233 9) s1)))) : KI MX1_search 405 [.ref 233, .int a1] s Q := by
  show BI MX1_search 405 0 [(0, .ref 233), (1, .int a1)] s Q
  refine JT_aload_n (q := 0) dX1_search_0 rfl rfl ?_
  refine JT_iload_n (q := 1) dX1_search_1 rfl rfl ?_
  refine JS_putI dX1_search_2 flX1_93 BS_233 (Nat.le_of_ble_eq_true rfl) (Nat.le_of_ble_eq_true rfl) ct_1_8 ?_
  refine JT_aload_n (q := 0) dX1_search_5 rfl rfl ?_
  refine JT_iconst (v := 0) dX1_search_6 ic_0 ?_
  refine JS_putI dX1_search_7 flX1_96 BS_233 (Nat.le_of_ble_eq_true rfl) (Nat.le_of_ble_eq_true rfl) ct_1_9 ?_
  refine JT_aload_n (q := 0) dX1_search_10 rfl rfl ?_
  refine JT_aload_n (q := 0) dX1_search_11 rfl rfl ?_
  refine JS_getI dX1_search_12 flX1_67 BS_233 (Nat.le_of_ble_eq_true rfl) (Nat.le_of_ble_eq_true rfl) (Or.inl ct_1_6) ?_
  refine JS_putI dX1_search_15 flX1_99 BS_233 (Nat.le_of_ble_eq_true rfl) (Nat.le_of_ble_eq_true rfl) ct_1_7 ?_
  refine JT_aload_n (q := 0) dX1_search_18 rfl rfl ?_
  refine JS_getI dX1_search_19 flX1_55 BS_233 (Nat.le_of_ble_eq_true rfl) (Nat.le_of_ble_eq_true rfl) (Or.inr ct_1_10) ?_
  refine JT_if_eq (tgt := 30) dX1_search_22 (by decide) (fun hc3 => ?_) (fun hc3 => ?_)
  · have h := h.1 hc3
    refine JT_aload_n (q := 0) dX1_search_30 rfl rfl ?_
    refine JS_getI dX1_search_31 flX1_96 BS_233 (Nat.le_of_ble_eq_true rfl) (Nat.le_of_ble_eq_true rfl) (Or.inl ct_1_9) ?_
    exact JS_iret dX1_search_34 rfl rfl h
  · have h := h.2 hc3
    refine JT_aload_n (q := 0) dX1_search_25 rfl rfl ?_
    refine JT_iconst (v := 0) dX1_search_26 ic_0 ?_
    obtain ⟨o2, h⟩ := h
    refine JS_callVV (M' := MX1_tryFrom) (d' := 404) (As := [.int (0 : Int32)]) (rest := []) (P := (fun wm9 => (mX1_tryFrom (pI (pI (pI s 233 8 a1) 233 9 (0 : Int32)) 233 7 (gI (pI (pI s 233 8 a1) 233 9 (0 : Int32)) 233 6)) (0 : Int32)) = wm9)) dX1_search_27 cvX1_102 okX1_tryFrom rfl (Nat.le_of_ble_eq_true rfl) BS_233 (Nat.le_of_ble_eq_true rfl) (Nat.le_of_ble_eq_true rfl) hci_1 (Nat.le_of_ble_eq_true rfl) (Nat.le_of_ble_eq_true rfl) (pX1_tryFrom  ((0 : Int32)) o2 rfl) (fun wm9 hq9 => ?_)
    subst hq9
    obtain ⟨s1, hs1⟩ : ∃ z, z = (mX1_tryFrom (pI (pI (pI s 233 8 a1) 233 9 (0 : Int32)) 233 7 (gI (pI (pI s 233 8 a1) 233 9 (0 : Int32)) 233 6)) (0 : Int32)) := ⟨_, rfl⟩
    replace h := h s1 hs1
    rw [← hs1]
    refine JT_aload_n (q := 0) dX1_search_30 rfl rfl ?_
    refine JS_getI dX1_search_31 flX1_96 BS_233 (Nat.le_of_ble_eq_true rfl) (Nat.le_of_ble_eq_true rfl) (Or.inl ct_1_9) ?_
    exact JS_iret dX1_search_34 rfl rfl h
set_option maxRecDepth 1000000 in
theorem pX1_search (a1 : Int32) {s : SM} {Q : Int32 → SM → Prop} (hr : rX1_search s a1) (h : Q (vX1_search s a1) (mX1_search s a1)) : KI MX1_search 405 [.ref 233, .int a1] s Q := by
  refine bX1_search a1 ?_
  unfold rX1_search at hr
  unfold vX1_search mX1_search at h
  refine ⟨fun c => ?_, fun c => ?_⟩
  · replace h := q2p c h
    first | exact h | contradiction
  · replace hr := hr c
    replace h := q2n c h
    refine ⟨hr, ?_⟩
    intro s1 e9
    try rw [← e9] at h
    try dsimp only at h
    first | exact h | contradiction
