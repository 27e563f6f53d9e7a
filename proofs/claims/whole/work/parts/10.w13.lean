set_option maxRecDepth 1000000 in
theorem bX12_judge_23 (a1 : Int32) (a2 : Int32) {s : SM} {Q : Int32 → SM → Prop} (h : (((5 : Int32) ≤ a2 → BI MX12_judge 7 45 [(0, .ref 248), (1, .int a1), (2, .int (-1 : Int32)), (3, .int (0 : Int32))] s Q) ∧ (¬ (5 : Int32) ≤ a2 → vp_in a2 5 ∧ BI MX12_judge 7 23 [(0, .ref 248), (1, .int a1), (2, .int (a2 + 1))] (pI s 263 (a2).toNatClampNeg (0 : Int32)) Q))) : BI MX12_judge 7 23 [(0, .ref 248), (1, .int a1), (2, .int a2)] s Q := by
  refine JT_iload_n (q := 2) dX12_judge_23 rfl rfl ?_
  refine JT_iconst (v := 5) dX12_judge_24 ic_5 ?_
  refine JT_icmp_ge (tgt := 41) dX12_judge_25 (by decide) (fun hc2 => ?_) (fun hc2 => ?_)
  · have h := h.1 hc2
    refine JT_iconst (v := -1) dX12_judge_41 ic_m1 ?_
    refine JT_istore_n (lv' := [(2, .int (-1 : Int32)), (0, .ref 248), (1, .int a1)]) dX12_judge_42 rfl (Nat.le_of_ble_eq_true rfl) rfl ?_
    refine JT_iconst (v := 0) dX12_judge_43 ic_0 ?_
    refine JT_istore_n (lv' := [(3, .int (0 : Int32)), (2, .int (-1 : Int32)), (0, .ref 248), (1, .int a1)]) dX12_judge_44 rfl (Nat.le_of_ble_eq_true rfl) rfl ?_
    exact JT_sub [2, 3, 1, 0] rfl h
  · have h := h.2 hc2
    refine JT_aload_n (q := 0) dX12_judge_28 rfl rfl ?_
    refine JS_getR (x := 263) dX12_judge_29 flX12_74 BS_248 (Nat.le_of_ble_eq_true rfl) (Nat.le_of_ble_eq_true rfl) (Or.inr ⟨_, ct_12_37⟩) RF_248_37 ?_
    refine JT_iload_n (q := 2) dX12_judge_32 rfl rfl ?_
    refine JT_iconst (v := 0) dX12_judge_33 ic_0 ?_
    obtain ⟨o1, h⟩ := h
    refine JS_iast dX12_judge_34 BS_263 (Nat.le_of_ble_eq_true rfl) (Nat.le_of_ble_eq_true rfl) o1 ?_
    refine JT_iinc (q := 2) (v := (a2 + 1)) (lv' := [(2, .int (a2 + 1)), (0, .ref 248), (1, .int a1)]) dX12_judge_35 rfl (by rfl) (Nat.le_of_ble_eq_true rfl) rfl ?_
    refine JT_goto (tgt := 23) dX12_judge_38 (by decide) ?_
    exact JT_sub [1, 2, 0] rfl h
set_option maxRecDepth 1000000 in
theorem bX12_judge_45 (a1 : Int32) (a2 : Int32) (a3 : Int32) {s : SM} {Q : Int32 → SM → Prop} (h : (((gI s 250 ((586 : Int32)).toNatClampNeg) ≤ a3 → BI MX12_judge 7 108 [(0, .ref 248), (1, .int a1), (2, .int a2), (3, .int a3)] s Q) ∧ (¬ (gI s 250 ((586 : Int32)).toNatClampNeg) ≤ a3 → ((0 ≤ a2 → BI MX12_judge 7 108 [(0, .ref 248), (1, .int a1), (2, .int a2), (3, .int a3)] s Q) ∧ (¬ 0 ≤ a2 → rX12_does s ((587 : Int32) + ((5 : Int32) * a3)) ∧ (∀ s1, s1 = (pI (mX12_does s ((587 : Int32) + ((5 : Int32) * a3))) 263 ((0 : Int32)).toNatClampNeg (vX12_does s ((587 : Int32) + ((5 : Int32) * a3)))) → (((gI s1 263 ((0 : Int32)).toNatClampNeg) ≤ 0 → BI MX12_judge 7 45 [(0, .ref 248), (1, .int a1), (2, .int a2), (3, .int (a3 + 1))] (pI s1 263 ((1 : Int32)).toNatClampNeg ((gI s1 263 ((1 : Int32)).toNatClampNeg) + (1 : Int32))) Q) ∧ (¬ (gI s1 263 ((0 : Int32)).toNatClampNeg) ≤ 0 → BI MX12_judge 7 45 [(0, .ref 248), (1, .int a1), (2, .int a3), (3, .int (a3 + 1))] s1 Q)))))))) : BI MX12_judge 7 45 [(0, .ref 248), (1, .int a1), (2, .int a2), (3, .int a3)] s Q := by
  refine JT_iload_n (q := 3) dX12_judge_45 rfl rfl ?_
  refine JT_aload_n (q := 0) dX12_judge_46 rfl rfl ?_
  refine JS_getR (x := 250) dX12_judge_47 flX12_33 BS_248 (Nat.le_of_ble_eq_true rfl) (Nat.le_of_ble_eq_true rfl) (Or.inr ⟨_, ct_12_6⟩) RF_248_6 ?_
  refine JT_sipush (v := 586) dX12_judge_50 sp_586 ?_
  refine JS_iald dX12_judge_53 BS_250 (Nat.le_of_ble_eq_true rfl) (Nat.le_of_ble_eq_true rfl) (by unfold vp_in; decide) ?_
  refine JT_icmp_ge (tgt := 108) dX12_judge_54 (by decide) (fun hc5 => ?_) (fun hc5 => ?_)
  · have h := h.1 hc5
    exact JT_sub [0, 1, 2, 3] rfl h
  · have h := h.2 hc5
    refine JT_iload_n (q := 2) dX12_judge_57 rfl rfl ?_
    refine JT_if_ge (tgt := 108) dX12_judge_58 (by decide) (fun hc4 => ?_) (fun hc4 => ?_)
    · have h := h.1 hc4
      exact JT_sub [0, 1, 2, 3] rfl h
    · have h := h.2 hc4
      refine JT_aload_n (q := 0) dX12_judge_61 rfl rfl ?_
      refine JS_getR (x := 263) dX12_judge_62 flX12_74 BS_248 (Nat.le_of_ble_eq_true rfl) (Nat.le_of_ble_eq_true rfl) (Or.inr ⟨_, ct_12_37⟩) RF_248_37 ?_
      refine JT_iconst (v := 0) dX12_judge_65 ic_0 ?_
      refine JT_aload_n (q := 0) dX12_judge_66 rfl rfl ?_
      refine JT_sipush (v := 587) dX12_judge_67 sp_587 ?_
      refine JT_iconst (v := 5) dX12_judge_70 ic_5 ?_
      refine JT_iload_n (q := 3) dX12_judge_71 rfl rfl ?_
      refine JT_imul dX12_judge_72 ?_
      refine JT_iadd dX12_judge_73 ?_
      obtain ⟨o3, h⟩ := h
      refine JS_callVI (M' := MX12_does) (d' := 6) (As := [.int ((587 : Int32) + ((5 : Int32) * a3))]) (rest := [.int (0 : Int32), .ref 263]) (P := (fun zv9 wm9 => (vX12_does s ((587 : Int32) + ((5 : Int32) * a3))) = zv9 ∧ (mX12_does s ((587 : Int32) + ((5 : Int32) * a3))) = wm9)) dX12_judge_74 cvX12_407 okX12_does rfl (Nat.le_of_ble_eq_true rfl) BS_248 (Nat.le_of_ble_eq_true rfl) (Nat.le_of_ble_eq_true rfl) hci_12 (Nat.le_of_ble_eq_true rfl) (Nat.le_of_ble_eq_true rfl) (pX12_does  (((587 : Int32) + ((5 : Int32) * a3))) o3 ⟨rfl, rfl⟩) (fun zv9 wm9 hq9 => ?_)
      obtain ⟨rfl, rfl⟩ := hq9
      refine JS_iast dX12_judge_77 BS_263 (Nat.le_of_ble_eq_true rfl) (Nat.le_of_ble_eq_true rfl) (by unfold vp_in; decide) ?_
      obtain ⟨s1, hs1⟩ : ∃ z, z = (pI (mX12_does s ((587 : Int32) + ((5 : Int32) * a3))) 263 ((0 : Int32)).toNatClampNeg (vX12_does s ((587 : Int32) + ((5 : Int32) * a3)))) := ⟨_, rfl⟩
      replace h := h s1 hs1
      rw [← hs1]
      refine JT_aload_n (q := 0) dX12_judge_78 rfl rfl ?_
      refine JS_getR (x := 263) dX12_judge_79 flX12_74 BS_248 (Nat.le_of_ble_eq_true rfl) (Nat.le_of_ble_eq_true rfl) (Or.inr ⟨_, ct_12_37⟩) RF_248_37 ?_
      refine JT_iconst (v := 0) dX12_judge_82 ic_0 ?_
      refine JS_iald dX12_judge_83 BS_263 (Nat.le_of_ble_eq_true rfl) (Nat.le_of_ble_eq_true rfl) (by unfold vp_in; decide) ?_
      refine JT_if_le (tgt := 92) dX12_judge_84 (by decide) (fun hc2 => ?_) (fun hc2 => ?_)
      · have h := h.1 hc2
        refine JT_aload_n (q := 0) dX12_judge_92 rfl rfl ?_
        refine JS_getR (x := 263) dX12_judge_93 flX12_74 BS_248 (Nat.le_of_ble_eq_true rfl) (Nat.le_of_ble_eq_true rfl) (Or.inr ⟨_, ct_12_37⟩) RF_248_37 ?_
        refine JT_iconst (v := 1) dX12_judge_96 ic_1 ?_
        refine JT_dup2 dX12_judge_97 rfl rfl ?_
        refine JS_iald dX12_judge_98 BS_263 (Nat.le_of_ble_eq_true rfl) (Nat.le_of_ble_eq_true rfl) (by unfold vp_in; decide) ?_
        refine JT_iconst (v := 1) dX12_judge_99 ic_1 ?_
        refine JT_iadd dX12_judge_100 ?_
        refine JS_iast dX12_judge_101 BS_263 (Nat.le_of_ble_eq_true rfl) (Nat.le_of_ble_eq_true rfl) (by unfold vp_in; decide) ?_
        refine JT_iinc (q := 3) (v := (a3 + 1)) (lv' := [(3, .int (a3 + 1)), (0, .ref 248), (1, .int a1), (2, .int a2)]) dX12_judge_102 rfl (by rfl) (Nat.le_of_ble_eq_true rfl) rfl ?_
        refine JT_goto (tgt := 45) dX12_judge_105 (by decide) ?_
        exact JT_sub [1, 2, 3, 0] rfl h
      · have h := h.2 hc2
        refine JT_iload_n (q := 3) dX12_judge_87 rfl rfl ?_
        refine JT_istore_n (lv' := [(2, .int a3), (0, .ref 248), (1, .int a1), (3, .int a3)]) dX12_judge_88 rfl (Nat.le_of_ble_eq_true rfl) rfl ?_
        refine JT_goto (tgt := 102) dX12_judge_89 (by decide) ?_
        refine JT_iinc (q := 3) (v := (a3 + 1)) (lv' := [(3, .int (a3 + 1)), (2, .int a3), (0, .ref 248), (1, .int a1)]) dX12_judge_102 rfl (by rfl) (Nat.le_of_ble_eq_true rfl) rfl ?_
        refine JT_goto (tgt := 45) dX12_judge_105 (by decide) ?_
        exact JT_sub [2, 3, 1, 0] rfl h
set_option maxRecDepth 1000000 in
theorem bX12_judge_108 (a1 : Int32) (a2 : Int32) (a3 : Int32) {s : SM} {Q : Int32 → SM → Prop} (h : rX12_openMany s  ∧ BI MX12_judge 7 120 [(0, .ref 248), (1, .int a1), (2, .int a2), (3, .int (0 : Int32))] (pI s 263 ((2 : Int32)).toNatClampNeg (vX12_openMany s )) Q) : BI MX12_judge 7 108 [(0, .ref 248), (1, .int a1), (2, .int a2), (3, .int a3)] s Q := by
  refine JT_aload_n (q := 0) dX12_judge_108 rfl rfl ?_
  refine JS_getR (x := 263) dX12_judge_109 flX12_74 BS_248 (Nat.le_of_ble_eq_true rfl) (Nat.le_of_ble_eq_true rfl) (Or.inr ⟨_, ct_12_37⟩) RF_248_37 ?_
  refine JT_iconst (v := 2) dX12_judge_112 ic_2 ?_
  refine JT_aload_n (q := 0) dX12_judge_113 rfl rfl ?_
  obtain ⟨o1, h⟩ := h
  refine JS_callVI (M' := MX12_openMany) (d' := 3) (As := []) (rest := [.int (2 : Int32), .ref 263]) (P := (fun zv9 wm9 => (vX12_openMany s ) = zv9 ∧ s = wm9)) dX12_judge_114 cvX12_410 okX12_openMany rfl (Nat.le_of_ble_eq_true rfl) BS_248 (Nat.le_of_ble_eq_true rfl) (Nat.le_of_ble_eq_true rfl) hci_12 (Nat.le_of_ble_eq_true rfl) (Nat.le_of_ble_eq_true rfl) (pX12_openMany   o1 ⟨rfl, rfl⟩) (fun zv9 wm9 hq9 => ?_)
  obtain ⟨rfl, rfl⟩ := hq9
  refine JS_iast dX12_judge_117 BS_263 (Nat.le_of_ble_eq_true rfl) (Nat.le_of_ble_eq_true rfl) (by unfold vp_in; decide) ?_
  refine JT_iconst (v := 0) dX12_judge_118 ic_0 ?_
  refine JT_istore_n (lv' := [(3, .int (0 : Int32)), (0, .ref 248), (1, .int a1), (2, .int a2)]) dX12_judge_119 rfl (Nat.le_of_ble_eq_true rfl) rfl ?_
  exact JT_sub [1, 2, 3, 0] rfl h
set_option maxRecDepth 1000000 in
theorem bX12_judge_120 (a1 : Int32) (a2 : Int32) (a3 : Int32) {s : SM} {Q : Int32 → SM → Prop} (h : (((gI s 250 ((0 : Int32)).toNatClampNeg) ≤ a3 → ((¬ a1 = 0 → (((gI (pI (pI s 263 ((4 : Int32)).toNatClampNeg (gI s 250 ((35 : Int32)).toNatClampNeg)) 248 38 (1 : Int32)) 263 ((1 : Int32)).toNatClampNeg) ≤ 0 → Q a2 (pI (pI s 263 ((4 : Int32)).toNatClampNeg (gI s 250 ((35 : Int32)).toNatClampNeg)) 248 38 (1 : Int32))) ∧ (¬ (gI (pI (pI s 263 ((4 : Int32)).toNatClampNeg (gI s 250 ((35 : Int32)).toNatClampNeg)) 248 38 (1 : Int32)) 263 ((1 : Int32)).toNatClampNeg) ≤ 0 → rX12_keepsBefore (pI (pI s 263 ((4 : Int32)).toNatClampNeg (gI s 250 ((35 : Int32)).toNatClampNeg)) 248 38 (1 : Int32))  ∧ (∀ s1, s1 = (mX12_keepsBefore (pI (pI s 263 ((4 : Int32)).toNatClampNeg (gI s 250 ((35 : Int32)).toNatClampNeg)) 248 38 (1 : Int32)) ) → Q a2 s1)))) ∧ (a1 = 0 → rX12_backAll (pI (pI s 263 ((4 : Int32)).toNatClampNeg (gI s 250 ((35 : Int32)).toNatClampNeg)) 248 38 (1 : Int32))  ∧ Q a2 (mX12_backAll (pI (pI s 263 ((4 : Int32)).toNatClampNeg (gI s 250 ((35 : Int32)).toNatClampNeg)) 248 38 (1 : Int32)) )))) ∧ (¬ (gI s 250 ((0 : Int32)).toNatClampNeg) ≤ a3 → (((vX12_isLiving s a3) = 0 → BI MX12_judge 7 120 [(0, .ref 248), (1, .int a1), (2, .int a2), (3, .int (a3 + 1))] (pI s 263 ((3 : Int32)).toNatClampNeg ((gI s 263 ((3 : Int32)).toNatClampNeg) + (0 : Int32))) Q) ∧ (¬ (vX12_isLiving s a3) = 0 → rX12_leftOf s a3 ∧ BI MX12_judge 7 120 [(0, .ref 248), (1, .int a1), (2, .int a2), (3, .int (a3 + 1))] (pI s 263 ((3 : Int32)).toNatClampNeg ((gI s 263 ((3 : Int32)).toNatClampNeg) + (vX12_leftOf s a3))) Q))))) : BI MX12_judge 7 120 [(0, .ref 248), (1, .int a1), (2, .int a2), (3, .int a3)] s Q := by
  refine JT_iload_n (q := 3) dX12_judge_120 rfl rfl ?_
  refine JT_aload_n (q := 0) dX12_judge_121 rfl rfl ?_
  refine JS_getR (x := 250) dX12_judge_122 flX12_33 BS_248 (Nat.le_of_ble_eq_true rfl) (Nat.le_of_ble_eq_true rfl) (Or.inr ⟨_, ct_12_6⟩) RF_248_6 ?_
  refine JT_iconst (v := 0) dX12_judge_125 ic_0 ?_
  refine JS_iald dX12_judge_126 BS_250 (Nat.le_of_ble_eq_true rfl) (Nat.le_of_ble_eq_true rfl) (by unfold vp_in; decide) ?_
  refine JT_icmp_ge (tgt := 162) dX12_judge_127 (by decide) (fun hc9 => ?_) (fun hc9 => ?_)
  · have h := h.1 hc9
    refine JT_aload_n (q := 0) dX12_judge_162 rfl rfl ?_
    refine JS_getR (x := 263) dX12_judge_163 flX12_74 BS_248 (Nat.le_of_ble_eq_true rfl) (Nat.le_of_ble_eq_true rfl) (Or.inr ⟨_, ct_12_37⟩) RF_248_37 ?_
    refine JT_iconst (v := 4) dX12_judge_166 ic_4 ?_
    refine JT_aload_n (q := 0) dX12_judge_167 rfl rfl ?_
    refine JS_getR (x := 250) dX12_judge_168 flX12_33 BS_248 (Nat.le_of_ble_eq_true rfl) (Nat.le_of_ble_eq_true rfl) (Or.inr ⟨_, ct_12_6⟩) RF_248_6 ?_
    refine JT_bipush (v := 35) dX12_judge_171 bp_35 ?_
    refine JS_iald dX12_judge_173 BS_250 (Nat.le_of_ble_eq_true rfl) (Nat.le_of_ble_eq_true rfl) (by unfold vp_in; decide) ?_
    refine JS_iast dX12_judge_174 BS_263 (Nat.le_of_ble_eq_true rfl) (Nat.le_of_ble_eq_true rfl) (by unfold vp_in; decide) ?_
    refine JT_aload_n (q := 0) dX12_judge_175 rfl rfl ?_
    refine JT_iconst (v := 1) dX12_judge_176 ic_1 ?_
    refine JS_putZ dX12_judge_177 flX12_413 BS_248 (Nat.le_of_ble_eq_true rfl) (Nat.le_of_ble_eq_true rfl) ct_12_38 (Or.inr rfl) ?_
    refine JT_iload_n (q := 1) dX12_judge_180 rfl rfl ?_
    refine JT_if_ne (tgt := 191) dX12_judge_181 (by decide) (fun hc5 => ?_) (fun hc5 => ?_)
    · have h := h.1 hc5
      refine JT_aload_n (q := 0) dX12_judge_191 rfl rfl ?_
      refine JS_getR (x := 263) dX12_judge_192 flX12_74 BS_248 (Nat.le_of_ble_eq_true rfl) (Nat.le_of_ble_eq_true rfl) (Or.inr ⟨_, ct_12_37⟩) RF_248_37 ?_
      refine JT_iconst (v := 1) dX12_judge_195 ic_1 ?_
      refine JS_iald dX12_judge_196 BS_263 (Nat.le_of_ble_eq_true rfl) (Nat.le_of_ble_eq_true rfl) (by unfold vp_in; decide) ?_
      refine JT_if_le (tgt := 204) dX12_judge_197 (by decide) (fun hc3 => ?_) (fun hc3 => ?_)
      · have h := h.1 hc3
        refine JT_iload_n (q := 2) dX12_judge_204 rfl rfl ?_
        exact JS_iret dX12_judge_205 rfl rfl h
      · have h := h.2 hc3
        refine JT_aload_n (q := 0) dX12_judge_200 rfl rfl ?_
        obtain ⟨o2, h⟩ := h
        refine JS_callVV (M' := MX12_keepsBefore) (d' := 1) (As := []) (rest := []) (P := (fun wm9 => (mX12_keepsBefore (pI (pI s 263 ((4 : Int32)).toNatClampNeg (gI s 250 ((35 : Int32)).toNatClampNeg)) 248 38 (1 : Int32)) ) = wm9)) dX12_judge_201 cvX12_416 okX12_keepsBefore rfl (Nat.le_of_ble_eq_true rfl) BS_248 (Nat.le_of_ble_eq_true rfl) (Nat.le_of_ble_eq_true rfl) hci_12 (Nat.le_of_ble_eq_true rfl) (Nat.le_of_ble_eq_true rfl) (pX12_keepsBefore   o2 rfl) (fun wm9 hq9 => ?_)
        subst hq9
        obtain ⟨s1, hs1⟩ : ∃ z, z = (mX12_keepsBefore (pI (pI s 263 ((4 : Int32)).toNatClampNeg (gI s 250 ((35 : Int32)).toNatClampNeg)) 248 38 (1 : Int32)) ) := ⟨_, rfl⟩
        replace h := h s1 hs1
        rw [← hs1]
        refine JT_iload_n (q := 2) dX12_judge_204 rfl rfl ?_
        exact JS_iret dX12_judge_205 rfl rfl h
    · have h := h.2 hc5
      refine JT_aload_n (q := 0) dX12_judge_184 rfl rfl ?_
      obtain ⟨o4, h⟩ := h
      refine JS_callVV (M' := MX12_backAll) (d' := 0) (As := []) (rest := []) (P := (fun wm9 => (mX12_backAll (pI (pI s 263 ((4 : Int32)).toNatClampNeg (gI s 250 ((35 : Int32)).toNatClampNeg)) 248 38 (1 : Int32)) ) = wm9)) dX12_judge_185 cvX12_383 okX12_backAll rfl (Nat.le_of_ble_eq_true rfl) BS_248 (Nat.le_of_ble_eq_true rfl) (Nat.le_of_ble_eq_true rfl) hci_12 (Nat.le_of_ble_eq_true rfl) (Nat.le_of_ble_eq_true rfl) (pX12_backAll   o4 rfl) (fun wm9 hq9 => ?_)
      subst hq9
      refine JT_goto (tgt := 204) dX12_judge_188 (by decide) ?_
      refine JT_iload_n (q := 2) dX12_judge_204 rfl rfl ?_
      exact JS_iret dX12_judge_205 rfl rfl h
  · have h := h.2 hc9
    refine JT_aload_n (q := 0) dX12_judge_130 rfl rfl ?_
    refine JS_getR (x := 263) dX12_judge_131 flX12_74 BS_248 (Nat.le_of_ble_eq_true rfl) (Nat.le_of_ble_eq_true rfl) (Or.inr ⟨_, ct_12_37⟩) RF_248_37 ?_
    refine JT_iconst (v := 3) dX12_judge_134 ic_3 ?_
    refine JT_dup2 dX12_judge_135 rfl rfl ?_
    refine JS_iald dX12_judge_136 BS_263 (Nat.le_of_ble_eq_true rfl) (Nat.le_of_ble_eq_true rfl) (by unfold vp_in; decide) ?_
    refine JT_aload_n (q := 0) dX12_judge_137 rfl rfl ?_
    refine JT_iload_n (q := 3) dX12_judge_138 rfl rfl ?_
    refine JS_callVI (M' := MX12_isLiving) (d' := 1) (As := [.int a3]) (rest := [.int (gI s 263 ((3 : Int32)).toNatClampNeg), .int (3 : Int32), .ref 263]) (P := (fun zv9 wm9 => (vX12_isLiving s a3) = zv9 ∧ s = wm9)) dX12_judge_139 cvX12_294 okX12_isLiving rfl (Nat.le_of_ble_eq_true rfl) BS_248 (Nat.le_of_ble_eq_true rfl) (Nat.le_of_ble_eq_true rfl) hci_12 (Nat.le_of_ble_eq_true rfl) (Nat.le_of_ble_eq_true rfl) (pX12_isLiving  (a3)  ⟨rfl, rfl⟩) (fun zv9 wm9 hq9 => ?_)
    obtain ⟨rfl, rfl⟩ := hq9
    refine JT_if_eq (tgt := 153) dX12_judge_142 (by decide) (fun hc7 => ?_) (fun hc7 => ?_)
    · have h := h.1 hc7
      refine JT_iconst (v := 0) dX12_judge_153 ic_0 ?_
      refine JT_iadd dX12_judge_154 ?_
      refine JS_iast dX12_judge_155 BS_263 (Nat.le_of_ble_eq_true rfl) (Nat.le_of_ble_eq_true rfl) (by unfold vp_in; decide) ?_
      refine JT_iinc (q := 3) (v := (a3 + 1)) (lv' := [(3, .int (a3 + 1)), (0, .ref 248), (1, .int a1), (2, .int a2)]) dX12_judge_156 rfl (by rfl) (Nat.le_of_ble_eq_true rfl) rfl ?_
      refine JT_goto (tgt := 120) dX12_judge_159 (by decide) ?_
      exact JT_sub [1, 2, 3, 0] rfl h
    · have h := h.2 hc7
      refine JT_aload_n (q := 0) dX12_judge_145 rfl rfl ?_
      refine JT_iload_n (q := 3) dX12_judge_146 rfl rfl ?_
      obtain ⟨o6, h⟩ := h
      refine JS_callVI (M' := MX12_leftOf) (d' := 2) (As := [.int a3]) (rest := [.int (gI s 263 ((3 : Int32)).toNatClampNeg), .int (3 : Int32), .ref 263]) (P := (fun zv9 wm9 => (vX12_leftOf s a3) = zv9 ∧ s = wm9)) dX12_judge_147 cvX12_297 okX12_leftOf rfl (Nat.le_of_ble_eq_true rfl) BS_248 (Nat.le_of_ble_eq_true rfl) (Nat.le_of_ble_eq_true rfl) hci_12 (Nat.le_of_ble_eq_true rfl) (Nat.le_of_ble_eq_true rfl) (pX12_leftOf  (a3) o6 ⟨rfl, rfl⟩) (fun zv9 wm9 hq9 => ?_)
      obtain ⟨rfl, rfl⟩ := hq9
      refine JT_goto (tgt := 154) dX12_judge_150 (by decide) ?_
      refine JT_iadd dX12_judge_154 ?_
      refine JS_iast dX12_judge_155 BS_263 (Nat.le_of_ble_eq_true rfl) (Nat.le_of_ble_eq_true rfl) (by unfold vp_in; decide) ?_
      refine JT_iinc (q := 3) (v := (a3 + 1)) (lv' := [(3, .int (a3 + 1)), (0, .ref 248), (1, .int a1), (2, .int a2)]) dX12_judge_156 rfl (by rfl) (Nat.le_of_ble_eq_true rfl) rfl ?_
      refine JT_goto (tgt := 120) dX12_judge_159 (by decide) ?_
      exact JT_sub [1, 2, 3, 0] rfl h
set_option maxRecDepth 1000000 in
theorem bX12_judge (a1 : Int32) {s : SM} {Q : Int32 → SM → Prop} (h : ((¬ (vX12_isIn (pI s 248 0 (0 : Int32)) a1 (0 : Int32) (1 : Int32)) = 0 → rX12_keepsAll (pI s 248 0 (0 : Int32))  ∧ BI MX12_judge 7 23 [(0, .ref 248), (1, .int a1), (2, .int (0 : Int32))] (mX12_keepsAll (pI s 248 0 (0 : Int32)) ) Q) ∧ ((vX12_isIn (pI s 248 0 (0 : Int32)) a1 (0 : Int32) (1 : Int32)) = 0 → Q (-2 : Int32) (pI s 248 0 (0 : Int32))))) : KI MX12_judge 7 [.ref 248, .int a1] s Q := by
  show BI MX12_judge 7 0 [(0, .ref 248), (1, .int a1)] s Q
  refine JT_aload_n (q := 0) dX12_judge_0 rfl rfl ?_
  refine JT_iconst (v := 0) dX12_judge_1 ic_0 ?_
  refine JS_putI dX12_judge_2 flX12_1 BS_248 (Nat.le_of_ble_eq_true rfl) (Nat.le_of_ble_eq_true rfl) ct_12_0 ?_
  refine JT_iload_n (q := 1) dX12_judge_5 rfl rfl ?_
  refine JT_iconst (v := 0) dX12_judge_6 ic_0 ?_
  refine JT_iconst (v := 1) dX12_judge_7 ic_1 ?_
  refine JS_callSI (M' := MX12_isIn) (d' := 0) (As := [.int a1, .int (0 : Int32), .int (1 : Int32)]) (rest := []) (P := (fun zv9 wm9 => (vX12_isIn (pI s 248 0 (0 : Int32)) a1 (0 : Int32) (1 : Int32)) = zv9 ∧ (pI s 248 0 (0 : Int32)) = wm9)) dX12_judge_8 cvX12_202 okX12_isIn rfl (Nat.le_of_ble_eq_true rfl) (Nat.le_of_ble_eq_true rfl) (Nat.le_of_ble_eq_true rfl) (pX12_isIn  (a1) ((0 : Int32)) ((1 : Int32))  ⟨rfl, rfl⟩) (fun zv9 wm9 hq9 => ?_)
  obtain ⟨rfl, rfl⟩ := hq9
  refine JT_if_ne (tgt := 17) dX12_judge_11 (by decide) (fun hc2 => ?_) (fun hc2 => ?_)
  · have h := h.1 hc2
    refine JT_aload_n (q := 0) dX12_judge_17 rfl rfl ?_
    obtain ⟨o1, h⟩ := h
    refine JS_callVV (M' := MX12_keepsAll) (d' := 0) (As := []) (rest := []) (P := (fun wm9 => (mX12_keepsAll (pI s 248 0 (0 : Int32)) ) = wm9)) dX12_judge_18 cvX12_380 okX12_keepsAll rfl (Nat.le_of_ble_eq_true rfl) BS_248 (Nat.le_of_ble_eq_true rfl) (Nat.le_of_ble_eq_true rfl) hci_12 (Nat.le_of_ble_eq_true rfl) (Nat.le_of_ble_eq_true rfl) (pX12_keepsAll   o1 rfl) (fun wm9 hq9 => ?_)
    subst hq9
    refine JT_iconst (v := 0) dX12_judge_21 ic_0 ?_
    refine JT_istore_n (lv' := [(2, .int (0 : Int32)), (0, .ref 248), (1, .int a1)]) dX12_judge_22 rfl (Nat.le_of_ble_eq_true rfl) rfl ?_
    exact JT_sub [1, 2, 0] rfl h
  · have h := h.2 hc2
    refine JT_bipush (v := -2) dX12_judge_14 bp_m2 ?_
    exact JS_iret dX12_judge_16 rfl rfl h
set_option maxRecDepth 1000000 in
noncomputable def tX12_judge_23 (K : (SM → Int32 → Int32 → Int32 × SM) × (SM → Int32 → Int32 → Int32 → Int32 × SM) × (SM → Int32 → Int32 → Int32 → Int32 × SM) × (SM → Int32 → Int32 → Int32 → Int32 × SM)) (s : SM) (a1 : Int32) (a2 : Int32) : Int32 × SM := (if (5 : Int32) ≤ a2 then (K.2.1 s a1 (-1 : Int32) (0 : Int32)) else (K.1 (pI s 263 (a2).toNatClampNeg (0 : Int32)) a1 (a2 + 1)))
set_option maxRecDepth 1000000 in
def uX12_judge_23 (K : (SM → Int32 → Int32 → Prop) × (SM → Int32 → Int32 → Int32 → Prop) × (SM → Int32 → Int32 → Int32 → Prop) × (SM → Int32 → Int32 → Int32 → Prop)) (s : SM) (a1 : Int32) (a2 : Int32) : Prop := (((5 : Int32) ≤ a2 → K.2.1 s a1 (-1 : Int32) (0 : Int32)) ∧ (¬ (5 : Int32) ≤ a2 → vp_in a2 5 ∧ K.1 (pI s 263 (a2).toNatClampNeg (0 : Int32)) a1 (a2 + 1)))
set_option maxRecDepth 1000000 in
noncomputable def tX12_judge_45 (K : (SM → Int32 → Int32 → Int32 × SM) × (SM → Int32 → Int32 → Int32 → Int32 × SM) × (SM → Int32 → Int32 → Int32 → Int32 × SM) × (SM → Int32 → Int32 → Int32 → Int32 × SM)) (s : SM) (a1 : Int32) (a2 : Int32) (a3 : Int32) : Int32 × SM := (if (gI s 250 ((586 : Int32)).toNatClampNeg) ≤ a3 then (K.2.2.1 s a1 a2 a3) else (if 0 ≤ a2 then (K.2.2.1 s a1 a2 a3) else ((fun (s1 : SM) => (if (gI s1 263 ((0 : Int32)).toNatClampNeg) ≤ 0 then (K.2.1 (pI s1 263 ((1 : Int32)).toNatClampNeg ((gI s1 263 ((1 : Int32)).toNatClampNeg) + (1 : Int32))) a1 a2 (a3 + 1)) else (K.2.1 s1 a1 a3 (a3 + 1)))) (pI (mX12_does s ((587 : Int32) + ((5 : Int32) * a3))) 263 ((0 : Int32)).toNatClampNeg (vX12_does s ((587 : Int32) + ((5 : Int32) * a3)))))))
set_option maxRecDepth 1000000 in
def uX12_judge_45 (K : (SM → Int32 → Int32 → Prop) × (SM → Int32 → Int32 → Int32 → Prop) × (SM → Int32 → Int32 → Int32 → Prop) × (SM → Int32 → Int32 → Int32 → Prop)) (s : SM) (a1 : Int32) (a2 : Int32) (a3 : Int32) : Prop := (((gI s 250 ((586 : Int32)).toNatClampNeg) ≤ a3 → K.2.2.1 s a1 a2 a3) ∧ (¬ (gI s 250 ((586 : Int32)).toNatClampNeg) ≤ a3 → ((0 ≤ a2 → K.2.2.1 s a1 a2 a3) ∧ (¬ 0 ≤ a2 → rX12_does s ((587 : Int32) + ((5 : Int32) * a3)) ∧ (∀ s1, s1 = (pI (mX12_does s ((587 : Int32) + ((5 : Int32) * a3))) 263 ((0 : Int32)).toNatClampNeg (vX12_does s ((587 : Int32) + ((5 : Int32) * a3)))) → (((gI s1 263 ((0 : Int32)).toNatClampNeg) ≤ 0 → K.2.1 (pI s1 263 ((1 : Int32)).toNatClampNeg ((gI s1 263 ((1 : Int32)).toNatClampNeg) + (1 : Int32))) a1 a2 (a3 + 1)) ∧ (¬ (gI s1 263 ((0 : Int32)).toNatClampNeg) ≤ 0 → K.2.1 s1 a1 a3 (a3 + 1))))))))
set_option maxRecDepth 1000000 in
noncomputable def tX12_judge_108 (K : (SM → Int32 → Int32 → Int32 × SM) × (SM → Int32 → Int32 → Int32 → Int32 × SM) × (SM → Int32 → Int32 → Int32 → Int32 × SM) × (SM → Int32 → Int32 → Int32 → Int32 × SM)) (s : SM) (a1 : Int32) (a2 : Int32) (a3 : Int32) : Int32 × SM := (K.2.2.2 (pI s 263 ((2 : Int32)).toNatClampNeg (vX12_openMany s )) a1 a2 (0 : Int32))
set_option maxRecDepth 1000000 in
def uX12_judge_108 (K : (SM → Int32 → Int32 → Prop) × (SM → Int32 → Int32 → Int32 → Prop) × (SM → Int32 → Int32 → Int32 → Prop) × (SM → Int32 → Int32 → Int32 → Prop)) (s : SM) (a1 : Int32) (a2 : Int32) (a3 : Int32) : Prop := rX12_openMany s  ∧ K.2.2.2 (pI s 263 ((2 : Int32)).toNatClampNeg (vX12_openMany s )) a1 a2 (0 : Int32)
set_option maxRecDepth 1000000 in
noncomputable def tX12_judge_120 (K : (SM → Int32 → Int32 → Int32 × SM) × (SM → Int32 → Int32 → Int32 → Int32 × SM) × (SM → Int32 → Int32 → Int32 → Int32 × SM) × (SM → Int32 → Int32 → Int32 → Int32 × SM)) (s : SM) (a1 : Int32) (a2 : Int32) (a3 : Int32) : Int32 × SM := (if (gI s 250 ((0 : Int32)).toNatClampNeg) ≤ a3 then (if a1 = 0 then (a2, (mX12_backAll (pI (pI s 263 ((4 : Int32)).toNatClampNeg (gI s 250 ((35 : Int32)).toNatClampNeg)) 248 38 (1 : Int32)) )) else (if (gI (pI (pI s 263 ((4 : Int32)).toNatClampNeg (gI s 250 ((35 : Int32)).toNatClampNeg)) 248 38 (1 : Int32)) 263 ((1 : Int32)).toNatClampNeg) ≤ 0 then (a2, (pI (pI s 263 ((4 : Int32)).toNatClampNeg (gI s 250 ((35 : Int32)).toNatClampNeg)) 248 38 (1 : Int32))) else ((fun (s1 : SM) => (a2, s1)) (mX12_keepsBefore (pI (pI s 263 ((4 : Int32)).toNatClampNeg (gI s 250 ((35 : Int32)).toNatClampNeg)) 248 38 (1 : Int32)) )))) else (if (vX12_isLiving s a3) = 0 then (K.2.2.2 (pI s 263 ((3 : Int32)).toNatClampNeg ((gI s 263 ((3 : Int32)).toNatClampNeg) + (0 : Int32))) a1 a2 (a3 + 1)) else (K.2.2.2 (pI s 263 ((3 : Int32)).toNatClampNeg ((gI s 263 ((3 : Int32)).toNatClampNeg) + (vX12_leftOf s a3))) a1 a2 (a3 + 1))))
set_option maxRecDepth 1000000 in
def uX12_judge_120 (K : (SM → Int32 → Int32 → Prop) × (SM → Int32 → Int32 → Int32 → Prop) × (SM → Int32 → Int32 → Int32 → Prop) × (SM → Int32 → Int32 → Int32 → Prop)) (s : SM) (a1 : Int32) (a2 : Int32) (a3 : Int32) : Prop := (((gI s 250 ((0 : Int32)).toNatClampNeg) ≤ a3 → ((¬ a1 = 0 → (¬ (gI (pI (pI s 263 ((4 : Int32)).toNatClampNeg (gI s 250 ((35 : Int32)).toNatClampNeg)) 248 38 (1 : Int32)) 263 ((1 : Int32)).toNatClampNeg) ≤ 0 → rX12_keepsBefore (pI (pI s 263 ((4 : Int32)).toNatClampNeg (gI s 250 ((35 : Int32)).toNatClampNeg)) 248 38 (1 : Int32)) )) ∧ (a1 = 0 → rX12_backAll (pI (pI s 263 ((4 : Int32)).toNatClampNeg (gI s 250 ((35 : Int32)).toNatClampNeg)) 248 38 (1 : Int32)) ))) ∧ (¬ (gI s 250 ((0 : Int32)).toNatClampNeg) ≤ a3 → (((vX12_isLiving s a3) = 0 → K.2.2.2 (pI s 263 ((3 : Int32)).toNatClampNeg ((gI s 263 ((3 : Int32)).toNatClampNeg) + (0 : Int32))) a1 a2 (a3 + 1)) ∧ (¬ (vX12_isLiving s a3) = 0 → rX12_leftOf s a3 ∧ K.2.2.2 (pI s 263 ((3 : Int32)).toNatClampNeg ((gI s 263 ((3 : Int32)).toNatClampNeg) + (vX12_leftOf s a3))) a1 a2 (a3 + 1)))))
set_option maxRecDepth 1000000 in
noncomputable def lX12_judge : Nat → (SM → Int32 → Int32 → Int32 × SM) × (SM → Int32 → Int32 → Int32 → Int32 × SM) × (SM → Int32 → Int32 → Int32 → Int32 × SM) × (SM → Int32 → Int32 → Int32 → Int32 × SM)
  | 0 => (fun (s : SM) (a1 : Int32) (a2 : Int32) => (0, s), fun (s : SM) (a1 : Int32) (a2 : Int32) (a3 : Int32) => (0, s), fun (s : SM) (a1 : Int32) (a2 : Int32) (a3 : Int32) => (0, s), fun (s : SM) (a1 : Int32) (a2 : Int32) (a3 : Int32) => (0, s))
  | n + 1 => (tX12_judge_23 (lX12_judge n), tX12_judge_45 (lX12_judge n), tX12_judge_108 (lX12_judge n), tX12_judge_120 (lX12_judge n))
set_option maxRecDepth 1000000 in
def qX12_judge : Nat → (SM → Int32 → Int32 → Prop) × (SM → Int32 → Int32 → Int32 → Prop) × (SM → Int32 → Int32 → Int32 → Prop) × (SM → Int32 → Int32 → Int32 → Prop)
  | 0 => (fun (s : SM) (a1 : Int32) (a2 : Int32) => False, fun (s : SM) (a1 : Int32) (a2 : Int32) (a3 : Int32) => False, fun (s : SM) (a1 : Int32) (a2 : Int32) (a3 : Int32) => False, fun (s : SM) (a1 : Int32) (a2 : Int32) (a3 : Int32) => False)
  | n + 1 => (uX12_judge_23 (qX12_judge n), uX12_judge_45 (qX12_judge n), uX12_judge_108 (qX12_judge n), uX12_judge_120 (qX12_judge n))
set_option maxRecDepth 1000000 in
theorem gX12_judge  : ∀ n : Nat, (∀ (a1 : Int32) (a2 : Int32) (s : SM) (Q : Int32 → SM → Prop), ((qX12_judge n).1 s a1 a2) → Q ((lX12_judge n).1 s a1 a2).1 ((lX12_judge n).1 s a1 a2).2 → BI MX12_judge 7 23 [(0, .ref 248), (1, .int a1), (2, .int a2)] s Q) ∧ (∀ (a1 : Int32) (a2 : Int32) (a3 : Int32) (s : SM) (Q : Int32 → SM → Prop), ((qX12_judge n).2.1 s a1 a2 a3) → Q ((lX12_judge n).2.1 s a1 a2 a3).1 ((lX12_judge n).2.1 s a1 a2 a3).2 → BI MX12_judge 7 45 [(0, .ref 248), (1, .int a1), (2, .int a2), (3, .int a3)] s Q) ∧ (∀ (a1 : Int32) (a2 : Int32) (a3 : Int32) (s : SM) (Q : Int32 → SM → Prop), ((qX12_judge n).2.2.1 s a1 a2 a3) → Q ((lX12_judge n).2.2.1 s a1 a2 a3).1 ((lX12_judge n).2.2.1 s a1 a2 a3).2 → BI MX12_judge 7 108 [(0, .ref 248), (1, .int a1), (2, .int a2), (3, .int a3)] s Q) ∧ (∀ (a1 : Int32) (a2 : Int32) (a3 : Int32) (s : SM) (Q : Int32 → SM → Prop), ((qX12_judge n).2.2.2 s a1 a2 a3) → Q ((lX12_judge n).2.2.2 s a1 a2 a3).1 ((lX12_judge n).2.2.2 s a1 a2 a3).2 → BI MX12_judge 7 120 [(0, .ref 248), (1, .int a1), (2, .int a2), (3, .int a3)] s Q) := by
  intro n
  induction n with
  | zero => exact ⟨fun _ _ _ _ hq _ => absurd hq id, fun _ _ _ _ _ hq _ => absurd hq id, fun _ _ _ _ _ hq _ => absurd hq id, fun _ _ _ _ _ hq _ => absurd hq id⟩
  | succ n ih =>
    refine ⟨?_, ?_, ?_, ?_⟩
    · intro a1 a2 s Q hr h
      replace hr : uX12_judge_23 (qX12_judge n) s a1 a2 := hr
      replace h : Q (tX12_judge_23 (lX12_judge n) s a1 a2).1 (tX12_judge_23 (lX12_judge n) s a1 a2).2 := h
      unfold uX12_judge_23 at hr
      unfold tX12_judge_23 at h
      refine bX12_judge_23 a1 a2 ?_
      refine ⟨fun c => ?_, fun c => ?_⟩
      · replace hr := hr.1 c
        replace h := q3p c h
        first | exact ih.2.1 a1 (-1 : Int32) (0 : Int32) _ Q hr h | contradiction
      · replace hr := hr.2 c
        replace h := q3n c h
        refine ⟨hr.1, ?_⟩
        replace hr := hr.2
        first | exact ih.1 a1 (a2 + 1) _ Q hr h | contradiction
    · intro a1 a2 a3 s Q hr h
      replace hr : uX12_judge_45 (qX12_judge n) s a1 a2 a3 := hr
      replace h : Q (tX12_judge_45 (lX12_judge n) s a1 a2 a3).1 (tX12_judge_45 (lX12_judge n) s a1 a2 a3).2 := h
      unfold uX12_judge_45 at hr
      unfold tX12_judge_45 at h
      refine bX12_judge_45 a1 a2 a3 ?_
      refine ⟨fun c => ?_, fun c => ?_⟩
      · replace hr := hr.1 c
        replace h := q3p c h
        first | exact ih.2.2.1 a1 a2 a3 _ Q hr h | contradiction
      · replace hr := hr.2 c
        replace h := q3n c h
        refine ⟨fun c => ?_, fun c => ?_⟩
        · replace hr := hr.1 c
          replace h := q3p c h
          first | exact ih.2.2.1 a1 a2 a3 _ Q hr h | contradiction
        · replace hr := hr.2 c
          replace h := q3n c h
          refine ⟨hr.1, ?_⟩
          replace hr := hr.2
          intro s1 e9
          replace hr := hr s1 e9
          try rw [← e9] at h
          try dsimp only at h
          refine ⟨fun c => ?_, fun c => ?_⟩
          · replace hr := hr.1 c
            replace h := q3p c h
            first | exact ih.2.1 a1 a2 (a3 + 1) _ Q hr h | contradiction
          · replace hr := hr.2 c
            replace h := q3n c h
            first | exact ih.2.1 a1 a3 (a3 + 1) _ Q hr h | contradiction
    · intro a1 a2 a3 s Q hr h
      replace hr : uX12_judge_108 (qX12_judge n) s a1 a2 a3 := hr
      replace h : Q (tX12_judge_108 (lX12_judge n) s a1 a2 a3).1 (tX12_judge_108 (lX12_judge n) s a1 a2 a3).2 := h
      unfold uX12_judge_108 at hr
      unfold tX12_judge_108 at h
      refine bX12_judge_108 a1 a2 a3 ?_
      refine ⟨hr.1, ?_⟩
      replace hr := hr.2
      first | exact ih.2.2.2 a1 a2 (0 : Int32) _ Q hr h | contradiction
    · intro a1 a2 a3 s Q hr h
      replace hr : uX12_judge_120 (qX12_judge n) s a1 a2 a3 := hr
      replace h : Q (tX12_judge_120 (lX12_judge n) s a1 a2 a3).1 (tX12_judge_120 (lX12_judge n) s a1 a2 a3).2 := h
      unfold uX12_judge_120 at hr
      unfold tX12_judge_120 at h
      refine bX12_judge_120 a1 a2 a3 ?_
      refine ⟨fun c => ?_, fun c => ?_⟩
      · replace hr := hr.1 c
        replace h := q3p c h
        refine ⟨fun c => ?_, fun c => ?_⟩
        · replace hr := hr.1 c
          replace h := q3n c h
          refine ⟨fun c => ?_, fun c => ?_⟩
          · replace h := q3p c h
            first | exact h | contradiction
          · replace hr := hr c
            replace h := q3n c h
            refine ⟨hr, ?_⟩
            intro s1 e9
            try rw [← e9] at h
            try dsimp only at h
            first | exact h | contradiction
        · replace hr := hr.2 c
          replace h := q3p c h
          refine ⟨hr, ?_⟩
          first | exact h | contradiction
      · replace hr := hr.2 c
        replace h := q3n c h
        refine ⟨fun c => ?_, fun c => ?_⟩
        · replace hr := hr.1 c
          replace h := q3p c h
          first | exact ih.2.2.2 a1 a2 (a3 + 1) _ Q hr h | contradiction
        · replace hr := hr.2 c
          replace h := q3n c h
          refine ⟨hr.1, ?_⟩
          replace hr := hr.2
          first | exact ih.2.2.2 a1 a2 (a3 + 1) _ Q hr h | contradiction
set_option maxRecDepth 1000000 in
noncomputable def fX12_judge (s : SM) (a1 : Int32) : Int32 × SM := (if (vX12_isIn (pI s 248 0 (0 : Int32)) a1 (0 : Int32) (1 : Int32)) = 0 then ((-2 : Int32), (pI s 248 0 (0 : Int32))) else ((lX12_judge FU).1 (mX12_keepsAll (pI s 248 0 (0 : Int32)) ) a1 (0 : Int32)))
set_option maxRecDepth 1000000 in
noncomputable def vX12_judge (s : SM) (a1 : Int32) : Int32 := fX12_judge s a1 |>.1
set_option maxRecDepth 1000000 in
noncomputable def mX12_judge (s : SM) (a1 : Int32) : SM := fX12_judge s a1 |>.2
set_option maxRecDepth 1000000 in
def rX12_judge (s : SM) (a1 : Int32) : Prop := (¬ (vX12_isIn (pI s 248 0 (0 : Int32)) a1 (0 : Int32) (1 : Int32)) = 0 → rX12_keepsAll (pI s 248 0 (0 : Int32))  ∧ (qX12_judge FU).1 (mX12_keepsAll (pI s 248 0 (0 : Int32)) ) a1 (0 : Int32))
set_option maxRecDepth 1000000 in
theorem pX12_judge (a1 : Int32) {s : SM} {Q : Int32 → SM → Prop} (hr : rX12_judge s a1) (h : Q (vX12_judge s a1) (mX12_judge s a1)) : KI MX12_judge 7 [.ref 248, .int a1] s Q := by
  replace h : Q (fX12_judge s a1).1 (fX12_judge s a1).2 := h
  unfold rX12_judge at hr
  unfold fX12_judge at h
  refine bX12_judge a1 ?_
  refine ⟨fun c => ?_, fun c => ?_⟩
  · replace hr := hr c
    replace h := q3n c h
    refine ⟨hr.1, ?_⟩
    replace hr := hr.2
    first | exact (gX12_judge  FU).1 a1 (0 : Int32) _ Q hr h | contradiction
  · replace h := q3p c h
    first | exact h | contradiction
set_option maxRecDepth 1000000 in
theorem bX1_tryFrom_93 {e : Nat} (a1 : Int32) (a2 : Int32) (a3 : Int32) (a4 : Int32) (a5 : Int32) (a6 : Int32) {s : SM} {Q : SM → Prop} (h : vp_in a2 9 ∧ ((¬ (gI s 239 (a2).toNatClampNeg) = a1 → vp_in a3 9 ∧ KI MX1_aboutSum 0 [.ref 233, .int a4, .int (-(gI s 238 (a3).toNatClampNeg))] s (fun x4 s3 => BV MX1_tryFrom (e + 4) 148 [(0, .ref 233), (1, .int a1), (2, .int a2), (3, .int a3), (4, .int a4), (5, .int x4), (6, .int (if (x4 + (1 : Int32)) < (gI s3 233 8) then (x4 + (1 : Int32)) else (gI s3 233 8))), (7, .int (if (1 : Int32) < x4 then x4 else (1 : Int32)))] s3 Q)) ∧ ((gI s 239 (a2).toNatClampNeg) = a1 → vp_in a2 9 ∧ KI MX1_aboutSum 0 [.ref 233, .int a4, .int (gI s 238 (a2).toNatClampNeg)] s (fun x7 s6 => BV MX1_tryFrom (e + 4) 148 [(0, .ref 233), (1, .int a1), (2, .int a2), (3, .int a3), (4, .int a4), (5, .int x7), (6, .int (if (x7 + (1 : Int32)) < (gI s6 233 8) then (x7 + (1 : Int32)) else (gI s6 233 8))), (7, .int (if (1 : Int32) < x7 then x7 else (1 : Int32)))] s6 Q)))) : BV MX1_tryFrom (e + 4) 93 [(0, .ref 233), (1, .int a1), (2, .int a2), (3, .int a3), (4, .int a4), (5, .int a5), (6, .int a6)] s Q := by
  refine JT_aload_n (q := 0) dX1_tryFrom_93 rfl rfl ?_
  refine JT_iload (q := 4) dX1_tryFrom_94 rfl ?_
  refine JT_aload_n (q := 0) dX1_tryFrom_96 rfl rfl ?_
  refine JS_getR (x := 239) dX1_tryFrom_97 flX1_27 BS_233 (Nat.le_of_ble_eq_true rfl) (Nat.le_of_ble_eq_true rfl) (Or.inr ⟨_, ct_1_5⟩) RF_233_5 ?_
  refine JT_iload_n (q := 2) dX1_tryFrom_100 rfl rfl ?_
  obtain ⟨o1, h⟩ := h
  refine JS_iald dX1_tryFrom_101 BS_239 (Nat.le_of_ble_eq_true rfl) (Nat.le_of_ble_eq_true rfl) o1 ?_
  refine JT_iload_n (q := 1) dX1_tryFrom_102 rfl rfl ?_
  refine JT_icmp_ne (tgt := 115) dX1_tryFrom_103 (by decide) (fun hc8 => ?_) (fun hc8 => ?_)
  · have h := h.1 hc8
    refine JT_aload_n (q := 0) dX1_tryFrom_115 rfl rfl ?_
    refine JS_getR (x := 238) dX1_tryFrom_116 flX1_24 BS_233 (Nat.le_of_ble_eq_true rfl) (Nat.le_of_ble_eq_true rfl) (Or.inr ⟨_, ct_1_4⟩) RF_233_4 ?_
    refine JT_iload_n (q := 3) dX1_tryFrom_119 rfl rfl ?_
    obtain ⟨o2, h⟩ := h
    refine JS_iald dX1_tryFrom_120 BS_238 (Nat.le_of_ble_eq_true rfl) (Nat.le_of_ble_eq_true rfl) o2 ?_
    refine JT_ineg dX1_tryFrom_121 ?_
    refine JS_callVI (M' := MX1_aboutSum) (d' := 0) (As := [.int a4, .int (-(gI s 238 (a3).toNatClampNeg))]) (rest := []) dX1_tryFrom_122 cvX1_112 okX1_aboutSum rfl (Nat.le_of_ble_eq_true rfl) BS_233 (Nat.le_of_ble_eq_true rfl) (Nat.le_of_ble_eq_true rfl) hci_1 (Nat.le_of_ble_eq_true rfl) (by show 0 + 1 ≤ e + 4; omega) h (fun x4 s3 h => ?_)
    refine JT_istore (lv' := [(5, .int x4), (0, .ref 233), (1, .int a1), (2, .int a2), (3, .int a3), (4, .int a4), (6, .int a6)]) dX1_tryFrom_125 (Nat.le_of_ble_eq_true rfl) rfl ?_
    refine JT_aload_n (q := 1) dX1_tryFrom_127 rfl rfl ?_
    refine JS_getI dX1_tryFrom_128 flX1_93 BS_233 (Nat.le_of_ble_eq_true rfl) (Nat.le_of_ble_eq_true rfl) (Or.inl ct_1_8) ?_
    refine JT_iload (q := 0) dX1_tryFrom_131 rfl ?_
    refine JT_iconst (v := 1) dX1_tryFrom_133 ic_1 ?_
    refine JT_iadd dX1_tryFrom_134 ?_
    refine JT_mmin (d2 := e + 3) dX1_tryFrom_135 mlX1_115 (Nat.le_of_ble_eq_true rfl) rfl ?_
    refine JT_istore (lv' := [(6, .int (if (x4 + (1 : Int32)) < (gI s3 233 8) then (x4 + (1 : Int32)) else (gI s3 233 8))), (5, .int x4), (0, .ref 233), (1, .int a1), (2, .int a2), (3, .int a3), (4, .int a4)]) dX1_tryFrom_138 (Nat.le_of_ble_eq_true rfl) rfl ?_
    refine JT_iconst (v := 1) dX1_tryFrom_140 ic_1 ?_
    refine JT_iload (q := 1) dX1_tryFrom_141 rfl ?_
    refine JT_mmax (d2 := e + 3) dX1_tryFrom_143 mlX1_120 (Nat.le_of_ble_eq_true rfl) rfl ?_
    refine JT_istore (lv' := [(7, .int (if (1 : Int32) < x4 then x4 else (1 : Int32))), (6, .int (if (x4 + (1 : Int32)) < (gI s3 233 8) then (x4 + (1 : Int32)) else (gI s3 233 8))), (5, .int x4), (0, .ref 233), (1, .int a1), (2, .int a2), (3, .int a3), (4, .int a4)]) dX1_tryFrom_146 (Nat.le_of_ble_eq_true rfl) rfl ?_
    exact JT_sub [3, 4, 5, 6, 7, 2, 1, 0] rfl h
  · have h := h.2 hc8
    refine JT_aload_n (q := 0) dX1_tryFrom_106 rfl rfl ?_
    refine JS_getR (x := 238) dX1_tryFrom_107 flX1_24 BS_233 (Nat.le_of_ble_eq_true rfl) (Nat.le_of_ble_eq_true rfl) (Or.inr ⟨_, ct_1_4⟩) RF_233_4 ?_
    refine JT_iload_n (q := 2) dX1_tryFrom_110 rfl rfl ?_
    obtain ⟨o5, h⟩ := h
    refine JS_iald dX1_tryFrom_111 BS_238 (Nat.le_of_ble_eq_true rfl) (Nat.le_of_ble_eq_true rfl) o5 ?_
    refine JT_goto (tgt := 122) dX1_tryFrom_112 (by decide) ?_
    refine JS_callVI (M' := MX1_aboutSum) (d' := 0) (As := [.int a4, .int (gI s 238 (a2).toNatClampNeg)]) (rest := []) dX1_tryFrom_122 cvX1_112 okX1_aboutSum rfl (Nat.le_of_ble_eq_true rfl) BS_233 (Nat.le_of_ble_eq_true rfl) (Nat.le_of_ble_eq_true rfl) hci_1 (Nat.le_of_ble_eq_true rfl) (by show 0 + 1 ≤ e + 4; omega) h (fun x7 s6 h => ?_)
    refine JT_istore (lv' := [(5, .int x7), (0, .ref 233), (1, .int a1), (2, .int a2), (3, .int a3), (4, .int a4), (6, .int a6)]) dX1_tryFrom_125 (Nat.le_of_ble_eq_true rfl) rfl ?_
    refine JT_aload_n (q := 1) dX1_tryFrom_127 rfl rfl ?_
    refine JS_getI dX1_tryFrom_128 flX1_93 BS_233 (Nat.le_of_ble_eq_true rfl) (Nat.le_of_ble_eq_true rfl) (Or.inl ct_1_8) ?_
    refine JT_iload (q := 0) dX1_tryFrom_131 rfl ?_
    refine JT_iconst (v := 1) dX1_tryFrom_133 ic_1 ?_
    refine JT_iadd dX1_tryFrom_134 ?_
    refine JT_mmin (d2 := e + 3) dX1_tryFrom_135 mlX1_115 (Nat.le_of_ble_eq_true rfl) rfl ?_
    refine JT_istore (lv' := [(6, .int (if (x7 + (1 : Int32)) < (gI s6 233 8) then (x7 + (1 : Int32)) else (gI s6 233 8))), (5, .int x7), (0, .ref 233), (1, .int a1), (2, .int a2), (3, .int a3), (4, .int a4)]) dX1_tryFrom_138 (Nat.le_of_ble_eq_true rfl) rfl ?_
    refine JT_iconst (v := 1) dX1_tryFrom_140 ic_1 ?_
    refine JT_iload (q := 1) dX1_tryFrom_141 rfl ?_
    refine JT_mmax (d2 := e + 3) dX1_tryFrom_143 mlX1_120 (Nat.le_of_ble_eq_true rfl) rfl ?_
    refine JT_istore (lv' := [(7, .int (if (1 : Int32) < x7 then x7 else (1 : Int32))), (6, .int (if (x7 + (1 : Int32)) < (gI s6 233 8) then (x7 + (1 : Int32)) else (gI s6 233 8))), (5, .int x7), (0, .ref 233), (1, .int a1), (2, .int a2), (3, .int a3), (4, .int a4)]) dX1_tryFrom_146 (Nat.le_of_ble_eq_true rfl) rfl ?_
    exact JT_sub [3, 4, 5, 6, 7, 2, 1, 0] rfl h
set_option maxRecDepth 1000000 in
theorem bX1_tryFrom_148 {e : Nat} (a1 : Int32) (a2 : Int32) (a3 : Int32) (a4 : Int32) (a5 : Int32) (a6 : Int32) (a7 : Int32) {s : SM} {Q : SM → Prop} (h : ((a6 < a7 → Q s) ∧ (¬ a6 < a7 → gD s 2 = some (gDx s 2) ∧ ((gDx s 2), rfx (gDx s 2) 8) ∈ LX ∧ KI MX6_valueOf 0 [.ref (rfx (gDx s 2) 8), .int a4, .int a7] s (fun x4 s3 => vp_in a2 9 ∧ vp_in a2 9 ∧ vp_in a3 9 ∧ vp_in a3 9 ∧ (∀ s9, s9 = (pI (pI s3 238 (a2).toNatClampNeg ((gI s3 238 (a2).toNatClampNeg) - x4)) 238 (a3).toNatClampNeg ((gI (pI s3 238 (a2).toNatClampNeg ((gI s3 238 (a2).toNatClampNeg) - x4)) 238 (a3).toNatClampNeg) + x4)) → vp_in a2 9 ∧ ((¬ (gI s9 239 (a2).toNatClampNeg) = a1 → BV MX1_tryFrom (e + 4) 212 [(0, .ref 233), (1, .int a1), (2, .int a2), (3, .int a3), (4, .int a4), (5, .int a5), (6, .int a6), (7, .int a7), (8, .int x4)] s9 Q) ∧ ((gI s9 239 (a2).toNatClampNeg) = a1 → vp_in a2 9 ∧ ((¬ (gI s9 238 (a2).toNatClampNeg) = 0 → BV MX1_tryFrom (e + 4) 246 [(0, .ref 233), (1, .int a1), (2, .int a2), (3, .int a3), (4, .int a4), (5, .int a5), (6, .int a6), (7, .int a7), (8, .int x4)] s9 Q) ∧ ((gI s9 238 (a2).toNatClampNeg) = 0 → BV MX1_tryFrom (e + 4) 212 [(0, .ref 233), (1, .int a1), (2, .int a2), (3, .int a3), (4, .int a4), (5, .int a5), (6, .int a6), (7, .int a7), (8, .int x4)] s9 Q))))))))) : BV MX1_tryFrom (e + 4) 148 [(0, .ref 233), (1, .int a1), (2, .int a2), (3, .int a3), (4, .int a4), (5, .int a5), (6, .int a6), (7, .int a7)] s Q := by
  refine JT_iload (q := 7) dX1_tryFrom_148 rfl ?_
  refine JT_iload (q := 6) dX1_tryFrom_150 rfl ?_
  refine JT_icmp_gt (tgt := 274) dX1_tryFrom_152 (by decide) (fun hc14 => ?_) (fun hc14 => ?_)
  · have h := h.1 hc14
    exact JS_vret dX1_tryFrom_274 rfl h
  · have h := h.2 hc14
    refine JT_aload_n (q := 0) dX1_tryFrom_155 rfl rfl ?_
    obtain ⟨hr1, hL2, h⟩ := h
    refine JS_getR (x := (gDx s 2)) dX1_tryFrom_156 flX1_30 BS_233 (Nat.le_of_ble_eq_true rfl) (Nat.le_of_ble_eq_true rfl) (Or.inl ⟨_, ct_1_11⟩) (RF_233_11.trans hr1) ?_
    refine JS_getR (x := (rfx (gDx s 2) 8)) dX1_tryFrom_159 flX1_34 (lxB hL2) (lx2 hL2) (lxN hL2) (Or.inl ⟨_, ct_4_8⟩) (lxR8 hL2) ?_
    refine JT_iload (q := 4) dX1_tryFrom_162 rfl ?_
    refine JT_iload (q := 7) dX1_tryFrom_164 rfl ?_
    refine JS_callVI (M' := MX6_valueOf) (d' := 0) (As := [.int a4, .int a7]) (rest := []) dX1_tryFrom_166 cvX1_123 okX6_valueOf rfl (Nat.le_of_ble_eq_true rfl) (pxB (lxP hL2)) (px2 (lxP hL2)) (pxN (lxP hL2)) hci_6 (Nat.le_of_ble_eq_true rfl) (by show 0 + 1 ≤ e + 4; omega) h (fun x4 s3 h => ?_)
    refine JT_istore (lv' := [(8, .int x4), (0, .ref 233), (1, .int a1), (2, .int a2), (3, .int a3), (4, .int a4), (5, .int a5), (6, .int a6), (7, .int a7)]) dX1_tryFrom_169 (Nat.le_of_ble_eq_true rfl) rfl ?_
    refine JT_aload_n (q := 1) dX1_tryFrom_171 rfl rfl ?_
    refine JS_getR (x := 238) dX1_tryFrom_172 flX1_24 BS_233 (Nat.le_of_ble_eq_true rfl) (Nat.le_of_ble_eq_true rfl) (Or.inr ⟨_, ct_1_4⟩) RF_233_4 ?_
    refine JT_iload_n (q := 3) dX1_tryFrom_175 rfl rfl ?_
    refine JT_dup2 dX1_tryFrom_176 rfl rfl ?_
    obtain ⟨o5, h⟩ := h
    refine JS_iald dX1_tryFrom_177 BS_238 (Nat.le_of_ble_eq_true rfl) (Nat.le_of_ble_eq_true rfl) o5 ?_
    refine JT_iload (q := 0) dX1_tryFrom_178 rfl ?_
    refine JT_isub dX1_tryFrom_180 ?_
    obtain ⟨o6, h⟩ := h
    refine JS_iast dX1_tryFrom_181 BS_238 (Nat.le_of_ble_eq_true rfl) (Nat.le_of_ble_eq_true rfl) o6 ?_
    refine JT_aload_n (q := 1) dX1_tryFrom_182 rfl rfl ?_
    refine JS_getR (x := 238) dX1_tryFrom_183 flX1_24 BS_233 (Nat.le_of_ble_eq_true rfl) (Nat.le_of_ble_eq_true rfl) (Or.inr ⟨_, ct_1_4⟩) RF_233_4 ?_
    refine JT_iload_n (q := 4) dX1_tryFrom_186 rfl rfl ?_
    refine JT_dup2 dX1_tryFrom_187 rfl rfl ?_
    obtain ⟨o7, h⟩ := h
    refine JS_iald dX1_tryFrom_188 BS_238 (Nat.le_of_ble_eq_true rfl) (Nat.le_of_ble_eq_true rfl) o7 ?_
    refine JT_iload (q := 0) dX1_tryFrom_189 rfl ?_
    refine JT_iadd dX1_tryFrom_191 ?_
    obtain ⟨o8, h⟩ := h
    refine JS_iast dX1_tryFrom_192 BS_238 (Nat.le_of_ble_eq_true rfl) (Nat.le_of_ble_eq_true rfl) o8 ?_
    obtain ⟨s9, hs9⟩ : ∃ z, z = (pI (pI s3 238 (a2).toNatClampNeg ((gI s3 238 (a2).toNatClampNeg) - x4)) 238 (a3).toNatClampNeg ((gI (pI s3 238 (a2).toNatClampNeg ((gI s3 238 (a2).toNatClampNeg) - x4)) 238 (a3).toNatClampNeg) + x4)) := ⟨_, rfl⟩
    replace h := h s9 hs9
    rw [← hs9]
    refine JT_aload_n (q := 1) dX1_tryFrom_193 rfl rfl ?_
    refine JS_getR (x := 239) dX1_tryFrom_194 flX1_27 BS_233 (Nat.le_of_ble_eq_true rfl) (Nat.le_of_ble_eq_true rfl) (Or.inr ⟨_, ct_1_5⟩) RF_233_5 ?_
    refine JT_iload_n (q := 3) dX1_tryFrom_197 rfl rfl ?_
    obtain ⟨o10, h⟩ := h
    refine JS_iald dX1_tryFrom_198 BS_239 (Nat.le_of_ble_eq_true rfl) (Nat.le_of_ble_eq_true rfl) o10 ?_
    refine JT_iload_n (q := 2) dX1_tryFrom_199 rfl rfl ?_
    refine JT_icmp_ne (tgt := 212) dX1_tryFrom_200 (by decide) (fun hc13 => ?_) (fun hc13 => ?_)
    · have h := h.1 hc13
      exact JT_sub [1, 2, 3, 4, 5, 6, 7, 8, 0] rfl h
    · have h := h.2 hc13
      refine JT_aload_n (q := 1) dX1_tryFrom_203 rfl rfl ?_
      refine JS_getR (x := 238) dX1_tryFrom_204 flX1_24 BS_233 (Nat.le_of_ble_eq_true rfl) (Nat.le_of_ble_eq_true rfl) (Or.inr ⟨_, ct_1_4⟩) RF_233_4 ?_
      refine JT_iload_n (q := 3) dX1_tryFrom_207 rfl rfl ?_
      obtain ⟨o11, h⟩ := h
      refine JS_iald dX1_tryFrom_208 BS_238 (Nat.le_of_ble_eq_true rfl) (Nat.le_of_ble_eq_true rfl) o11 ?_
      refine JT_if_ne (tgt := 246) dX1_tryFrom_209 (by decide) (fun hc12 => ?_) (fun hc12 => ?_)
      · have h := h.1 hc12
        exact JT_sub [1, 2, 3, 4, 5, 6, 7, 8, 0] rfl h
      · have h := h.2 hc12
        exact JT_sub [1, 2, 3, 4, 5, 6, 7, 8, 0] rfl h
set_option maxRecDepth 1000000 in
theorem bX1_tryFrom_212 {e : Nat} (a1 : Int32) (a2 : Int32) (a3 : Int32) (a4 : Int32) (a5 : Int32) (a6 : Int32) (a7 : Int32) (a8 : Int32) {s : SM} {Q : SM → Prop} (h : vp_in a3 9 ∧ ((¬ (gI s 239 (a3).toNatClampNeg) = a1 → BV MX1_tryFrom (e + 4) 231 [(0, .ref 233), (1, .int a1), (2, .int a2), (3, .int a3), (4, .int a4), (5, .int a5), (6, .int a6), (7, .int a7), (8, .int a8)] s Q) ∧ ((gI s 239 (a3).toNatClampNeg) = a1 → vp_in a3 9 ∧ ((¬ (gI s 238 (a3).toNatClampNeg) = 0 → BV MX1_tryFrom (e + 4) 246 [(0, .ref 233), (1, .int a1), (2, .int a2), (3, .int a3), (4, .int a4), (5, .int a5), (6, .int a6), (7, .int a7), (8, .int a8)] s Q) ∧ ((gI s 238 (a3).toNatClampNeg) = 0 → BV MX1_tryFrom (e + 4) 231 [(0, .ref 233), (1, .int a1), (2, .int a2), (3, .int a3), (4, .int a4), (5, .int a5), (6, .int a6), (7, .int a7), (8, .int a8)] s Q))))) : BV MX1_tryFrom (e + 4) 212 [(0, .ref 233), (1, .int a1), (2, .int a2), (3, .int a3), (4, .int a4), (5, .int a5), (6, .int a6), (7, .int a7), (8, .int a8)] s Q := by
  refine JT_aload_n (q := 0) dX1_tryFrom_212 rfl rfl ?_
  refine JS_getR (x := 239) dX1_tryFrom_213 flX1_27 BS_233 (Nat.le_of_ble_eq_true rfl) (Nat.le_of_ble_eq_true rfl) (Or.inr ⟨_, ct_1_5⟩) RF_233_5 ?_
  refine JT_iload_n (q := 3) dX1_tryFrom_216 rfl rfl ?_
  obtain ⟨o1, h⟩ := h
  refine JS_iald dX1_tryFrom_217 BS_239 (Nat.le_of_ble_eq_true rfl) (Nat.le_of_ble_eq_true rfl) o1 ?_
  refine JT_iload_n (q := 1) dX1_tryFrom_218 rfl rfl ?_
  refine JT_icmp_ne (tgt := 231) dX1_tryFrom_219 (by decide) (fun hc4 => ?_) (fun hc4 => ?_)
  · have h := h.1 hc4
    exact JT_sub [0, 1, 2, 3, 4, 5, 6, 7, 8] rfl h
  · have h := h.2 hc4
    refine JT_aload_n (q := 0) dX1_tryFrom_222 rfl rfl ?_
    refine JS_getR (x := 238) dX1_tryFrom_223 flX1_24 BS_233 (Nat.le_of_ble_eq_true rfl) (Nat.le_of_ble_eq_true rfl) (Or.inr ⟨_, ct_1_4⟩) RF_233_4 ?_
    refine JT_iload_n (q := 3) dX1_tryFrom_226 rfl rfl ?_
    obtain ⟨o2, h⟩ := h
    refine JS_iald dX1_tryFrom_227 BS_238 (Nat.le_of_ble_eq_true rfl) (Nat.le_of_ble_eq_true rfl) o2 ?_
    refine JT_if_ne (tgt := 246) dX1_tryFrom_228 (by decide) (fun hc3 => ?_) (fun hc3 => ?_)
    · have h := h.1 hc3
      exact JT_sub [0, 1, 2, 3, 4, 5, 6, 7, 8] rfl h
    · have h := h.2 hc3
      exact JT_sub [0, 1, 2, 3, 4, 5, 6, 7, 8] rfl h
set_option maxRecDepth 1000000 in
theorem bX1_tryFrom_231 {e : Nat} (a1 : Int32) (a2 : Int32) (a3 : Int32) (a4 : Int32) (a5 : Int32) (a6 : Int32) (a7 : Int32) (a8 : Int32) {s : SM} {Q : SM → Prop} (h : vp_in a1 4 ∧ KV MX1_tryFrom (e + 3) [.ref 233, .int (a1 + (1 : Int32))] (pI s 235 (a1).toNatClampNeg a7) (fun s2 => BV MX1_tryFrom (e + 4) 246 [(0, .ref 233), (1, .int a1), (2, .int a2), (3, .int a3), (4, .int a4), (5, .int a5), (6, .int a6), (7, .int a7), (8, .int a8)] s2 Q)) : BV MX1_tryFrom (e + 4) 231 [(0, .ref 233), (1, .int a1), (2, .int a2), (3, .int a3), (4, .int a4), (5, .int a5), (6, .int a6), (7, .int a7), (8, .int a8)] s Q := by
  refine JT_aload_n (q := 0) dX1_tryFrom_231 rfl rfl ?_
  refine JS_getR (x := 235) dX1_tryFrom_232 flX1_15 BS_233 (Nat.le_of_ble_eq_true rfl) (Nat.le_of_ble_eq_true rfl) (Or.inr ⟨_, ct_1_1⟩) RF_233_1 ?_
  refine JT_iload_n (q := 1) dX1_tryFrom_235 rfl rfl ?_
  refine JT_iload (q := 7) dX1_tryFrom_236 rfl ?_
  obtain ⟨o1, h⟩ := h
  refine JS_iast dX1_tryFrom_238 BS_235 (Nat.le_of_ble_eq_true rfl) (Nat.le_of_ble_eq_true rfl) o1 ?_
  refine JT_aload_n (q := 0) dX1_tryFrom_239 rfl rfl ?_
  refine JT_iload_n (q := 1) dX1_tryFrom_240 rfl rfl ?_
  refine JT_iconst (v := 1) dX1_tryFrom_241 ic_1 ?_
  refine JT_iadd dX1_tryFrom_242 ?_
  refine JS_callVV (M' := MX1_tryFrom) (d' := e + 3) (As := [.int (a1 + (1 : Int32))]) (rest := []) dX1_tryFrom_243 cvX1_102 okX1_tryFrom rfl (Nat.le_of_ble_eq_true rfl) BS_233 (Nat.le_of_ble_eq_true rfl) (Nat.le_of_ble_eq_true rfl) hci_1 (Nat.le_of_ble_eq_true rfl) (by show e + 3 + 1 ≤ e + 4; omega) h (fun s2 h => ?_)
  exact JT_sub [0, 1, 2, 3, 4, 5, 6, 7, 8] rfl h
set_option maxRecDepth 1000000 in
theorem bX1_tryFrom_246 {e : Nat} (a1 : Int32) (a2 : Int32) (a3 : Int32) (a4 : Int32) (a5 : Int32) (a6 : Int32) (a7 : Int32) (a8 : Int32) {s : SM} {Q : SM → Prop} (h : vp_in a2 9 ∧ vp_in a2 9 ∧ vp_in a3 9 ∧ vp_in a3 9 ∧ (∀ s5, s5 = (pI (pI s 238 (a2).toNatClampNeg ((gI s 238 (a2).toNatClampNeg) + a8)) 238 (a3).toNatClampNeg ((gI (pI s 238 (a2).toNatClampNeg ((gI s 238 (a2).toNatClampNeg) + a8)) 238 (a3).toNatClampNeg) - a8)) → BV MX1_tryFrom (e + 4) 148 [(0, .ref 233), (1, .int a1), (2, .int a2), (3, .int a3), (4, .int a4), (5, .int a5), (6, .int a6), (7, .int (a7 + 1))] s5 Q)) : BV MX1_tryFrom (e + 4) 246 [(0, .ref 233), (1, .int a1), (2, .int a2), (3, .int a3), (4, .int a4), (5, .int a5), (6, .int a6), (7, .int a7), (8, .int a8)] s Q := by
  refine JT_aload_n (q := 0) dX1_tryFrom_246 rfl rfl ?_
  refine JS_getR (x := 238) dX1_tryFrom_247 flX1_24 BS_233 (Nat.le_of_ble_eq_true rfl) (Nat.le_of_ble_eq_true rfl) (Or.inr ⟨_, ct_1_4⟩) RF_233_4 ?_
  refine JT_iload_n (q := 2) dX1_tryFrom_250 rfl rfl ?_
  refine JT_dup2 dX1_tryFrom_251 rfl rfl ?_
  obtain ⟨o1, h⟩ := h
  refine JS_iald dX1_tryFrom_252 BS_238 (Nat.le_of_ble_eq_true rfl) (Nat.le_of_ble_eq_true rfl) o1 ?_
  refine JT_iload (q := 8) dX1_tryFrom_253 rfl ?_
  refine JT_iadd dX1_tryFrom_255 ?_
  obtain ⟨o2, h⟩ := h
  refine JS_iast dX1_tryFrom_256 BS_238 (Nat.le_of_ble_eq_true rfl) (Nat.le_of_ble_eq_true rfl) o2 ?_
  refine JT_aload_n (q := 0) dX1_tryFrom_257 rfl rfl ?_
  refine JS_getR (x := 238) dX1_tryFrom_258 flX1_24 BS_233 (Nat.le_of_ble_eq_true rfl) (Nat.le_of_ble_eq_true rfl) (Or.inr ⟨_, ct_1_4⟩) RF_233_4 ?_
  refine JT_iload_n (q := 3) dX1_tryFrom_261 rfl rfl ?_
  refine JT_dup2 dX1_tryFrom_262 rfl rfl ?_
  obtain ⟨o3, h⟩ := h
  refine JS_iald dX1_tryFrom_263 BS_238 (Nat.le_of_ble_eq_true rfl) (Nat.le_of_ble_eq_true rfl) o3 ?_
  refine JT_iload (q := 8) dX1_tryFrom_264 rfl ?_
  refine JT_isub dX1_tryFrom_266 ?_
  obtain ⟨o4, h⟩ := h
  refine JS_iast dX1_tryFrom_267 BS_238 (Nat.le_of_ble_eq_true rfl) (Nat.le_of_ble_eq_true rfl) o4 ?_
  obtain ⟨s5, hs5⟩ : ∃ z, z = (pI (pI s 238 (a2).toNatClampNeg ((gI s 238 (a2).toNatClampNeg) + a8)) 238 (a3).toNatClampNeg ((gI (pI s 238 (a2).toNatClampNeg ((gI s 238 (a2).toNatClampNeg) + a8)) 238 (a3).toNatClampNeg) - a8)) := ⟨_, rfl⟩
  replace h := h s5 hs5
  rw [← hs5]
  refine JT_iinc (q := 7) (v := (a7 + 1)) (lv' := [(7, .int (a7 + 1)), (0, .ref 233), (1, .int a1), (2, .int a2), (3, .int a3), (4, .int a4), (5, .int a5), (6, .int a6), (8, .int a8)]) dX1_tryFrom_268 rfl (by rfl) (Nat.le_of_ble_eq_true rfl) rfl ?_
  refine JT_goto (tgt := 148) dX1_tryFrom_271 (by decide) ?_
  exact JT_sub [1, 2, 3, 4, 5, 6, 7, 0] rfl h
set_option maxRecDepth 1000000 in
theorem bX1_tryFrom {e : Nat} (a1 : Int32) {s : SM} {Q : SM → Prop} (h : (((gI s 233 6) ≤ a1 → KV MX1_noteWay 1 [.ref 233] s (fun s1 => Q s1)) ∧ (¬ (gI s 233 6) ≤ a1 → ((a1 < (4 : Int32) → gD s 2 = some (gDx s 2) ∧ ((gDx s 2), rfx (gDx s 2) 8) ∈ LX ∧ vp_in a1 4 ∧ vp_in (gI s 234 (a1).toNatClampNeg) 60 ∧ gD s 2 = some (gDx s 2) ∧ ((gDx s 2), rfx (gDx s 2) 8) ∈ LX ∧ vp_in a1 4 ∧ vp_in (gI s 234 (a1).toNatClampNeg) 60 ∧ gD s 2 = some (gDx s 2) ∧ ((gDx s 2), rfx (gDx s 2) 8) ∈ LX ∧ vp_in a1 4 ∧ vp_in (gI s 234 (a1).toNatClampNeg) 60 ∧ vp_in (gI s ((gDx s 2) + 1) ((gI s 234 (a1).toNatClampNeg)).toNatClampNeg) 9 ∧ (((gI s 239 ((gI s ((gDx s 2) + 1) ((gI s 234 (a1).toNatClampNeg)).toNatClampNeg)).toNatClampNeg) = a1 → BV MX1_tryFrom (e + 4) 93 [(0, .ref 233), (1, .int a1), (2, .int (gI s ((gDx s 2) + 1) ((gI s 234 (a1).toNatClampNeg)).toNatClampNeg)), (3, .int (gI s ((gDx s 2) + 2) ((gI s 234 (a1).toNatClampNeg)).toNatClampNeg)), (4, .int (gI s ((gDx s 2) + 4) ((gI s 234 (a1).toNatClampNeg)).toNatClampNeg)), (5, .int (1 : Int32)), (6, .int (gI s 233 8))] s Q) ∧ (¬ (gI s 239 ((gI s ((gDx s 2) + 1) ((gI s 234 (a1).toNatClampNeg)).toNatClampNeg)).toNatClampNeg) = a1 → vp_in (gI s ((gDx s 2) + 2) ((gI s 234 (a1).toNatClampNeg)).toNatClampNeg) 9 ∧ ((¬ (gI s 239 ((gI s ((gDx s 2) + 2) ((gI s 234 (a1).toNatClampNeg)).toNatClampNeg)).toNatClampNeg) = a1 → BV MX1_tryFrom (e + 4) 148 [(0, .ref 233), (1, .int a1), (2, .int (gI s ((gDx s 2) + 1) ((gI s 234 (a1).toNatClampNeg)).toNatClampNeg)), (3, .int (gI s ((gDx s 2) + 2) ((gI s 234 (a1).toNatClampNeg)).toNatClampNeg)), (4, .int (gI s ((gDx s 2) + 4) ((gI s 234 (a1).toNatClampNeg)).toNatClampNeg)), (5, .int (1 : Int32)), (6, .int (gI s 233 8)), (7, .int (if (1 : Int32) < (1 : Int32) then (1 : Int32) else (1 : Int32)))] s Q) ∧ ((gI s 239 ((gI s ((gDx s 2) + 2) ((gI s 234 (a1).toNatClampNeg)).toNatClampNeg)).toNatClampNeg) = a1 → BV MX1_tryFrom (e + 4) 93 [(0, .ref 233), (1, .int a1), (2, .int (gI s ((gDx s 2) + 1) ((gI s 234 (a1).toNatClampNeg)).toNatClampNeg)), (3, .int (gI s ((gDx s 2) + 2) ((gI s 234 (a1).toNatClampNeg)).toNatClampNeg)), (4, .int (gI s ((gDx s 2) + 4) ((gI s 234 (a1).toNatClampNeg)).toNatClampNeg)), (5, .int (1 : Int32)), (6, .int (gI s 233 8))] s Q))))) ∧ (¬ a1 < (4 : Int32) → KV MX1_noteWay 1 [.ref 233] s (fun s19 => Q s19)))))) : KV MX1_tryFrom (e + 4) [.ref 233, .int a1] s Q := by
  show BV MX1_tryFrom (e + 4) 0 [(0, .ref 233), (1, .int a1)] s Q
  refine JT_iload_n (q := 1) dX1_tryFrom_0 rfl rfl ?_
  refine JT_aload_n (q := 0) dX1_tryFrom_1 rfl rfl ?_
  refine JS_getI dX1_tryFrom_2 flX1_67 BS_233 (Nat.le_of_ble_eq_true rfl) (Nat.le_of_ble_eq_true rfl) (Or.inl ct_1_6) ?_
  refine JT_icmp_ge (tgt := 13) dX1_tryFrom_5 (by decide) (fun hc22 => ?_) (fun hc22 => ?_)
  · have h := h.1 hc22
    refine JT_aload_n (q := 0) dX1_tryFrom_13 rfl rfl ?_
    refine JS_callVV (M' := MX1_noteWay) (d' := 1) (As := []) (rest := []) dX1_tryFrom_14 cvX1_106 okX1_noteWay rfl (Nat.le_of_ble_eq_true rfl) BS_233 (Nat.le_of_ble_eq_true rfl) (Nat.le_of_ble_eq_true rfl) hci_1 (Nat.le_of_ble_eq_true rfl) (by show 1 + 1 ≤ e + 4; omega) h (fun s1 h => ?_)
    exact JS_vret dX1_tryFrom_17 rfl h
  · have h := h.2 hc22
    refine JT_iload_n (q := 1) dX1_tryFrom_8 rfl rfl ?_
    refine JT_iconst (v := 4) dX1_tryFrom_9 ic_4 ?_
    refine JT_icmp_lt (tgt := 18) dX1_tryFrom_10 (by decide) (fun hc21 => ?_) (fun hc21 => ?_)
    · have h := h.1 hc21
      refine JT_aload_n (q := 0) dX1_tryFrom_18 rfl rfl ?_
      obtain ⟨hr3, hL4, h⟩ := h
      refine JS_getR (x := (gDx s 2)) dX1_tryFrom_19 flX1_30 BS_233 (Nat.le_of_ble_eq_true rfl) (Nat.le_of_ble_eq_true rfl) (Or.inl ⟨_, ct_1_11⟩) (RF_233_11.trans hr3) ?_
      refine JS_getR (x := ((gDx s 2) + 1)) dX1_tryFrom_22 flX1_81 (lxB hL4) (lx2 hL4) (lxN hL4) (Or.inr ⟨_, ct_4_0⟩) (lxR0 hL4) ?_
      refine JT_aload_n (q := 0) dX1_tryFrom_25 rfl rfl ?_
      refine JS_getR (x := 234) dX1_tryFrom_26 flX1_9 BS_233 (Nat.le_of_ble_eq_true rfl) (Nat.le_of_ble_eq_true rfl) (Or.inr ⟨_, ct_1_0⟩) RF_233_0 ?_
      refine JT_iload_n (q := 1) dX1_tryFrom_29 rfl rfl ?_
      obtain ⟨o5, h⟩ := h
      refine JS_iald dX1_tryFrom_30 BS_234 (Nat.le_of_ble_eq_true rfl) (Nat.le_of_ble_eq_true rfl) o5 ?_
      obtain ⟨o6, h⟩ := h
      refine JS_iald dX1_tryFrom_31 (lxB1 hL4) (lx2k hL4 _) (lxNk hL4 (Nat.le_of_ble_eq_true rfl)) o6 ?_
      refine JT_istore_n (lv' := [(2, .int (gI s ((gDx s 2) + 1) ((gI s 234 (a1).toNatClampNeg)).toNatClampNeg)), (0, .ref 233), (1, .int a1)]) dX1_tryFrom_32 rfl (Nat.le_of_ble_eq_true rfl) rfl ?_
      refine JT_aload_n (q := 1) dX1_tryFrom_33 rfl rfl ?_
      obtain ⟨hr7, hL8, h⟩ := h
      refine JS_getR (x := (gDx s 2)) dX1_tryFrom_34 flX1_30 BS_233 (Nat.le_of_ble_eq_true rfl) (Nat.le_of_ble_eq_true rfl) (Or.inl ⟨_, ct_1_11⟩) (RF_233_11.trans hr7) ?_
      refine JS_getR (x := ((gDx s 2) + 2)) dX1_tryFrom_37 flX1_84 (lxB hL8) (lx2 hL8) (lxN hL8) (Or.inr ⟨_, ct_4_1⟩) (lxR1 hL8) ?_
      refine JT_aload_n (q := 1) dX1_tryFrom_40 rfl rfl ?_
      refine JS_getR (x := 234) dX1_tryFrom_41 flX1_9 BS_233 (Nat.le_of_ble_eq_true rfl) (Nat.le_of_ble_eq_true rfl) (Or.inr ⟨_, ct_1_0⟩) RF_233_0 ?_
      refine JT_iload_n (q := 2) dX1_tryFrom_44 rfl rfl ?_
      obtain ⟨o9, h⟩ := h
      refine JS_iald dX1_tryFrom_45 BS_234 (Nat.le_of_ble_eq_true rfl) (Nat.le_of_ble_eq_true rfl) o9 ?_
      obtain ⟨o10, h⟩ := h
      refine JS_iald dX1_tryFrom_46 (lxB2 hL8) (lx2k hL8 _) (lxNk hL8 (Nat.le_of_ble_eq_true rfl)) o10 ?_
      refine JT_istore_n (lv' := [(3, .int (gI s ((gDx s 2) + 2) ((gI s 234 (a1).toNatClampNeg)).toNatClampNeg)), (2, .int (gI s ((gDx s 2) + 1) ((gI s 234 (a1).toNatClampNeg)).toNatClampNeg)), (0, .ref 233), (1, .int a1)]) dX1_tryFrom_47 rfl (Nat.le_of_ble_eq_true rfl) rfl ?_
      refine JT_aload_n (q := 2) dX1_tryFrom_48 rfl rfl ?_
      obtain ⟨hr11, hL12, h⟩ := h
      refine JS_getR (x := (gDx s 2)) dX1_tryFrom_49 flX1_30 BS_233 (Nat.le_of_ble_eq_true rfl) (Nat.le_of_ble_eq_true rfl) (Or.inl ⟨_, ct_1_11⟩) (RF_233_11.trans hr11) ?_
      refine JS_getR (x := ((gDx s 2) + 4)) dX1_tryFrom_52 flX1_109 (lxB hL12) (lx2 hL12) (lxN hL12) (Or.inr ⟨_, ct_4_3⟩) (lxR3 hL12) ?_
      refine JT_aload_n (q := 2) dX1_tryFrom_55 rfl rfl ?_
      refine JS_getR (x := 234) dX1_tryFrom_56 flX1_9 BS_233 (Nat.le_of_ble_eq_true rfl) (Nat.le_of_ble_eq_true rfl) (Or.inr ⟨_, ct_1_0⟩) RF_233_0 ?_
      refine JT_iload_n (q := 3) dX1_tryFrom_59 rfl rfl ?_
      obtain ⟨o13, h⟩ := h
      refine JS_iald dX1_tryFrom_60 BS_234 (Nat.le_of_ble_eq_true rfl) (Nat.le_of_ble_eq_true rfl) o13 ?_
      obtain ⟨o14, h⟩ := h
      refine JS_iald dX1_tryFrom_61 (lxB4 hL12) (lx2k hL12 _) (lxNk hL12 (Nat.le_of_ble_eq_true rfl)) o14 ?_
      refine JT_istore (lv' := [(4, .int (gI s ((gDx s 2) + 4) ((gI s 234 (a1).toNatClampNeg)).toNatClampNeg)), (3, .int (gI s ((gDx s 2) + 2) ((gI s 234 (a1).toNatClampNeg)).toNatClampNeg)), (2, .int (gI s ((gDx s 2) + 1) ((gI s 234 (a1).toNatClampNeg)).toNatClampNeg)), (0, .ref 233), (1, .int a1)]) dX1_tryFrom_62 (Nat.le_of_ble_eq_true rfl) rfl ?_
      refine JT_iconst (v := 1) dX1_tryFrom_64 ic_1 ?_
      refine JT_istore (lv' := [(5, .int (1 : Int32)), (4, .int (gI s ((gDx s 2) + 4) ((gI s 234 (a1).toNatClampNeg)).toNatClampNeg)), (3, .int (gI s ((gDx s 2) + 2) ((gI s 234 (a1).toNatClampNeg)).toNatClampNeg)), (2, .int (gI s ((gDx s 2) + 1) ((gI s 234 (a1).toNatClampNeg)).toNatClampNeg)), (0, .ref 233), (1, .int a1)]) dX1_tryFrom_65 (Nat.le_of_ble_eq_true rfl) rfl ?_
      refine JT_aload_n (q := 4) dX1_tryFrom_67 rfl rfl ?_
      refine JS_getI dX1_tryFrom_68 flX1_93 BS_233 (Nat.le_of_ble_eq_true rfl) (Nat.le_of_ble_eq_true rfl) (Or.inl ct_1_8) ?_
      refine JT_istore (lv' := [(6, .int (gI s 233 8)), (5, .int (1 : Int32)), (4, .int (gI s ((gDx s 2) + 4) ((gI s 234 (a1).toNatClampNeg)).toNatClampNeg)), (3, .int (gI s ((gDx s 2) + 2) ((gI s 234 (a1).toNatClampNeg)).toNatClampNeg)), (2, .int (gI s ((gDx s 2) + 1) ((gI s 234 (a1).toNatClampNeg)).toNatClampNeg)), (0, .ref 233), (1, .int a1)]) dX1_tryFrom_71 (Nat.le_of_ble_eq_true rfl) rfl ?_
      refine JT_aload_n (q := 5) dX1_tryFrom_73 rfl rfl ?_
      refine JS_getR (x := 239) dX1_tryFrom_74 flX1_27 BS_233 (Nat.le_of_ble_eq_true rfl) (Nat.le_of_ble_eq_true rfl) (Or.inr ⟨_, ct_1_5⟩) RF_233_5 ?_
      refine JT_iload_n (q := 4) dX1_tryFrom_77 rfl rfl ?_
      obtain ⟨o15, h⟩ := h
      refine JS_iald dX1_tryFrom_78 BS_239 (Nat.le_of_ble_eq_true rfl) (Nat.le_of_ble_eq_true rfl) o15 ?_
      refine JT_iload_n (q := 6) dX1_tryFrom_79 rfl rfl ?_
      refine JT_icmp_eq (tgt := 93) dX1_tryFrom_80 (by decide) (fun hc18 => ?_) (fun hc18 => ?_)
      · have h := h.1 hc18
        exact JT_sub [5, 6, 4, 3, 2, 1, 0] rfl h
      · have h := h.2 hc18
        refine JT_aload_n (q := 5) dX1_tryFrom_83 rfl rfl ?_
        refine JS_getR (x := 239) dX1_tryFrom_84 flX1_27 BS_233 (Nat.le_of_ble_eq_true rfl) (Nat.le_of_ble_eq_true rfl) (Or.inr ⟨_, ct_1_5⟩) RF_233_5 ?_
        refine JT_iload_n (q := 3) dX1_tryFrom_87 rfl rfl ?_
        obtain ⟨o16, h⟩ := h
        refine JS_iald dX1_tryFrom_88 BS_239 (Nat.le_of_ble_eq_true rfl) (Nat.le_of_ble_eq_true rfl) o16 ?_
        refine JT_iload_n (q := 6) dX1_tryFrom_89 rfl rfl ?_
        refine JT_icmp_ne (tgt := 140) dX1_tryFrom_90 (by decide) (fun hc17 => ?_) (fun hc17 => ?_)
        · have h := h.1 hc17
          refine JT_iconst (v := 1) dX1_tryFrom_140 ic_1 ?_
          refine JT_iload (q := 1) dX1_tryFrom_141 rfl ?_
          refine JT_mmax (d2 := e + 3) dX1_tryFrom_143 mlX1_120 (Nat.le_of_ble_eq_true rfl) rfl ?_
          refine JT_istore (lv' := [(7, .int (if (1 : Int32) < (1 : Int32) then (1 : Int32) else (1 : Int32))), (6, .int (gI s 233 8)), (5, .int (1 : Int32)), (4, .int (gI s ((gDx s 2) + 4) ((gI s 234 (a1).toNatClampNeg)).toNatClampNeg)), (3, .int (gI s ((gDx s 2) + 2) ((gI s 234 (a1).toNatClampNeg)).toNatClampNeg)), (2, .int (gI s ((gDx s 2) + 1) ((gI s 234 (a1).toNatClampNeg)).toNatClampNeg)), (0, .ref 233), (1, .int a1)]) dX1_tryFrom_146 (Nat.le_of_ble_eq_true rfl) rfl ?_
          exact JT_sub [6, 7, 5, 4, 3, 2, 1, 0] rfl h
        · have h := h.2 hc17
          exact JT_sub [5, 6, 4, 3, 2, 1, 0] rfl h
    · have h := h.2 hc21
      refine JT_aload_n (q := 0) dX1_tryFrom_13 rfl rfl ?_
      refine JS_callVV (M' := MX1_noteWay) (d' := 1) (As := []) (rest := []) dX1_tryFrom_14 cvX1_106 okX1_noteWay rfl (Nat.le_of_ble_eq_true rfl) BS_233 (Nat.le_of_ble_eq_true rfl) (Nat.le_of_ble_eq_true rfl) hci_1 (Nat.le_of_ble_eq_true rfl) (by show 1 + 1 ≤ e + 4; omega) h (fun s19 h => ?_)
      exact JS_vret dX1_tryFrom_17 rfl h
set_option maxRecDepth 1000000 in
theorem bX7_extend_35 {e : Nat} (a1 : Int32) (a2 : Int32) (a3 : Int32) (a4 : Int32) (a5 : Int32) (a6 : Int32) {s : SM} {Q : SM → Prop} (h : vp_in a2 9 ∧ (((gI s 224 (a2).toNatClampNeg) ≤ a6 → Q s) ∧ (¬ (gI s 224 (a2).toNatClampNeg) ≤ a6 → vp_in a6 60 ∧ gD s 0 = some (gDx s 0) ∧ ((gDx s 0), rfx (gDx s 0) 8) ∈ LX ∧ vp_in (gI s 222 (a6).toNatClampNeg) 60 ∧ gD s 0 = some (gDx s 0) ∧ ((gDx s 0), rfx (gDx s 0) 8) ∈ LX ∧ vp_in (gI s 222 (a6).toNatClampNeg) 60 ∧ ((a3 ≤ (gI s ((gDx s 0) + 3) ((gI s 222 (a6).toNatClampNeg)).toNatClampNeg) → ((¬ (gI s ((gDx s 0) + 3) ((gI s 222 (a6).toNatClampNeg)).toNatClampNeg) = a3 → vp_in a1 5 ∧ ((¬ (gI s ((gDx s 0) + 2) ((gI s 222 (a6).toNatClampNeg)).toNatClampNeg) = (gI (pI s 220 (a1).toNatClampNeg (gI s 222 (a6).toNatClampNeg)) 218 11) → KI MX11_isIn 0 [.int (gI s ((gDx s 0) + 2) ((gI s 222 (a6).toNatClampNeg)).toNatClampNeg), .int a5] (pI s 220 (a1).toNatClampNeg (gI s 222 (a6).toNatClampNeg)) (fun x11 s10 => ((¬ x11 = 0 → BV MX7_extend (e + 4) 35 [(0, .ref 218), (1, .int a1), (2, .int a2), (3, .int a3), (4, .int a4), (5, .int a5), (6, .int (a6 + 1))] s10 Q) ∧ (x11 = 0 → KV MX7_extend (e + 3) [.ref 218, .int (a1 + (1 : Int32)), .int (gI s ((gDx s 0) + 2) ((gI s 222 (a6).toNatClampNeg)).toNatClampNeg), .int (if a3 < (gI s ((gDx s 0) + 3) ((gI s 222 (a6).toNatClampNeg)).toNatClampNeg) then a3 else (gI s ((gDx s 0) + 3) ((gI s 222 (a6).toNatClampNeg)).toNatClampNeg)), .int a4, .int (a5 ||| ((1 : Int32) <<< ((gI s ((gDx s 0) + 2) ((gI s 222 (a6).toNatClampNeg)).toNatClampNeg) &&& 31)))] s10 (fun s12 => BV MX7_extend (e + 4) 35 [(0, .ref 218), (1, .int a1), (2, .int a2), (3, .int a3), (4, .int a4), (5, .int a5), (6, .int (a6 + 1))] s12 Q))))) ∧ ((gI s ((gDx s 0) + 2) ((gI s 222 (a6).toNatClampNeg)).toNatClampNeg) = (gI (pI s 220 (a1).toNatClampNeg (gI s 222 (a6).toNatClampNeg)) 218 11) → KV MX7_offer 1 [.ref 218, .int (a1 + (1 : Int32)), .int (if a3 < (gI s ((gDx s 0) + 3) ((gI s 222 (a6).toNatClampNeg)).toNatClampNeg) then a3 else (gI s ((gDx s 0) + 3) ((gI s 222 (a6).toNatClampNeg)).toNatClampNeg)), .int a4] (pI s 220 (a1).toNatClampNeg (gI s 222 (a6).toNatClampNeg)) (fun s15 => BV MX7_extend (e + 4) 35 [(0, .ref 218), (1, .int a1), (2, .int a2), (3, .int a3), (4, .int a4), (5, .int a5), (6, .int (a6 + 1))] s15 Q)))) ∧ ((gI s ((gDx s 0) + 3) ((gI s 222 (a6).toNatClampNeg)).toNatClampNeg) = a3 → vp_in (gI s 222 (a6).toNatClampNeg) 60 ∧ vp_in a1 5 ∧ ((¬ (gI s ((gDx s 0) + 2) ((gI s 222 (a6).toNatClampNeg)).toNatClampNeg) = (gI (pI s 220 (a1).toNatClampNeg (gI s 222 (a6).toNatClampNeg)) 218 11) → KI MX11_isIn 0 [.int (gI s ((gDx s 0) + 2) ((gI s 222 (a6).toNatClampNeg)).toNatClampNeg), .int a5] (pI s 220 (a1).toNatClampNeg (gI s 222 (a6).toNatClampNeg)) (fun x21 s20 => ((¬ x21 = 0 → BV MX7_extend (e + 4) 35 [(0, .ref 218), (1, .int a1), (2, .int a2), (3, .int a3), (4, .int a4), (5, .int a5), (6, .int (a6 + 1))] s20 Q) ∧ (x21 = 0 → KV MX7_extend (e + 3) [.ref 218, .int (a1 + (1 : Int32)), .int (gI s ((gDx s 0) + 2) ((gI s 222 (a6).toNatClampNeg)).toNatClampNeg), .int (if a3 < (gI s ((gDx s 0) + 3) ((gI s 222 (a6).toNatClampNeg)).toNatClampNeg) then a3 else (gI s ((gDx s 0) + 3) ((gI s 222 (a6).toNatClampNeg)).toNatClampNeg)), .int (a4 + (gI s 221 ((gI s 222 (a6).toNatClampNeg)).toNatClampNeg)), .int (a5 ||| ((1 : Int32) <<< ((gI s ((gDx s 0) + 2) ((gI s 222 (a6).toNatClampNeg)).toNatClampNeg) &&& 31)))] s20 (fun s22 => BV MX7_extend (e + 4) 35 [(0, .ref 218), (1, .int a1), (2, .int a2), (3, .int a3), (4, .int a4), (5, .int a5), (6, .int (a6 + 1))] s22 Q))))) ∧ ((gI s ((gDx s 0) + 2) ((gI s 222 (a6).toNatClampNeg)).toNatClampNeg) = (gI (pI s 220 (a1).toNatClampNeg (gI s 222 (a6).toNatClampNeg)) 218 11) → KV MX7_offer 1 [.ref 218, .int (a1 + (1 : Int32)), .int (if a3 < (gI s ((gDx s 0) + 3) ((gI s 222 (a6).toNatClampNeg)).toNatClampNeg) then a3 else (gI s ((gDx s 0) + 3) ((gI s 222 (a6).toNatClampNeg)).toNatClampNeg)), .int (a4 + (gI s 221 ((gI s 222 (a6).toNatClampNeg)).toNatClampNeg))] (pI s 220 (a1).toNatClampNeg (gI s 222 (a6).toNatClampNeg)) (fun s25 => BV MX7_extend (e + 4) 35 [(0, .ref 218), (1, .int a1), (2, .int a2), (3, .int a3), (4, .int a4), (5, .int a5), (6, .int (a6 + 1))] s25 Q)))))) ∧ (¬ a3 ≤ (gI s ((gDx s 0) + 3) ((gI s 222 (a6).toNatClampNeg)).toNatClampNeg) → vp_in (gI s 222 (a6).toNatClampNeg) 60 ∧ vp_in a1 5 ∧ ((¬ (gI s ((gDx s 0) + 2) ((gI s 222 (a6).toNatClampNeg)).toNatClampNeg) = (gI (pI s 220 (a1).toNatClampNeg (gI s 222 (a6).toNatClampNeg)) 218 11) → KI MX11_isIn 0 [.int (gI s ((gDx s 0) + 2) ((gI s 222 (a6).toNatClampNeg)).toNatClampNeg), .int a5] (pI s 220 (a1).toNatClampNeg (gI s 222 (a6).toNatClampNeg)) (fun x32 s31 => ((¬ x32 = 0 → BV MX7_extend (e + 4) 35 [(0, .ref 218), (1, .int a1), (2, .int a2), (3, .int a3), (4, .int a4), (5, .int a5), (6, .int (a6 + 1))] s31 Q) ∧ (x32 = 0 → KV MX7_extend (e + 3) [.ref 218, .int (a1 + (1 : Int32)), .int (gI s ((gDx s 0) + 2) ((gI s 222 (a6).toNatClampNeg)).toNatClampNeg), .int (if a3 < (gI s ((gDx s 0) + 3) ((gI s 222 (a6).toNatClampNeg)).toNatClampNeg) then a3 else (gI s ((gDx s 0) + 3) ((gI s 222 (a6).toNatClampNeg)).toNatClampNeg)), .int (gI s 221 ((gI s 222 (a6).toNatClampNeg)).toNatClampNeg), .int (a5 ||| ((1 : Int32) <<< ((gI s ((gDx s 0) + 2) ((gI s 222 (a6).toNatClampNeg)).toNatClampNeg) &&& 31)))] s31 (fun s33 => BV MX7_extend (e + 4) 35 [(0, .ref 218), (1, .int a1), (2, .int a2), (3, .int a3), (4, .int a4), (5, .int a5), (6, .int (a6 + 1))] s33 Q))))) ∧ ((gI s ((gDx s 0) + 2) ((gI s 222 (a6).toNatClampNeg)).toNatClampNeg) = (gI (pI s 220 (a1).toNatClampNeg (gI s 222 (a6).toNatClampNeg)) 218 11) → KV MX7_offer 1 [.ref 218, .int (a1 + (1 : Int32)), .int (if a3 < (gI s ((gDx s 0) + 3) ((gI s 222 (a6).toNatClampNeg)).toNatClampNeg) then a3 else (gI s ((gDx s 0) + 3) ((gI s 222 (a6).toNatClampNeg)).toNatClampNeg)), .int (gI s 221 ((gI s 222 (a6).toNatClampNeg)).toNatClampNeg)] (pI s 220 (a1).toNatClampNeg (gI s 222 (a6).toNatClampNeg)) (fun s36 => BV MX7_extend (e + 4) 35 [(0, .ref 218), (1, .int a1), (2, .int a2), (3, .int a3), (4, .int a4), (5, .int a5), (6, .int (a6 + 1))] s36 Q)))))))) : BV MX7_extend (e + 4) 35 [(0, .ref 218), (1, .int a1), (2, .int a2), (3, .int a3), (4, .int a4), (5, .int a5), (6, .int a6)] s Q := by
  refine JT_iload (q := 6) dX7_extend_35 rfl ?_
  refine JT_aload_n (q := 0) dX7_extend_37 rfl rfl ?_
  refine JS_getR (x := 224) dX7_extend_38 flX7_27 BS_218 (Nat.le_of_ble_eq_true rfl) (Nat.le_of_ble_eq_true rfl) (Or.inr ⟨_, ct_7_10⟩) RF_218_10 ?_
  refine JT_iload_n (q := 2) dX7_extend_41 rfl rfl ?_
  obtain ⟨o1, h⟩ := h
  refine JS_iald dX7_extend_42 BS_224 (Nat.le_of_ble_eq_true rfl) (Nat.le_of_ble_eq_true rfl) o1 ?_
  refine JT_icmp_ge (tgt := 193) dX7_extend_43 (by decide) (fun hc40 => ?_) (fun hc40 => ?_)
  · have h := h.1 hc40
    exact JS_vret dX7_extend_193 rfl h
  · have h := h.2 hc40
    refine JT_aload_n (q := 0) dX7_extend_46 rfl rfl ?_
    refine JS_getR (x := 222) dX7_extend_47 flX7_21 BS_218 (Nat.le_of_ble_eq_true rfl) (Nat.le_of_ble_eq_true rfl) (Or.inr ⟨_, ct_7_8⟩) RF_218_8 ?_
    refine JT_iload (q := 6) dX7_extend_50 rfl ?_
    obtain ⟨o2, h⟩ := h
    refine JS_iald dX7_extend_52 BS_222 (Nat.le_of_ble_eq_true rfl) (Nat.le_of_ble_eq_true rfl) o2 ?_
    refine JT_istore (lv' := [(7, .int (gI s 222 (a6).toNatClampNeg)), (0, .ref 218), (1, .int a1), (2, .int a2), (3, .int a3), (4, .int a4), (5, .int a5), (6, .int a6)]) dX7_extend_53 (Nat.le_of_ble_eq_true rfl) rfl ?_
    refine JT_aload_n (q := 1) dX7_extend_55 rfl rfl ?_
    obtain ⟨hr3, hL4, h⟩ := h
    refine JS_getR (x := (gDx s 0)) dX7_extend_56 flX7_40 BS_218 (Nat.le_of_ble_eq_true rfl) (Nat.le_of_ble_eq_true rfl) (Or.inl ⟨_, ct_7_4⟩) (RF_218_4.trans hr3) ?_
    refine JS_getR (x := ((gDx s 0) + 2)) dX7_extend_59 flX7_101 (lxB hL4) (lx2 hL4) (lxN hL4) (Or.inr ⟨_, ct_4_1⟩) (lxR1 hL4) ?_
    refine JT_iload (q := 0) dX7_extend_62 rfl ?_
    obtain ⟨o5, h⟩ := h
    refine JS_iald dX7_extend_64 (lxB2 hL4) (lx2k hL4 _) (lxNk hL4 (Nat.le_of_ble_eq_true rfl)) o5 ?_
    refine JT_istore (lv' := [(8, .int (gI s ((gDx s 0) + 2) ((gI s 222 (a6).toNatClampNeg)).toNatClampNeg)), (7, .int (gI s 222 (a6).toNatClampNeg)), (0, .ref 218), (1, .int a1), (2, .int a2), (3, .int a3), (4, .int a4), (5, .int a5), (6, .int a6)]) dX7_extend_65 (Nat.le_of_ble_eq_true rfl) rfl ?_
    refine JT_aload_n (q := 2) dX7_extend_67 rfl rfl ?_
    obtain ⟨hr6, hL7, h⟩ := h
    refine JS_getR (x := (gDx s 0)) dX7_extend_68 flX7_40 BS_218 (Nat.le_of_ble_eq_true rfl) (Nat.le_of_ble_eq_true rfl) (Or.inl ⟨_, ct_7_4⟩) (RF_218_4.trans hr6) ?_
    refine JS_getR (x := ((gDx s 0) + 3)) dX7_extend_71 flX7_104 (lxB hL7) (lx2 hL7) (lxN hL7) (Or.inr ⟨_, ct_4_2⟩) (lxR2 hL7) ?_
    refine JT_iload (q := 1) dX7_extend_74 rfl ?_
    obtain ⟨o8, h⟩ := h
    refine JS_iald dX7_extend_76 (lxB3 hL7) (lx2k hL7 _) (lxNk hL7 (Nat.le_of_ble_eq_true rfl)) o8 ?_
    refine JT_istore (lv' := [(9, .int (gI s ((gDx s 0) + 3) ((gI s 222 (a6).toNatClampNeg)).toNatClampNeg)), (8, .int (gI s ((gDx s 0) + 2) ((gI s 222 (a6).toNatClampNeg)).toNatClampNeg)), (7, .int (gI s 222 (a6).toNatClampNeg)), (0, .ref 218), (1, .int a1), (2, .int a2), (3, .int a3), (4, .int a4), (5, .int a5), (6, .int a6)]) dX7_extend_77 (Nat.le_of_ble_eq_true rfl) rfl ?_
    refine JT_iload (q := 0) dX7_extend_79 rfl ?_
    refine JT_iload_n (q := 6) dX7_extend_81 rfl rfl ?_
    refine JT_icmp_ge (tgt := 95) dX7_extend_82 (by decide) (fun hc39 => ?_) (fun hc39 => ?_)
    · have h := h.1 hc39
      refine JT_iload (q := 0) dX7_extend_95 rfl ?_
      refine JT_iload_n (q := 6) dX7_extend_97 rfl rfl ?_
      refine JT_icmp_ne (tgt := 114) dX7_extend_98 (by decide) (fun hc28 => ?_) (fun hc28 => ?_)
      · have h := h.1 hc28
        refine JT_iload (q := 7) dX7_extend_114 rfl ?_
        refine JT_istore (lv' := [(10, .int a4), (9, .int (gI s ((gDx s 0) + 3) ((gI s 222 (a6).toNatClampNeg)).toNatClampNeg)), (8, .int (gI s ((gDx s 0) + 2) ((gI s 222 (a6).toNatClampNeg)).toNatClampNeg)), (7, .int (gI s 222 (a6).toNatClampNeg)), (0, .ref 218), (1, .int a1), (2, .int a2), (3, .int a3), (4, .int a4), (5, .int a5), (6, .int a6)]) dX7_extend_116 (Nat.le_of_ble_eq_true rfl) rfl ?_
        refine JT_aload_n (q := 4) dX7_extend_118 rfl rfl ?_
        refine JS_getR (x := 220) dX7_extend_119 flX7_15 BS_218 (Nat.le_of_ble_eq_true rfl) (Nat.le_of_ble_eq_true rfl) (Or.inr ⟨_, ct_7_5⟩) RF_218_5 ?_
        refine JT_iload_n (q := 5) dX7_extend_122 rfl rfl ?_
        refine JT_iload (q := 3) dX7_extend_123 rfl ?_
        obtain ⟨o9, h⟩ := h
        refine JS_iast dX7_extend_125 BS_220 (Nat.le_of_ble_eq_true rfl) (Nat.le_of_ble_eq_true rfl) o9 ?_
        refine JT_iload (q := 2) dX7_extend_126 rfl ?_
        refine JT_aload_n (q := 4) dX7_extend_128 rfl rfl ?_
        refine JS_getI dX7_extend_129 flX7_98 BS_218 (Nat.le_of_ble_eq_true rfl) (Nat.le_of_ble_eq_true rfl) (Or.inl ct_7_11) ?_
        refine JT_icmp_ne (tgt := 153) dX7_extend_132 (by decide) (fun hc17 => ?_) (fun hc17 => ?_)
        · have h := h.1 hc17
          refine JT_iload (q := 2) dX7_extend_153 rfl ?_
          refine JT_iload (q := 9) dX7_extend_155 rfl ?_
          refine JS_callSNI (M' := MX11_isIn) (d' := 0) (As := [.int (gI s ((gDx s 0) + 2) ((gI s 222 (a6).toNatClampNeg)).toNatClampNeg), .int a5]) (rest := []) dX7_extend_157 cvX7_122 okX11_isIn rfl (Nat.le_of_ble_eq_true rfl) (Nat.le_of_ble_eq_true rfl) (by show 0 + 1 ≤ e + 4; omega) h (fun x11 s10 h => ?_)
          refine JT_if_ne (tgt := 187) dX7_extend_160 (by decide) (fun hc14 => ?_) (fun hc14 => ?_)
          · have h := h.1 hc14
            refine JT_iinc (q := 10) (v := (a6 + 1)) (lv' := [(6, .int (a6 + 1)), (10, .int a4), (9, .int (gI s ((gDx s 0) + 3) ((gI s 222 (a6).toNatClampNeg)).toNatClampNeg)), (8, .int (gI s ((gDx s 0) + 2) ((gI s 222 (a6).toNatClampNeg)).toNatClampNeg)), (7, .int (gI s 222 (a6).toNatClampNeg)), (0, .ref 218), (1, .int a1), (2, .int a2), (3, .int a3), (4, .int a4), (5, .int a5)]) dX7_extend_187 rfl (by rfl) (Nat.le_of_ble_eq_true rfl) rfl ?_
            refine JT_goto (tgt := 35) dX7_extend_190 (by decide) ?_
            exact JT_sub [5, 6, 7, 8, 9, 10, 0] rfl h
          · have h := h.2 hc14
            refine JT_aload_n (q := 4) dX7_extend_163 rfl rfl ?_
            refine JT_iload_n (q := 5) dX7_extend_164 rfl rfl ?_
            refine JT_iconst (v := 1) dX7_extend_165 ic_1 ?_
            refine JT_iadd dX7_extend_166 ?_
            refine JT_iload (q := 2) dX7_extend_167 rfl ?_
            refine JT_iload (q := 1) dX7_extend_169 rfl ?_
            refine JT_iload_n (q := 7) dX7_extend_171 rfl rfl ?_
            refine JT_mmin (d2 := e + 3) dX7_extend_172 mlX7_115 (Nat.le_of_ble_eq_true rfl) rfl ?_
            refine JT_iload (q := 0) dX7_extend_175 rfl ?_
            refine JT_iload (q := 9) dX7_extend_177 rfl ?_
            refine JT_iconst (v := 1) dX7_extend_179 ic_1 ?_
            refine JT_iload (q := 2) dX7_extend_180 rfl ?_
            refine JT_ishl dX7_extend_182 ?_
            refine JT_ior dX7_extend_183 ?_
            refine JS_callVV (M' := MX7_extend) (d' := e + 3) (As := [.int (a1 + (1 : Int32)), .int (gI s ((gDx s 0) + 2) ((gI s 222 (a6).toNatClampNeg)).toNatClampNeg), .int (if a3 < (gI s ((gDx s 0) + 3) ((gI s 222 (a6).toNatClampNeg)).toNatClampNeg) then a3 else (gI s ((gDx s 0) + 3) ((gI s 222 (a6).toNatClampNeg)).toNatClampNeg)), .int a4, .int (a5 ||| ((1 : Int32) <<< ((gI s ((gDx s 0) + 2) ((gI s 222 (a6).toNatClampNeg)).toNatClampNeg) &&& 31)))]) (rest := []) dX7_extend_184 cvX7_107 okX7_extend rfl (Nat.le_of_ble_eq_true rfl) BS_218 (Nat.le_of_ble_eq_true rfl) (Nat.le_of_ble_eq_true rfl) hci_7 (Nat.le_of_ble_eq_true rfl) (by show e + 3 + 1 ≤ e + 4; omega) h (fun s12 h => ?_)
            refine JT_iinc (q := 10) (v := (a6 + 1)) (lv' := [(6, .int (a6 + 1)), (10, .int a4), (9, .int (gI s ((gDx s 0) + 3) ((gI s 222 (a6).toNatClampNeg)).toNatClampNeg)), (8, .int (gI s ((gDx s 0) + 2) ((gI s 222 (a6).toNatClampNeg)).toNatClampNeg)), (7, .int (gI s 222 (a6).toNatClampNeg)), (0, .ref 218), (1, .int a1), (2, .int a2), (3, .int a3), (4, .int a4), (5, .int a5)]) dX7_extend_187 rfl (by rfl) (Nat.le_of_ble_eq_true rfl) rfl ?_
            refine JT_goto (tgt := 35) dX7_extend_190 (by decide) ?_
            exact JT_sub [5, 6, 7, 8, 9, 10, 0] rfl h
        · have h := h.2 hc17
          refine JT_aload_n (q := 4) dX7_extend_135 rfl rfl ?_
          refine JT_iload_n (q := 5) dX7_extend_136 rfl rfl ?_
          refine JT_iconst (v := 1) dX7_extend_137 ic_1 ?_
          refine JT_iadd dX7_extend_138 ?_
          refine JT_iload (q := 1) dX7_extend_139 rfl ?_
          refine JT_iload_n (q := 7) dX7_extend_141 rfl rfl ?_
          refine JT_mmin (d2 := e + 3) dX7_extend_142 mlX7_115 (Nat.le_of_ble_eq_true rfl) rfl ?_
          refine JT_iload (q := 0) dX7_extend_145 rfl ?_
          refine JS_callVV (M' := MX7_offer) (d' := 1) (As := [.int (a1 + (1 : Int32)), .int (if a3 < (gI s ((gDx s 0) + 3) ((gI s 222 (a6).toNatClampNeg)).toNatClampNeg) then a3 else (gI s ((gDx s 0) + 3) ((gI s 222 (a6).toNatClampNeg)).toNatClampNeg)), .int a4]) (rest := []) dX7_extend_147 cvX7_118 okX7_offer rfl (Nat.le_of_ble_eq_true rfl) BS_218 (Nat.le_of_ble_eq_true rfl) (Nat.le_of_ble_eq_true rfl) hci_7 (Nat.le_of_ble_eq_true rfl) (by show 1 + 1 ≤ e + 4; omega) h (fun s15 h => ?_)
          refine JT_goto (tgt := 187) dX7_extend_150 (by decide) ?_
          refine JT_iinc (q := 10) (v := (a6 + 1)) (lv' := [(6, .int (a6 + 1)), (10, .int a4), (9, .int (gI s ((gDx s 0) + 3) ((gI s 222 (a6).toNatClampNeg)).toNatClampNeg)), (8, .int (gI s ((gDx s 0) + 2) ((gI s 222 (a6).toNatClampNeg)).toNatClampNeg)), (7, .int (gI s 222 (a6).toNatClampNeg)), (0, .ref 218), (1, .int a1), (2, .int a2), (3, .int a3), (4, .int a4), (5, .int a5)]) dX7_extend_187 rfl (by rfl) (Nat.le_of_ble_eq_true rfl) rfl ?_
          refine JT_goto (tgt := 35) dX7_extend_190 (by decide) ?_
          exact JT_sub [5, 6, 7, 8, 9, 10, 0] rfl h
      · have h := h.2 hc28
        refine JT_iload (q := 7) dX7_extend_101 rfl ?_
        refine JT_aload_n (q := 3) dX7_extend_103 rfl rfl ?_
        refine JS_getR (x := 221) dX7_extend_104 flX7_18 BS_218 (Nat.le_of_ble_eq_true rfl) (Nat.le_of_ble_eq_true rfl) (Or.inr ⟨_, ct_7_6⟩) RF_218_6 ?_
        refine JT_iload (q := 2) dX7_extend_107 rfl ?_
        obtain ⟨o18, h⟩ := h
        refine JS_iald dX7_extend_109 BS_221 (Nat.le_of_ble_eq_true rfl) (Nat.le_of_ble_eq_true rfl) o18 ?_
        refine JT_iadd dX7_extend_110 ?_
        refine JT_goto (tgt := 116) dX7_extend_111 (by decide) ?_
        refine JT_istore (lv' := [(10, .int (a4 + (gI s 221 ((gI s 222 (a6).toNatClampNeg)).toNatClampNeg))), (9, .int (gI s ((gDx s 0) + 3) ((gI s 222 (a6).toNatClampNeg)).toNatClampNeg)), (8, .int (gI s ((gDx s 0) + 2) ((gI s 222 (a6).toNatClampNeg)).toNatClampNeg)), (7, .int (gI s 222 (a6).toNatClampNeg)), (0, .ref 218), (1, .int a1), (2, .int a2), (3, .int a3), (4, .int a4), (5, .int a5), (6, .int a6)]) dX7_extend_116 (Nat.le_of_ble_eq_true rfl) rfl ?_
        refine JT_aload_n (q := 4) dX7_extend_118 rfl rfl ?_
        refine JS_getR (x := 220) dX7_extend_119 flX7_15 BS_218 (Nat.le_of_ble_eq_true rfl) (Nat.le_of_ble_eq_true rfl) (Or.inr ⟨_, ct_7_5⟩) RF_218_5 ?_
        refine JT_iload_n (q := 5) dX7_extend_122 rfl rfl ?_
        refine JT_iload (q := 3) dX7_extend_123 rfl ?_
        obtain ⟨o19, h⟩ := h
        refine JS_iast dX7_extend_125 BS_220 (Nat.le_of_ble_eq_true rfl) (Nat.le_of_ble_eq_true rfl) o19 ?_
        refine JT_iload (q := 2) dX7_extend_126 rfl ?_
        refine JT_aload_n (q := 4) dX7_extend_128 rfl rfl ?_
        refine JS_getI dX7_extend_129 flX7_98 BS_218 (Nat.le_of_ble_eq_true rfl) (Nat.le_of_ble_eq_true rfl) (Or.inl ct_7_11) ?_
        refine JT_icmp_ne (tgt := 153) dX7_extend_132 (by decide) (fun hc27 => ?_) (fun hc27 => ?_)
        · have h := h.1 hc27
          refine JT_iload (q := 2) dX7_extend_153 rfl ?_
          refine JT_iload (q := 9) dX7_extend_155 rfl ?_
          refine JS_callSNI (M' := MX11_isIn) (d' := 0) (As := [.int (gI s ((gDx s 0) + 2) ((gI s 222 (a6).toNatClampNeg)).toNatClampNeg), .int a5]) (rest := []) dX7_extend_157 cvX7_122 okX11_isIn rfl (Nat.le_of_ble_eq_true rfl) (Nat.le_of_ble_eq_true rfl) (by show 0 + 1 ≤ e + 4; omega) h (fun x21 s20 h => ?_)
          refine JT_if_ne (tgt := 187) dX7_extend_160 (by decide) (fun hc24 => ?_) (fun hc24 => ?_)
          · have h := h.1 hc24
            refine JT_iinc (q := 10) (v := (a6 + 1)) (lv' := [(6, .int (a6 + 1)), (10, .int (a4 + (gI s 221 ((gI s 222 (a6).toNatClampNeg)).toNatClampNeg))), (9, .int (gI s ((gDx s 0) + 3) ((gI s 222 (a6).toNatClampNeg)).toNatClampNeg)), (8, .int (gI s ((gDx s 0) + 2) ((gI s 222 (a6).toNatClampNeg)).toNatClampNeg)), (7, .int (gI s 222 (a6).toNatClampNeg)), (0, .ref 218), (1, .int a1), (2, .int a2), (3, .int a3), (4, .int a4), (5, .int a5)]) dX7_extend_187 rfl (by rfl) (Nat.le_of_ble_eq_true rfl) rfl ?_
            refine JT_goto (tgt := 35) dX7_extend_190 (by decide) ?_
            exact JT_sub [5, 6, 7, 8, 9, 10, 0] rfl h
          · have h := h.2 hc24
            refine JT_aload_n (q := 4) dX7_extend_163 rfl rfl ?_
            refine JT_iload_n (q := 5) dX7_extend_164 rfl rfl ?_
            refine JT_iconst (v := 1) dX7_extend_165 ic_1 ?_
            refine JT_iadd dX7_extend_166 ?_
            refine JT_iload (q := 2) dX7_extend_167 rfl ?_
            refine JT_iload (q := 1) dX7_extend_169 rfl ?_
            refine JT_iload_n (q := 7) dX7_extend_171 rfl rfl ?_
            refine JT_mmin (d2 := e + 3) dX7_extend_172 mlX7_115 (Nat.le_of_ble_eq_true rfl) rfl ?_
            refine JT_iload (q := 0) dX7_extend_175 rfl ?_
            refine JT_iload (q := 9) dX7_extend_177 rfl ?_
            refine JT_iconst (v := 1) dX7_extend_179 ic_1 ?_
            refine JT_iload (q := 2) dX7_extend_180 rfl ?_
            refine JT_ishl dX7_extend_182 ?_
            refine JT_ior dX7_extend_183 ?_
            refine JS_callVV (M' := MX7_extend) (d' := e + 3) (As := [.int (a1 + (1 : Int32)), .int (gI s ((gDx s 0) + 2) ((gI s 222 (a6).toNatClampNeg)).toNatClampNeg), .int (if a3 < (gI s ((gDx s 0) + 3) ((gI s 222 (a6).toNatClampNeg)).toNatClampNeg) then a3 else (gI s ((gDx s 0) + 3) ((gI s 222 (a6).toNatClampNeg)).toNatClampNeg)), .int (a4 + (gI s 221 ((gI s 222 (a6).toNatClampNeg)).toNatClampNeg)), .int (a5 ||| ((1 : Int32) <<< ((gI s ((gDx s 0) + 2) ((gI s 222 (a6).toNatClampNeg)).toNatClampNeg) &&& 31)))]) (rest := []) dX7_extend_184 cvX7_107 okX7_extend rfl (Nat.le_of_ble_eq_true rfl) BS_218 (Nat.le_of_ble_eq_true rfl) (Nat.le_of_ble_eq_true rfl) hci_7 (Nat.le_of_ble_eq_true rfl) (by show e + 3 + 1 ≤ e + 4; omega) h (fun s22 h => ?_)
            refine JT_iinc (q := 10) (v := (a6 + 1)) (lv' := [(6, .int (a6 + 1)), (10, .int (a4 + (gI s 221 ((gI s 222 (a6).toNatClampNeg)).toNatClampNeg))), (9, .int (gI s ((gDx s 0) + 3) ((gI s 222 (a6).toNatClampNeg)).toNatClampNeg)), (8, .int (gI s ((gDx s 0) + 2) ((gI s 222 (a6).toNatClampNeg)).toNatClampNeg)), (7, .int (gI s 222 (a6).toNatClampNeg)), (0, .ref 218), (1, .int a1), (2, .int a2), (3, .int a3), (4, .int a4), (5, .int a5)]) dX7_extend_187 rfl (by rfl) (Nat.le_of_ble_eq_true rfl) rfl ?_
            refine JT_goto (tgt := 35) dX7_extend_190 (by decide) ?_
            exact JT_sub [5, 6, 7, 8, 9, 10, 0] rfl h
        · have h := h.2 hc27
          refine JT_aload_n (q := 4) dX7_extend_135 rfl rfl ?_
          refine JT_iload_n (q := 5) dX7_extend_136 rfl rfl ?_
          refine JT_iconst (v := 1) dX7_extend_137 ic_1 ?_
          refine JT_iadd dX7_extend_138 ?_
          refine JT_iload (q := 1) dX7_extend_139 rfl ?_
          refine JT_iload_n (q := 7) dX7_extend_141 rfl rfl ?_
          refine JT_mmin (d2 := e + 3) dX7_extend_142 mlX7_115 (Nat.le_of_ble_eq_true rfl) rfl ?_
          refine JT_iload (q := 0) dX7_extend_145 rfl ?_
          refine JS_callVV (M' := MX7_offer) (d' := 1) (As := [.int (a1 + (1 : Int32)), .int (if a3 < (gI s ((gDx s 0) + 3) ((gI s 222 (a6).toNatClampNeg)).toNatClampNeg) then a3 else (gI s ((gDx s 0) + 3) ((gI s 222 (a6).toNatClampNeg)).toNatClampNeg)), .int (a4 + (gI s 221 ((gI s 222 (a6).toNatClampNeg)).toNatClampNeg))]) (rest := []) dX7_extend_147 cvX7_118 okX7_offer rfl (Nat.le_of_ble_eq_true rfl) BS_218 (Nat.le_of_ble_eq_true rfl) (Nat.le_of_ble_eq_true rfl) hci_7 (Nat.le_of_ble_eq_true rfl) (by show 1 + 1 ≤ e + 4; omega) h (fun s25 h => ?_)
          refine JT_goto (tgt := 187) dX7_extend_150 (by decide) ?_
          refine JT_iinc (q := 10) (v := (a6 + 1)) (lv' := [(6, .int (a6 + 1)), (10, .int (a4 + (gI s 221 ((gI s 222 (a6).toNatClampNeg)).toNatClampNeg))), (9, .int (gI s ((gDx s 0) + 3) ((gI s 222 (a6).toNatClampNeg)).toNatClampNeg)), (8, .int (gI s ((gDx s 0) + 2) ((gI s 222 (a6).toNatClampNeg)).toNatClampNeg)), (7, .int (gI s 222 (a6).toNatClampNeg)), (0, .ref 218), (1, .int a1), (2, .int a2), (3, .int a3), (4, .int a4), (5, .int a5)]) dX7_extend_187 rfl (by rfl) (Nat.le_of_ble_eq_true rfl) rfl ?_
          refine JT_goto (tgt := 35) dX7_extend_190 (by decide) ?_
          exact JT_sub [5, 6, 7, 8, 9, 10, 0] rfl h
    · have h := h.2 hc39
      refine JT_aload_n (q := 3) dX7_extend_85 rfl rfl ?_
      refine JS_getR (x := 221) dX7_extend_86 flX7_18 BS_218 (Nat.le_of_ble_eq_true rfl) (Nat.le_of_ble_eq_true rfl) (Or.inr ⟨_, ct_7_6⟩) RF_218_6 ?_
      refine JT_iload (q := 2) dX7_extend_89 rfl ?_
      obtain ⟨o29, h⟩ := h
      refine JS_iald dX7_extend_91 BS_221 (Nat.le_of_ble_eq_true rfl) (Nat.le_of_ble_eq_true rfl) o29 ?_
      refine JT_goto (tgt := 116) dX7_extend_92 (by decide) ?_
      refine JT_istore (lv' := [(10, .int (gI s 221 ((gI s 222 (a6).toNatClampNeg)).toNatClampNeg)), (9, .int (gI s ((gDx s 0) + 3) ((gI s 222 (a6).toNatClampNeg)).toNatClampNeg)), (8, .int (gI s ((gDx s 0) + 2) ((gI s 222 (a6).toNatClampNeg)).toNatClampNeg)), (7, .int (gI s 222 (a6).toNatClampNeg)), (0, .ref 218), (1, .int a1), (2, .int a2), (3, .int a3), (4, .int a4), (5, .int a5), (6, .int a6)]) dX7_extend_116 (Nat.le_of_ble_eq_true rfl) rfl ?_
      refine JT_aload_n (q := 4) dX7_extend_118 rfl rfl ?_
      refine JS_getR (x := 220) dX7_extend_119 flX7_15 BS_218 (Nat.le_of_ble_eq_true rfl) (Nat.le_of_ble_eq_true rfl) (Or.inr ⟨_, ct_7_5⟩) RF_218_5 ?_
      refine JT_iload_n (q := 5) dX7_extend_122 rfl rfl ?_
      refine JT_iload (q := 3) dX7_extend_123 rfl ?_
      obtain ⟨o30, h⟩ := h
      refine JS_iast dX7_extend_125 BS_220 (Nat.le_of_ble_eq_true rfl) (Nat.le_of_ble_eq_true rfl) o30 ?_
      refine JT_iload (q := 2) dX7_extend_126 rfl ?_
      refine JT_aload_n (q := 4) dX7_extend_128 rfl rfl ?_
      refine JS_getI dX7_extend_129 flX7_98 BS_218 (Nat.le_of_ble_eq_true rfl) (Nat.le_of_ble_eq_true rfl) (Or.inl ct_7_11) ?_
      refine JT_icmp_ne (tgt := 153) dX7_extend_132 (by decide) (fun hc38 => ?_) (fun hc38 => ?_)
      · have h := h.1 hc38
        refine JT_iload (q := 2) dX7_extend_153 rfl ?_
        refine JT_iload (q := 9) dX7_extend_155 rfl ?_
        refine JS_callSNI (M' := MX11_isIn) (d' := 0) (As := [.int (gI s ((gDx s 0) + 2) ((gI s 222 (a6).toNatClampNeg)).toNatClampNeg), .int a5]) (rest := []) dX7_extend_157 cvX7_122 okX11_isIn rfl (Nat.le_of_ble_eq_true rfl) (Nat.le_of_ble_eq_true rfl) (by show 0 + 1 ≤ e + 4; omega) h (fun x32 s31 h => ?_)
        refine JT_if_ne (tgt := 187) dX7_extend_160 (by decide) (fun hc35 => ?_) (fun hc35 => ?_)
        · have h := h.1 hc35
          refine JT_iinc (q := 10) (v := (a6 + 1)) (lv' := [(6, .int (a6 + 1)), (10, .int (gI s 221 ((gI s 222 (a6).toNatClampNeg)).toNatClampNeg)), (9, .int (gI s ((gDx s 0) + 3) ((gI s 222 (a6).toNatClampNeg)).toNatClampNeg)), (8, .int (gI s ((gDx s 0) + 2) ((gI s 222 (a6).toNatClampNeg)).toNatClampNeg)), (7, .int (gI s 222 (a6).toNatClampNeg)), (0, .ref 218), (1, .int a1), (2, .int a2), (3, .int a3), (4, .int a4), (5, .int a5)]) dX7_extend_187 rfl (by rfl) (Nat.le_of_ble_eq_true rfl) rfl ?_
          refine JT_goto (tgt := 35) dX7_extend_190 (by decide) ?_
          exact JT_sub [5, 6, 7, 8, 9, 10, 0] rfl h
        · have h := h.2 hc35
          refine JT_aload_n (q := 4) dX7_extend_163 rfl rfl ?_
          refine JT_iload_n (q := 5) dX7_extend_164 rfl rfl ?_
          refine JT_iconst (v := 1) dX7_extend_165 ic_1 ?_
          refine JT_iadd dX7_extend_166 ?_
          refine JT_iload (q := 2) dX7_extend_167 rfl ?_
          refine JT_iload (q := 1) dX7_extend_169 rfl ?_
          refine JT_iload_n (q := 7) dX7_extend_171 rfl rfl ?_
          refine JT_mmin (d2 := e + 3) dX7_extend_172 mlX7_115 (Nat.le_of_ble_eq_true rfl) rfl ?_
          refine JT_iload (q := 0) dX7_extend_175 rfl ?_
          refine JT_iload (q := 9) dX7_extend_177 rfl ?_
          refine JT_iconst (v := 1) dX7_extend_179 ic_1 ?_
          refine JT_iload (q := 2) dX7_extend_180 rfl ?_
          refine JT_ishl dX7_extend_182 ?_
          refine JT_ior dX7_extend_183 ?_
          refine JS_callVV (M' := MX7_extend) (d' := e + 3) (As := [.int (a1 + (1 : Int32)), .int (gI s ((gDx s 0) + 2) ((gI s 222 (a6).toNatClampNeg)).toNatClampNeg), .int (if a3 < (gI s ((gDx s 0) + 3) ((gI s 222 (a6).toNatClampNeg)).toNatClampNeg) then a3 else (gI s ((gDx s 0) + 3) ((gI s 222 (a6).toNatClampNeg)).toNatClampNeg)), .int (gI s 221 ((gI s 222 (a6).toNatClampNeg)).toNatClampNeg), .int (a5 ||| ((1 : Int32) <<< ((gI s ((gDx s 0) + 2) ((gI s 222 (a6).toNatClampNeg)).toNatClampNeg) &&& 31)))]) (rest := []) dX7_extend_184 cvX7_107 okX7_extend rfl (Nat.le_of_ble_eq_true rfl) BS_218 (Nat.le_of_ble_eq_true rfl) (Nat.le_of_ble_eq_true rfl) hci_7 (Nat.le_of_ble_eq_true rfl) (by show e + 3 + 1 ≤ e + 4; omega) h (fun s33 h => ?_)
          refine JT_iinc (q := 10) (v := (a6 + 1)) (lv' := [(6, .int (a6 + 1)), (10, .int (gI s 221 ((gI s 222 (a6).toNatClampNeg)).toNatClampNeg)), (9, .int (gI s ((gDx s 0) + 3) ((gI s 222 (a6).toNatClampNeg)).toNatClampNeg)), (8, .int (gI s ((gDx s 0) + 2) ((gI s 222 (a6).toNatClampNeg)).toNatClampNeg)), (7, .int (gI s 222 (a6).toNatClampNeg)), (0, .ref 218), (1, .int a1), (2, .int a2), (3, .int a3), (4, .int a4), (5, .int a5)]) dX7_extend_187 rfl (by rfl) (Nat.le_of_ble_eq_true rfl) rfl ?_
          refine JT_goto (tgt := 35) dX7_extend_190 (by decide) ?_
          exact JT_sub [5, 6, 7, 8, 9, 10, 0] rfl h
      · have h := h.2 hc38
        refine JT_aload_n (q := 4) dX7_extend_135 rfl rfl ?_
        refine JT_iload_n (q := 5) dX7_extend_136 rfl rfl ?_
        refine JT_iconst (v := 1) dX7_extend_137 ic_1 ?_
        refine JT_iadd dX7_extend_138 ?_
        refine JT_iload (q := 1) dX7_extend_139 rfl ?_
        refine JT_iload_n (q := 7) dX7_extend_141 rfl rfl ?_
        refine JT_mmin (d2 := e + 3) dX7_extend_142 mlX7_115 (Nat.le_of_ble_eq_true rfl) rfl ?_
        refine JT_iload (q := 0) dX7_extend_145 rfl ?_
        refine JS_callVV (M' := MX7_offer) (d' := 1) (As := [.int (a1 + (1 : Int32)), .int (if a3 < (gI s ((gDx s 0) + 3) ((gI s 222 (a6).toNatClampNeg)).toNatClampNeg) then a3 else (gI s ((gDx s 0) + 3) ((gI s 222 (a6).toNatClampNeg)).toNatClampNeg)), .int (gI s 221 ((gI s 222 (a6).toNatClampNeg)).toNatClampNeg)]) (rest := []) dX7_extend_147 cvX7_118 okX7_offer rfl (Nat.le_of_ble_eq_true rfl) BS_218 (Nat.le_of_ble_eq_true rfl) (Nat.le_of_ble_eq_true rfl) hci_7 (Nat.le_of_ble_eq_true rfl) (by show 1 + 1 ≤ e + 4; omega) h (fun s36 h => ?_)
        refine JT_goto (tgt := 187) dX7_extend_150 (by decide) ?_
        refine JT_iinc (q := 10) (v := (a6 + 1)) (lv' := [(6, .int (a6 + 1)), (10, .int (gI s 221 ((gI s 222 (a6).toNatClampNeg)).toNatClampNeg)), (9, .int (gI s ((gDx s 0) + 3) ((gI s 222 (a6).toNatClampNeg)).toNatClampNeg)), (8, .int (gI s ((gDx s 0) + 2) ((gI s 222 (a6).toNatClampNeg)).toNatClampNeg)), (7, .int (gI s 222 (a6).toNatClampNeg)), (0, .ref 218), (1, .int a1), (2, .int a2), (3, .int a3), (4, .int a4), (5, .int a5)]) dX7_extend_187 rfl (by rfl) (Nat.le_of_ble_eq_true rfl) rfl ?_
        refine JT_goto (tgt := 35) dX7_extend_190 (by decide) ?_
        exact JT_sub [5, 6, 7, 8, 9, 10, 0] rfl h
set_option maxRecDepth 1000000 in
theorem bX7_extend {e : Nat} (a1 : Int32) (a2 : Int32) (a3 : Int32) (a4 : Int32) (a5 : Int32) {s : SM} {Q : SM → Prop} (h : (((5 : Int32) ≤ a1 → Q s) ∧ (¬ (5 : Int32) ≤ a1 → KI MX7_isBetter 0 [.ref 218, .int (a1 + (1 : Int32)), .int (a4 + (((5 : Int32) - a1) * (gI s 218 7)))] s (fun x2 s1 => ((¬ x2 = 0 → vp_in a2 9 ∧ BV MX7_extend (e + 4) 35 [(0, .ref 218), (1, .int a1), (2, .int a2), (3, .int a3), (4, .int a4), (5, .int a5), (6, .int (gI s1 223 (a2).toNatClampNeg))] s1 Q) ∧ (x2 = 0 → Q s1)))))) : KV MX7_extend (e + 4) [.ref 218, .int a1, .int a2, .int a3, .int a4, .int a5] s Q := by
  show BV MX7_extend (e + 4) 0 [(0, .ref 218), (1, .int a1), (2, .int a2), (3, .int a3), (4, .int a4), (5, .int a5)] s Q
  refine JT_iload_n (q := 1) dX7_extend_0 rfl rfl ?_
  refine JT_iconst (v := 5) dX7_extend_1 ic_5 ?_
  refine JT_icmp_ge (tgt := 26) dX7_extend_2 (by decide) (fun hc5 => ?_) (fun hc5 => ?_)
  · have h := h.1 hc5
    exact JS_vret dX7_extend_26 rfl h
  · have h := h.2 hc5
    refine JT_aload_n (q := 0) dX7_extend_5 rfl rfl ?_
    refine JT_iload_n (q := 1) dX7_extend_6 rfl rfl ?_
    refine JT_iconst (v := 1) dX7_extend_7 ic_1 ?_
    refine JT_iadd dX7_extend_8 ?_
    refine JT_iload (q := 4) dX7_extend_9 rfl ?_
    refine JT_iconst (v := 5) dX7_extend_11 ic_5 ?_
    refine JT_iload_n (q := 1) dX7_extend_12 rfl rfl ?_
    refine JT_isub dX7_extend_13 ?_
    refine JT_aload_n (q := 0) dX7_extend_14 rfl rfl ?_
    refine JS_getI dX7_extend_15 flX7_85 BS_218 (Nat.le_of_ble_eq_true rfl) (Nat.le_of_ble_eq_true rfl) (Or.inl ct_7_7) ?_
    refine JT_imul dX7_extend_18 ?_
    refine JT_iadd dX7_extend_19 ?_
    refine JS_callVI (M' := MX7_isBetter) (d' := 0) (As := [.int (a1 + (1 : Int32)), .int (a4 + (((5 : Int32) - a1) * (gI s 218 7)))]) (rest := []) dX7_extend_20 cvX7_111 okX7_isBetter rfl (Nat.le_of_ble_eq_true rfl) BS_218 (Nat.le_of_ble_eq_true rfl) (Nat.le_of_ble_eq_true rfl) hci_7 (Nat.le_of_ble_eq_true rfl) (by show 0 + 1 ≤ e + 4; omega) h (fun x2 s1 h => ?_)
    refine JT_if_ne (tgt := 27) dX7_extend_23 (by decide) (fun hc4 => ?_) (fun hc4 => ?_)
    · have h := h.1 hc4
      refine JT_aload_n (q := 0) dX7_extend_27 rfl rfl ?_
      refine JS_getR (x := 223) dX7_extend_28 flX7_24 BS_218 (Nat.le_of_ble_eq_true rfl) (Nat.le_of_ble_eq_true rfl) (Or.inr ⟨_, ct_7_9⟩) RF_218_9 ?_
      refine JT_iload_n (q := 2) dX7_extend_31 rfl rfl ?_
      obtain ⟨o3, h⟩ := h
      refine JS_iald dX7_extend_32 BS_223 (Nat.le_of_ble_eq_true rfl) (Nat.le_of_ble_eq_true rfl) o3 ?_
      refine JT_istore (lv' := [(6, .int (gI s1 223 (a2).toNatClampNeg)), (0, .ref 218), (1, .int a1), (2, .int a2), (3, .int a3), (4, .int a4), (5, .int a5)]) dX7_extend_33 (Nat.le_of_ble_eq_true rfl) rfl ?_
      exact JT_sub [1, 2, 3, 4, 5, 6, 0] rfl h
    · have h := h.2 hc4
      exact JS_vret dX7_extend_26 rfl h
set_option maxRecDepth 1000000 in
theorem bX1_search (a1 : Int32) {s : SM} {Q : Int32 → SM → Prop} (h : (((gI (pI (pI (pI s 233 8 a1) 233 9 (0 : Int32)) 233 7 (gI (pI (pI s 233 8 a1) 233 9 (0 : Int32)) 233 6)) 233 10) = 0 → Q (gI (pI (pI (pI s 233 8 a1) 233 9 (0 : Int32)) 233 7 (gI (pI (pI s 233 8 a1) 233 9 (0 : Int32)) 233 6)) 233 9) (pI (pI (pI s 233 8 a1) 233 9 (0 : Int32)) 233 7 (gI (pI (pI s 233 8 a1) 233 9 (0 : Int32)) 233 6))) ∧ (¬ (gI (pI (pI (pI s 233 8 a1) 233 9 (0 : Int32)) 233 7 (gI (pI (pI s 233 8 a1) 233 9 (0 : Int32)) 233 6)) 233 10) = 0 → KV MX1_tryFrom 10 [.ref 233, .int (0 : Int32)] (pI (pI (pI s 233 8 a1) 233 9 (0 : Int32)) 233 7 (gI (pI (pI s 233 8 a1) 233 9 (0 : Int32)) 233 6)) (fun s1 => Q (gI s1 233 9) s1)))) : KI MX1_search 11 [.ref 233, .int a1] s Q := by
  show BI MX1_search 11 0 [(0, .ref 233), (1, .int a1)] s Q
  refine JT_aload_n (q := 0) dX1_search_0 rfl rfl ?_
  refine JT_iload_n (q := 1) dX1_search_1 rfl rfl ?_
  refine JS_putI dX1_search_2 flX1_93 BS_233 (Nat.le_of_ble_eq_true rfl) (Nat.le_of_ble_eq_true rfl) ct_1_8 ?_
  refine JT_aload_n (q := 0) dX1_search_5 rfl rfl ?_
  refine JT_iconst (v := 0) dX1_search_6 ic_0 ?_
  refine JS_putI dX1_search_7 flX1_96 BS_233 (Nat.le_of_ble_eq_true rfl) (Nat.le_of_ble_eq_true rfl) ct_1_9 ?_
  refine JT_aload_n (q := 0) dX1_search_10 rfl rfl ?_
  refine JT_aload_n (q := 0) dX1_search_11 rfl rfl ?_
  refine JS_getI dX1_search_12 flX1_67 BS_233 (Nat.le_of_ble_eq_true rfl) (Nat.le_of_ble_eq_true rfl) (Or.inl ct_1_6) ?_
  refine JS_putI dX1_search_15 flX1_99 BS_233 (Nat.le_of_ble_eq_true rfl) (Nat.le_of_ble_eq_true rfl) ct_1_7 ?_
  refine JT_aload_n (q := 0) dX1_search_18 rfl rfl ?_
  refine JS_getI dX1_search_19 flX1_55 BS_233 (Nat.le_of_ble_eq_true rfl) (Nat.le_of_ble_eq_true rfl) (Or.inr ct_1_10) ?_
  refine JT_if_eq (tgt := 30) dX1_search_22 (by decide) (fun hc3 => ?_) (fun hc3 => ?_)
  · have h := h.1 hc3
    refine JT_aload_n (q := 0) dX1_search_30 rfl rfl ?_
    refine JS_getI dX1_search_31 flX1_96 BS_233 (Nat.le_of_ble_eq_true rfl) (Nat.le_of_ble_eq_true rfl) (Or.inl ct_1_9) ?_
    exact JS_iret dX1_search_34 rfl rfl h
  · have h := h.2 hc3
    refine JT_aload_n (q := 0) dX1_search_25 rfl rfl ?_
    refine JT_iconst (v := 0) dX1_search_26 ic_0 ?_
    refine JS_callVV (M' := MX1_tryFrom) (d' := 10) (As := [.int (0 : Int32)]) (rest := []) dX1_search_27 cvX1_102 okX1_tryFrom rfl (Nat.le_of_ble_eq_true rfl) BS_233 (Nat.le_of_ble_eq_true rfl) (Nat.le_of_ble_eq_true rfl) hci_1 (Nat.le_of_ble_eq_true rfl) (Nat.le_of_ble_eq_true rfl) h (fun s1 h => ?_)
    refine JT_aload_n (q := 0) dX1_search_30 rfl rfl ?_
    refine JS_getI dX1_search_31 flX1_96 BS_233 (Nat.le_of_ble_eq_true rfl) (Nat.le_of_ble_eq_true rfl) (Or.inl ct_1_9) ?_
    exact JS_iret dX1_search_34 rfl rfl h
set_option maxRecDepth 1000000 in
theorem bX7_start (a1 : Int32) {s : SM} {Q : SM → Prop} (h : gD s 0 = some (gDx s 0) ∧ ((gDx s 0), rfx (gDx s 0) 8) ∈ LX ∧ vp_in a1 60 ∧ gD (pI (pI s 218 11 (gI s ((gDx s 0) + 1) (a1).toNatClampNeg)) 220 ((0 : Int32)).toNatClampNeg a1) 0 = some (gDx (pI (pI s 218 11 (gI s ((gDx s 0) + 1) (a1).toNatClampNeg)) 220 ((0 : Int32)).toNatClampNeg a1) 0) ∧ ((gDx (pI (pI s 218 11 (gI s ((gDx s 0) + 1) (a1).toNatClampNeg)) 220 ((0 : Int32)).toNatClampNeg a1) 0), rfx (gDx (pI (pI s 218 11 (gI s ((gDx s 0) + 1) (a1).toNatClampNeg)) 220 ((0 : Int32)).toNatClampNeg a1) 0) 8) ∈ LX ∧ vp_in a1 60 ∧ gD (pI (pI s 218 11 (gI s ((gDx s 0) + 1) (a1).toNatClampNeg)) 220 ((0 : Int32)).toNatClampNeg a1) 0 = some (gDx (pI (pI s 218 11 (gI s ((gDx s 0) + 1) (a1).toNatClampNeg)) 220 ((0 : Int32)).toNatClampNeg a1) 0) ∧ ((gDx (pI (pI s 218 11 (gI s ((gDx s 0) + 1) (a1).toNatClampNeg)) 220 ((0 : Int32)).toNatClampNeg a1) 0), rfx (gDx (pI (pI s 218 11 (gI s ((gDx s 0) + 1) (a1).toNatClampNeg)) 220 ((0 : Int32)).toNatClampNeg a1) 0) 8) ∈ LX ∧ vp_in a1 60 ∧ vp_in a1 60 ∧ KV MX7_extend 10 [.ref 218, .int (1 : Int32), .int (gI (pI (pI s 218 11 (gI s ((gDx s 0) + 1) (a1).toNatClampNeg)) 220 ((0 : Int32)).toNatClampNeg a1) ((gDx (pI (pI s 218 11 (gI s ((gDx s 0) + 1) (a1).toNatClampNeg)) 220 ((0 : Int32)).toNatClampNeg a1) 0) + 2) (a1).toNatClampNeg), .int (gI (pI (pI s 218 11 (gI s ((gDx s 0) + 1) (a1).toNatClampNeg)) 220 ((0 : Int32)).toNatClampNeg a1) ((gDx (pI (pI s 218 11 (gI s ((gDx s 0) + 1) (a1).toNatClampNeg)) 220 ((0 : Int32)).toNatClampNeg a1) 0) + 3) (a1).toNatClampNeg), .int (gI (pI (pI s 218 11 (gI s ((gDx s 0) + 1) (a1).toNatClampNeg)) 220 ((0 : Int32)).toNatClampNeg a1) 221 (a1).toNatClampNeg), .int (((1 : Int32) <<< ((gI (pI (pI s 218 11 (gI s ((gDx s 0) + 1) (a1).toNatClampNeg)) 220 ((0 : Int32)).toNatClampNeg a1) 218 11) &&& 31)) ||| ((1 : Int32) <<< ((gI (pI (pI s 218 11 (gI s ((gDx s 0) + 1) (a1).toNatClampNeg)) 220 ((0 : Int32)).toNatClampNeg a1) ((gDx (pI (pI s 218 11 (gI s ((gDx s 0) + 1) (a1).toNatClampNeg)) 220 ((0 : Int32)).toNatClampNeg a1) 0) + 2) (a1).toNatClampNeg) &&& 31)))] (pI (pI s 218 11 (gI s ((gDx s 0) + 1) (a1).toNatClampNeg)) 220 ((0 : Int32)).toNatClampNeg a1) (fun s11 => Q s11)) : KV MX7_start 11 [.ref 218, .int a1] s Q := by
  show BV MX7_start 11 0 [(0, .ref 218), (1, .int a1)] s Q
  refine JT_aload_n (q := 0) dX7_start_0 rfl rfl ?_
  refine JT_aload_n (q := 0) dX7_start_1 rfl rfl ?_
  obtain ⟨hr1, hL2, h⟩ := h
  refine JS_getR (x := (gDx s 0)) dX7_start_2 flX7_40 BS_218 (Nat.le_of_ble_eq_true rfl) (Nat.le_of_ble_eq_true rfl) (Or.inl ⟨_, ct_7_4⟩) (RF_218_4.trans hr1) ?_
  refine JS_getR (x := ((gDx s 0) + 1)) dX7_start_5 flX7_58 (lxB hL2) (lx2 hL2) (lxN hL2) (Or.inr ⟨_, ct_4_0⟩) (lxR0 hL2) ?_
  refine JT_iload_n (q := 1) dX7_start_8 rfl rfl ?_
  obtain ⟨o3, h⟩ := h
  refine JS_iald dX7_start_9 (lxB1 hL2) (lx2k hL2 _) (lxNk hL2 (Nat.le_of_ble_eq_true rfl)) o3 ?_
  refine JS_putI dX7_start_10 flX7_98 BS_218 (Nat.le_of_ble_eq_true rfl) (Nat.le_of_ble_eq_true rfl) ct_7_11 ?_
  refine JT_aload_n (q := 0) dX7_start_13 rfl rfl ?_
  refine JS_getR (x := 220) dX7_start_14 flX7_15 BS_218 (Nat.le_of_ble_eq_true rfl) (Nat.le_of_ble_eq_true rfl) (Or.inr ⟨_, ct_7_5⟩) RF_218_5 ?_
  refine JT_iconst (v := 0) dX7_start_17 ic_0 ?_
  refine JT_iload_n (q := 1) dX7_start_18 rfl rfl ?_
  refine JS_iast dX7_start_19 BS_220 (Nat.le_of_ble_eq_true rfl) (Nat.le_of_ble_eq_true rfl) (by unfold vp_in; decide) ?_
  refine JT_aload_n (q := 0) dX7_start_20 rfl rfl ?_
  obtain ⟨hr4, hL5, h⟩ := h
  refine JS_getR (x := (gDx (pI (pI s 218 11 (gI s ((gDx s 0) + 1) (a1).toNatClampNeg)) 220 ((0 : Int32)).toNatClampNeg a1) 0)) dX7_start_21 flX7_40 BS_218 (Nat.le_of_ble_eq_true rfl) (Nat.le_of_ble_eq_true rfl) (Or.inl ⟨_, ct_7_4⟩) (RF_218_4.trans hr4) ?_
  refine JS_getR (x := ((gDx (pI (pI s 218 11 (gI s ((gDx s 0) + 1) (a1).toNatClampNeg)) 220 ((0 : Int32)).toNatClampNeg a1) 0) + 2)) dX7_start_24 flX7_101 (lxB hL5) (lx2 hL5) (lxN hL5) (Or.inr ⟨_, ct_4_1⟩) (lxR1 hL5) ?_
  refine JT_iload_n (q := 1) dX7_start_27 rfl rfl ?_
  obtain ⟨o6, h⟩ := h
  refine JS_iald dX7_start_28 (lxB2 hL5) (lx2k hL5 _) (lxNk hL5 (Nat.le_of_ble_eq_true rfl)) o6 ?_
  refine JT_istore_n (lv' := [(2, .int (gI (pI (pI s 218 11 (gI s ((gDx s 0) + 1) (a1).toNatClampNeg)) 220 ((0 : Int32)).toNatClampNeg a1) ((gDx (pI (pI s 218 11 (gI s ((gDx s 0) + 1) (a1).toNatClampNeg)) 220 ((0 : Int32)).toNatClampNeg a1) 0) + 2) (a1).toNatClampNeg)), (0, .ref 218), (1, .int a1)]) dX7_start_29 rfl (Nat.le_of_ble_eq_true rfl) rfl ?_
  refine JT_aload_n (q := 1) dX7_start_30 rfl rfl ?_
  refine JT_iconst (v := 1) dX7_start_31 ic_1 ?_
  refine JT_iload_n (q := 0) dX7_start_32 rfl rfl ?_
  refine JT_aload_n (q := 1) dX7_start_33 rfl rfl ?_
  obtain ⟨hr7, hL8, h⟩ := h
  refine JS_getR (x := (gDx (pI (pI s 218 11 (gI s ((gDx s 0) + 1) (a1).toNatClampNeg)) 220 ((0 : Int32)).toNatClampNeg a1) 0)) dX7_start_34 flX7_40 BS_218 (Nat.le_of_ble_eq_true rfl) (Nat.le_of_ble_eq_true rfl) (Or.inl ⟨_, ct_7_4⟩) (RF_218_4.trans hr7) ?_
  refine JS_getR (x := ((gDx (pI (pI s 218 11 (gI s ((gDx s 0) + 1) (a1).toNatClampNeg)) 220 ((0 : Int32)).toNatClampNeg a1) 0) + 3)) dX7_start_37 flX7_104 (lxB hL8) (lx2 hL8) (lxN hL8) (Or.inr ⟨_, ct_4_2⟩) (lxR2 hL8) ?_
  refine JT_iload_n (q := 2) dX7_start_40 rfl rfl ?_
  obtain ⟨o9, h⟩ := h
  refine JS_iald dX7_start_41 (lxB3 hL8) (lx2k hL8 _) (lxNk hL8 (Nat.le_of_ble_eq_true rfl)) o9 ?_
  refine JT_aload_n (q := 1) dX7_start_42 rfl rfl ?_
  refine JS_getR (x := 221) dX7_start_43 flX7_18 BS_218 (Nat.le_of_ble_eq_true rfl) (Nat.le_of_ble_eq_true rfl) (Or.inr ⟨_, ct_7_6⟩) RF_218_6 ?_
  refine JT_iload_n (q := 2) dX7_start_46 rfl rfl ?_
  obtain ⟨o10, h⟩ := h
  refine JS_iald dX7_start_47 BS_221 (Nat.le_of_ble_eq_true rfl) (Nat.le_of_ble_eq_true rfl) o10 ?_
  refine JT_iconst (v := 1) dX7_start_48 ic_1 ?_
  refine JT_aload_n (q := 1) dX7_start_49 rfl rfl ?_
  refine JS_getI dX7_start_50 flX7_98 BS_218 (Nat.le_of_ble_eq_true rfl) (Nat.le_of_ble_eq_true rfl) (Or.inl ct_7_11) ?_
  refine JT_ishl dX7_start_53 ?_
  refine JT_iconst (v := 1) dX7_start_54 ic_1 ?_
  refine JT_iload_n (q := 0) dX7_start_55 rfl rfl ?_
  refine JT_ishl dX7_start_56 ?_
  refine JT_ior dX7_start_57 ?_
  refine JS_callVV (M' := MX7_extend) (d' := 10) (As := [.int (1 : Int32), .int (gI (pI (pI s 218 11 (gI s ((gDx s 0) + 1) (a1).toNatClampNeg)) 220 ((0 : Int32)).toNatClampNeg a1) ((gDx (pI (pI s 218 11 (gI s ((gDx s 0) + 1) (a1).toNatClampNeg)) 220 ((0 : Int32)).toNatClampNeg a1) 0) + 2) (a1).toNatClampNeg), .int (gI (pI (pI s 218 11 (gI s ((gDx s 0) + 1) (a1).toNatClampNeg)) 220 ((0 : Int32)).toNatClampNeg a1) ((gDx (pI (pI s 218 11 (gI s ((gDx s 0) + 1) (a1).toNatClampNeg)) 220 ((0 : Int32)).toNatClampNeg a1) 0) + 3) (a1).toNatClampNeg), .int (gI (pI (pI s 218 11 (gI s ((gDx s 0) + 1) (a1).toNatClampNeg)) 220 ((0 : Int32)).toNatClampNeg a1) 221 (a1).toNatClampNeg), .int (((1 : Int32) <<< ((gI (pI (pI s 218 11 (gI s ((gDx s 0) + 1) (a1).toNatClampNeg)) 220 ((0 : Int32)).toNatClampNeg a1) 218 11) &&& 31)) ||| ((1 : Int32) <<< ((gI (pI (pI s 218 11 (gI s ((gDx s 0) + 1) (a1).toNatClampNeg)) 220 ((0 : Int32)).toNatClampNeg a1) ((gDx (pI (pI s 218 11 (gI s ((gDx s 0) + 1) (a1).toNatClampNeg)) 220 ((0 : Int32)).toNatClampNeg a1) 0) + 2) (a1).toNatClampNeg) &&& 31)))]) (rest := []) dX7_start_58 cvX7_107 okX7_extend rfl (Nat.le_of_ble_eq_true rfl) BS_218 (Nat.le_of_ble_eq_true rfl) (Nat.le_of_ble_eq_true rfl) hci_7 (Nat.le_of_ble_eq_true rfl) (Nat.le_of_ble_eq_true rfl) h (fun s11 h => ?_)
  exact JS_vret dX7_start_61 rfl h
set_option maxRecDepth 1000000 in
theorem bX11_fits_33 (a1 : Int32) {s : SM} {Q : Int32 → SM → Prop} (h : (((0 : Int32) = 0 → Q (-1 : Int32) (pI s 3 1 (0 : Int32))) ∧ (¬ (0 : Int32) = 0 → KI MX1_search 11 [.ref 233, .int a1] (pI s 3 1 (0 : Int32)) (fun x2 s1 => Q x2 s1)))) : BI MX11_fits 12 33 [(0, .ref 2), (1, .int a1)] s Q := by
  refine JT_iconst (v := 0) dX11_fits_33 ic_0 ?_
  refine JT_istore_n (lv' := [(2, .int (0 : Int32)), (0, .ref 2), (1, .int a1)]) dX11_fits_34 rfl (Nat.le_of_ble_eq_true rfl) rfl ?_
  refine JT_aload_n (q := 1) dX11_fits_35 rfl rfl ?_
  refine JS_getR (x := 3) dX11_fits_36 flX11_10 BS_2 (Nat.le_of_ble_eq_true rfl) (Nat.le_of_ble_eq_true rfl) (Or.inl ⟨_, ct_11_0⟩) RF_2_0 ?_
  refine JT_iconst (v := 0) dX11_fits_39 ic_0 ?_
  refine JS_putI dX11_fits_40 flX11_104 BS_3 (Nat.le_of_ble_eq_true rfl) (Nat.le_of_ble_eq_true rfl) ct_9_1 ?_
  refine JT_iload_n (q := 0) dX11_fits_43 rfl rfl ?_
  refine JT_if_eq (tgt := 58) dX11_fits_44 (by decide) (fun hc3 => ?_) (fun hc3 => ?_)
  · have h := h.1 hc3
    refine JT_iconst (v := -1) dX11_fits_58 ic_m1 ?_
    exact JS_iret dX11_fits_59 rfl rfl h
  · have h := h.2 hc3
    refine JT_aload_n (q := 1) dX11_fits_47 rfl rfl ?_
    refine JS_getR (x := 233) dX11_fits_48 flX11_79 BS_2 (Nat.le_of_ble_eq_true rfl) (Nat.le_of_ble_eq_true rfl) (Or.inl ⟨_, ct_11_11⟩) RF_2_11 ?_
    refine JT_iload_n (q := 2) dX11_fits_51 rfl rfl ?_
    refine JS_callVI (M' := MX1_search) (d' := 11) (As := [.int a1]) (rest := []) dX11_fits_52 cvX11_404 okX1_search rfl (Nat.le_of_ble_eq_true rfl) BS_233 (Nat.le_of_ble_eq_true rfl) (Nat.le_of_ble_eq_true rfl) hci_1 (Nat.le_of_ble_eq_true rfl) (Nat.le_of_ble_eq_true rfl) h (fun x2 s1 h => ?_)
    refine JT_goto (tgt := 59) dX11_fits_55 (by decide) ?_
    exact JS_iret dX11_fits_59 rfl rfl h
set_option maxRecDepth 1000000 in
theorem bX11_fits (a1 : Int32) {s : SM} {Q : Int32 → SM → Prop} (h : ((a1 < (1 : Int32) → BI MX11_fits 12 33 [(0, .ref 2), (1, .int a1)] s Q) ∧ (¬ a1 < (1 : Int32) → (((20 : Int32) < a1 → BI MX11_fits 12 33 [(0, .ref 2), (1, .int a1)] s Q) ∧ (¬ (20 : Int32) < a1 → rX1_take s 31 5 ∧ (((vX1_take s 31 5) = 0 → BI MX11_fits 12 33 [(0, .ref 2), (1, .int a1)] (mX1_take s 31 5) Q) ∧ (¬ (vX1_take s 31 5) = 0 → (((1 : Int32) = 0 → Q (-1 : Int32) (pI (mX1_take s 31 5) 3 1 (0 : Int32))) ∧ (¬ (1 : Int32) = 0 → KI MX1_search 11 [.ref 233, .int a1] (pI (mX1_take s 31 5) 3 1 (0 : Int32)) (fun x2 s1 => Q x2 s1)))))))))) : KI MX11_fits 12 [.ref 2, .int a1] s Q := by
  show BI MX11_fits 12 0 [(0, .ref 2), (1, .int a1)] s Q
  refine JT_iload_n (q := 1) dX11_fits_0 rfl rfl ?_
  refine JT_iconst (v := 1) dX11_fits_1 ic_1 ?_
  refine JT_icmp_lt (tgt := 33) dX11_fits_2 (by decide) (fun hc7 => ?_) (fun hc7 => ?_)
  · have h := h.1 hc7
    exact JT_sub [0, 1] rfl h
  · have h := h.2 hc7
    refine JT_iload_n (q := 1) dX11_fits_5 rfl rfl ?_
    refine JT_bipush (v := 20) dX11_fits_6 bp_20 ?_
    refine JT_icmp_gt (tgt := 33) dX11_fits_8 (by decide) (fun hc6 => ?_) (fun hc6 => ?_)
    · have h := h.1 hc6
      exact JT_sub [0, 1] rfl h
    · have h := h.2 hc6
      refine JT_aload_n (q := 0) dX11_fits_11 rfl rfl ?_
      refine JS_getR (x := 233) dX11_fits_12 flX11_79 BS_2 (Nat.le_of_ble_eq_true rfl) (Nat.le_of_ble_eq_true rfl) (Or.inl ⟨_, ct_11_11⟩) RF_2_11 ?_
      refine JT_aload_n (q := 0) dX11_fits_15 rfl rfl ?_
      refine JS_getR (x := 3) dX11_fits_16 flX11_10 BS_2 (Nat.le_of_ble_eq_true rfl) (Nat.le_of_ble_eq_true rfl) (Or.inl ⟨_, ct_11_0⟩) RF_2_0 ?_
      refine JT_aload_n (q := 0) dX11_fits_19 rfl rfl ?_
      refine JS_getR (x := 31) dX11_fits_20 flX11_41 BS_2 (Nat.le_of_ble_eq_true rfl) (Nat.le_of_ble_eq_true rfl) (Or.inl ⟨_, ct_11_5⟩) RF_2_5 ?_
      obtain ⟨o5, h⟩ := h
      refine JS_callVI (M' := MX1_take) (d' := 6) (As := [.ref 3, .ref 31]) (rest := []) (P := (fun zv9 wm9 => (vX1_take s 31 5) = zv9 ∧ (mX1_take s 31 5) = wm9)) dX11_fits_23 cvX11_401 okX1_take rfl (Nat.le_of_ble_eq_true rfl) BS_233 (Nat.le_of_ble_eq_true rfl) (Nat.le_of_ble_eq_true rfl) hci_1 (Nat.le_of_ble_eq_true rfl) (Nat.le_of_ble_eq_true rfl) (pX1_take hL_31  o5 ⟨rfl, rfl⟩) (fun zv9 wm9 hq9 => ?_)
      obtain ⟨rfl, rfl⟩ := hq9
      refine JT_if_eq (tgt := 33) dX11_fits_26 (by decide) (fun hc4 => ?_) (fun hc4 => ?_)
      · have h := h.1 hc4
        exact JT_sub [0, 1] rfl h
      · have h := h.2 hc4
        refine JT_iconst (v := 1) dX11_fits_29 ic_1 ?_
        refine JT_goto (tgt := 34) dX11_fits_30 (by decide) ?_
        refine JT_istore_n (lv' := [(2, .int (1 : Int32)), (0, .ref 2), (1, .int a1)]) dX11_fits_34 rfl (Nat.le_of_ble_eq_true rfl) rfl ?_
        refine JT_aload_n (q := 1) dX11_fits_35 rfl rfl ?_
        refine JS_getR (x := 3) dX11_fits_36 flX11_10 BS_2 (Nat.le_of_ble_eq_true rfl) (Nat.le_of_ble_eq_true rfl) (Or.inl ⟨_, ct_11_0⟩) RF_2_0 ?_
        refine JT_iconst (v := 0) dX11_fits_39 ic_0 ?_
        refine JS_putI dX11_fits_40 flX11_104 BS_3 (Nat.le_of_ble_eq_true rfl) (Nat.le_of_ble_eq_true rfl) ct_9_1 ?_
        refine JT_iload_n (q := 0) dX11_fits_43 rfl rfl ?_
        refine JT_if_eq (tgt := 58) dX11_fits_44 (by decide) (fun hc3 => ?_) (fun hc3 => ?_)
        · have h := h.1 hc3
          refine JT_iconst (v := -1) dX11_fits_58 ic_m1 ?_
          exact JS_iret dX11_fits_59 rfl rfl h
        · have h := h.2 hc3
          refine JT_aload_n (q := 1) dX11_fits_47 rfl rfl ?_
          refine JS_getR (x := 233) dX11_fits_48 flX11_79 BS_2 (Nat.le_of_ble_eq_true rfl) (Nat.le_of_ble_eq_true rfl) (Or.inl ⟨_, ct_11_11⟩) RF_2_11 ?_
          refine JT_iload_n (q := 2) dX11_fits_51 rfl rfl ?_
          refine JS_callVI (M' := MX1_search) (d' := 11) (As := [.int a1]) (rest := []) dX11_fits_52 cvX11_404 okX1_search rfl (Nat.le_of_ble_eq_true rfl) BS_233 (Nat.le_of_ble_eq_true rfl) (Nat.le_of_ble_eq_true rfl) hci_1 (Nat.le_of_ble_eq_true rfl) (Nat.le_of_ble_eq_true rfl) h (fun x2 s1 h => ?_)
          refine JT_goto (tgt := 59) dX11_fits_55 (by decide) ?_
          exact JS_iret dX11_fits_59 rfl rfl h
set_option maxRecDepth 1000000 in
theorem bX7_findBest_30 {L1 P1 : Nat} (hL1 : (L1, P1) ∈ LX) (a2 : Int32) {s : SM} {Q : Int32 → SM → Prop} (h : ((a2 < 0 → Q (if (gI s 218 1) ≤ 0 then (0 : Int32) else (1 : Int32)) s) ∧ (¬ a2 < 0 → rX7_mayBeIn s a2 ∧ (((vX7_mayBeIn s a2) = 0 → BI MX7_findBest 12 30 [(0, .ref 218), (1, .ref L1), (2, .int (a2 + (-1)))] s Q) ∧ (¬ (vX7_mayBeIn s a2) = 0 → KV MX7_start 11 [.ref 218, .int a2] s (fun s3 => gD s3 0 = some (gDx s3 0) ∧ ((gDx s3 0), rfx (gDx s3 0) 8) ∈ LX ∧ vp_in a2 60 ∧ vp_in (gI s3 ((gDx s3 0) + 1) (a2).toNatClampNeg) 9 ∧ vp_in (gI s3 ((gDx s3 0) + 1) (a2).toNatClampNeg) 9 ∧ (∀ s10, s10 = (pI s3 223 ((gI s3 ((gDx s3 0) + 1) (a2).toNatClampNeg)).toNatClampNeg ((gI s3 223 ((gI s3 ((gDx s3 0) + 1) (a2).toNatClampNeg)).toNatClampNeg) - (1 : Int32))) → BI MX7_findBest 12 30 [(0, .ref 218), (1, .ref L1), (2, .int (a2 + (-1)))] s10 Q))))))) : BI MX7_findBest 12 30 [(0, .ref 218), (1, .ref L1), (2, .int a2)] s Q := by
  refine JT_iload_n (q := 2) dX7_findBest_30 rfl rfl ?_
  refine JT_if_lt (tgt := 71) dX7_findBest_31 (by decide) (fun hc13 => ?_) (fun hc13 => ?_)
  · have h := h.1 hc13
    refine JT_aload_n (q := 0) dX7_findBest_71 rfl rfl ?_
    refine JS_getI dX7_findBest_72 flX7_61 BS_218 (Nat.le_of_ble_eq_true rfl) (Nat.le_of_ble_eq_true rfl) (Or.inl ct_7_1) ?_
    have hj1 : ∀ v : Int32, v = (if (gI s 218 1) ≤ 0 then (0 : Int32) else (1 : Int32)) → JT MX7_findBest 12 0 0 83 [(0, .ref 218), (1, .ref L1), (2, .int a2)] [.int v] (std s) (KQ Q) := by
      intro v hv
      subst hv
      exact JS_iret dX7_findBest_83 rfl (n01 (i01 (Or.inl rfl) (Or.inr rfl))) h
    refine JT_if_le (tgt := 82) dX7_findBest_75 (by decide) (fun hc2 => ?_) (fun hc2 => ?_)
    · refine JT_iconst (v := 0) dX7_findBest_82 ic_0 ?_
      exact hj1 _ (by rw [if_pos hc2])
    · refine JT_iconst (v := 1) dX7_findBest_78 ic_1 ?_
      refine JT_goto (tgt := 83) dX7_findBest_79 (by decide) ?_
      exact hj1 _ (by rw [if_neg hc2])
  · have h := h.2 hc13
    refine JT_aload_n (q := 0) dX7_findBest_34 rfl rfl ?_
    refine JT_iload_n (q := 2) dX7_findBest_35 rfl rfl ?_
    obtain ⟨o12, h⟩ := h
    refine JS_callVI (M' := MX7_mayBeIn) (d' := 2) (As := [.int a2]) (rest := []) (P := (fun zv9 wm9 => (vX7_mayBeIn s a2) = zv9 ∧ s = wm9)) dX7_findBest_36 cvX7_50 okX7_mayBeIn rfl (Nat.le_of_ble_eq_true rfl) BS_218 (Nat.le_of_ble_eq_true rfl) (Nat.le_of_ble_eq_true rfl) hci_7 (Nat.le_of_ble_eq_true rfl) (Nat.le_of_ble_eq_true rfl) (pX7_mayBeIn  (a2) o12 ⟨rfl, rfl⟩) (fun zv9 wm9 hq9 => ?_)
    obtain ⟨rfl, rfl⟩ := hq9
    refine JT_if_eq (tgt := 65) dX7_findBest_39 (by decide) (fun hc11 => ?_) (fun hc11 => ?_)
    · have h := h.1 hc11
      refine JT_iinc (q := 2) (v := (a2 + (-1))) (lv' := [(2, .int (a2 + (-1))), (0, .ref 218), (1, .ref L1)]) dX7_findBest_65 rfl (by rfl) (Nat.le_of_ble_eq_true rfl) rfl ?_
      refine JT_goto (tgt := 30) dX7_findBest_68 (by decide) ?_
      exact JT_sub [1, 2, 0] rfl h
    · have h := h.2 hc11
      refine JT_aload_n (q := 0) dX7_findBest_42 rfl rfl ?_
      refine JT_iload_n (q := 2) dX7_findBest_43 rfl rfl ?_
      refine JS_callVV (M' := MX7_start) (d' := 11) (As := [.int a2]) (rest := []) dX7_findBest_44 cvX7_54 okX7_start rfl (Nat.le_of_ble_eq_true rfl) BS_218 (Nat.le_of_ble_eq_true rfl) (Nat.le_of_ble_eq_true rfl) hci_7 (Nat.le_of_ble_eq_true rfl) (Nat.le_of_ble_eq_true rfl) h (fun s3 h => ?_)
      refine JT_aload_n (q := 0) dX7_findBest_47 rfl rfl ?_
      refine JS_getR (x := 223) dX7_findBest_48 flX7_24 BS_218 (Nat.le_of_ble_eq_true rfl) (Nat.le_of_ble_eq_true rfl) (Or.inr ⟨_, ct_7_9⟩) RF_218_9 ?_
      refine JT_aload_n (q := 0) dX7_findBest_51 rfl rfl ?_
      obtain ⟨hr5, hL6, h⟩ := h
      refine JS_getR (x := (gDx s3 0)) dX7_findBest_52 flX7_40 BS_218 (Nat.le_of_ble_eq_true rfl) (Nat.le_of_ble_eq_true rfl) (Or.inl ⟨_, ct_7_4⟩) (RF_218_4.trans hr5) ?_
      refine JS_getR (x := ((gDx s3 0) + 1)) dX7_findBest_55 flX7_58 (lxB hL6) (lx2 hL6) (lxN hL6) (Or.inr ⟨_, ct_4_0⟩) (lxR0 hL6) ?_
      refine JT_iload_n (q := 2) dX7_findBest_58 rfl rfl ?_
      obtain ⟨o7, h⟩ := h
      refine JS_iald dX7_findBest_59 (lxB1 hL6) (lx2k hL6 _) (lxNk hL6 (Nat.le_of_ble_eq_true rfl)) o7 ?_
      refine JT_dup2 dX7_findBest_60 rfl rfl ?_
      obtain ⟨o8, h⟩ := h
      refine JS_iald dX7_findBest_61 BS_223 (Nat.le_of_ble_eq_true rfl) (Nat.le_of_ble_eq_true rfl) o8 ?_
      refine JT_iconst (v := 1) dX7_findBest_62 ic_1 ?_
      refine JT_isub dX7_findBest_63 ?_
      obtain ⟨o9, h⟩ := h
      refine JS_iast dX7_findBest_64 BS_223 (Nat.le_of_ble_eq_true rfl) (Nat.le_of_ble_eq_true rfl) o9 ?_
      obtain ⟨s10, hs10⟩ : ∃ z, z = (pI s3 223 ((gI s3 ((gDx s3 0) + 1) (a2).toNatClampNeg)).toNatClampNeg ((gI s3 223 ((gI s3 ((gDx s3 0) + 1) (a2).toNatClampNeg)).toNatClampNeg) - (1 : Int32))) := ⟨_, rfl⟩
      replace h := h s10 hs10
      rw [← hs10]
      refine JT_iinc (q := 2) (v := (a2 + (-1))) (lv' := [(2, .int (a2 + (-1))), (0, .ref 218), (1, .ref L1)]) dX7_findBest_65 rfl (by rfl) (Nat.le_of_ble_eq_true rfl) rfl ?_
      refine JT_goto (tgt := 30) dX7_findBest_68 (by decide) ?_
      exact JT_sub [1, 2, 0] rfl h
set_option maxRecDepth 1000000 in
theorem bX7_findBest {L1 P1 : Nat} (hL1 : (L1, P1) ∈ LX) {s : SM} {Q : Int32 → SM → Prop} (h : rX7_prepare s L1 P1 ∧ (∀ s1, s1 = (cI (mX7_prepare s L1 P1) 223 (va_cpy (gI (mX7_prepare s L1 P1) 224) (gI (mX7_prepare s L1 P1) 223) ((0 : Int32)).toNatClampNeg ((0 : Int32)).toNatClampNeg ((9 : Int32)).toNatClampNeg)) → gD s1 0 = some (gDx s1 0) ∧ ((gDx s1 0), rfx (gDx s1 0) 8) ∈ LX ∧ BI MX7_findBest 12 30 [(0, .ref 218), (1, .ref L1), (2, .int ((gI s1 (gDx s1 0) 9) - (1 : Int32)))] s1 Q)) : KI MX7_findBest 12 [.ref 218, .ref L1] s Q := by
  show BI MX7_findBest 12 0 [(0, .ref 218), (1, .ref L1)] s Q
  refine JT_aload_n (q := 0) dX7_findBest_0 rfl rfl ?_
  refine JT_aload_n (q := 1) dX7_findBest_1 rfl rfl ?_
  obtain ⟨o4, h⟩ := h
  refine JS_callVV (M' := MX7_prepare) (d' := 3) (As := [.ref L1]) (rest := []) (P := (fun wm9 => (mX7_prepare s L1 P1) = wm9)) dX7_findBest_2 cvX7_30 okX7_prepare rfl (Nat.le_of_ble_eq_true rfl) BS_218 (Nat.le_of_ble_eq_true rfl) (Nat.le_of_ble_eq_true rfl) hci_7 (Nat.le_of_ble_eq_true rfl) (Nat.le_of_ble_eq_true rfl) (pX7_prepare hL1  o4 rfl) (fun wm9 hq9 => ?_)
  subst hq9
  refine JT_aload_n (q := 0) dX7_findBest_5 rfl rfl ?_
  refine JS_getR (x := 224) dX7_findBest_6 flX7_27 BS_218 (Nat.le_of_ble_eq_true rfl) (Nat.le_of_ble_eq_true rfl) (Or.inr ⟨_, ct_7_10⟩) RF_218_10 ?_
  refine JT_iconst (v := 0) dX7_findBest_9 ic_0 ?_
  refine JT_aload_n (q := 0) dX7_findBest_10 rfl rfl ?_
  refine JS_getR (x := 223) dX7_findBest_11 flX7_24 BS_218 (Nat.le_of_ble_eq_true rfl) (Nat.le_of_ble_eq_true rfl) (Or.inr ⟨_, ct_7_9⟩) RF_218_9 ?_
  refine JT_iconst (v := 0) dX7_findBest_14 ic_0 ?_
  refine JT_bipush (v := 9) dX7_findBest_15 bp_9 ?_
  refine JS_copyI (d2 := 11) (na := 9) (nb := 9) dX7_findBest_17 mlX7_34 BS_223 (Nat.le_of_ble_eq_true rfl) (Nat.le_of_ble_eq_true rfl) BS_224 (Nat.le_of_ble_eq_true rfl) (Nat.le_of_ble_eq_true rfl) (by decide) (by decide) (by decide) (by decide) (by decide) (Nat.le_of_ble_eq_true rfl) rfl ?_
  obtain ⟨s1, hs1⟩ : ∃ z, z = (cI (mX7_prepare s L1 P1) 223 (va_cpy (gI (mX7_prepare s L1 P1) 224) (gI (mX7_prepare s L1 P1) 223) ((0 : Int32)).toNatClampNeg ((0 : Int32)).toNatClampNeg ((9 : Int32)).toNatClampNeg)) := ⟨_, rfl⟩
  replace h := h s1 hs1
  rw [← hs1]
  refine JT_aload_n (q := 0) dX7_findBest_20 rfl rfl ?_
  obtain ⟨hr2, hL3, h⟩ := h
  refine JS_getR (x := (gDx s1 0)) dX7_findBest_21 flX7_40 BS_218 (Nat.le_of_ble_eq_true rfl) (Nat.le_of_ble_eq_true rfl) (Or.inl ⟨_, ct_7_4⟩) (RF_218_4.trans hr2) ?_
  refine JS_getI dX7_findBest_24 flX7_44 (lxB hL3) (lx2 hL3) (lxN hL3) (Or.inl ct_4_9) ?_
  refine JT_iconst (v := 1) dX7_findBest_27 ic_1 ?_
  refine JT_isub dX7_findBest_28 ?_
  refine JT_istore_n (lv' := [(2, .int ((gI s1 (gDx s1 0) 9) - (1 : Int32))), (0, .ref 218), (1, .ref L1)]) dX7_findBest_29 rfl (Nat.le_of_ble_eq_true rfl) rfl ?_
  exact JT_sub [1, 2, 0] rfl h
set_option maxRecDepth 1000000 in
theorem bX7_findBestWith_18 {L1 P1 : Nat} (hL1 : (L1, P1) ∈ LX) (a2 : Int32) {s : SM} {Q : Int32 → SM → Prop} (h : Q (if (gI s 218 1) ≤ 0 then (0 : Int32) else (1 : Int32)) s) : BI MX7_findBestWith 12 18 [(0, .ref 218), (1, .ref L1), (2, .int a2)] s Q := by
  refine JT_aload_n (q := 0) dX7_findBestWith_18 rfl rfl ?_
  refine JS_getI dX7_findBestWith_19 flX7_61 BS_218 (Nat.le_of_ble_eq_true rfl) (Nat.le_of_ble_eq_true rfl) (Or.inl ct_7_1) ?_
  have hj1 : ∀ v : Int32, v = (if (gI s 218 1) ≤ 0 then (0 : Int32) else (1 : Int32)) → JT MX7_findBestWith 12 0 0 30 [(0, .ref 218), (1, .ref L1), (2, .int a2)] [.int v] (std s) (KQ Q) := by
    intro v hv
    subst hv
    exact JS_iret dX7_findBestWith_30 rfl (n01 (i01 (Or.inl rfl) (Or.inr rfl))) h
  refine JT_if_le (tgt := 29) dX7_findBestWith_22 (by decide) (fun hc2 => ?_) (fun hc2 => ?_)
  · refine JT_iconst (v := 0) dX7_findBestWith_29 ic_0 ?_
    exact hj1 _ (by rw [if_pos hc2])
  · refine JT_iconst (v := 1) dX7_findBestWith_25 ic_1 ?_
    refine JT_goto (tgt := 30) dX7_findBestWith_26 (by decide) ?_
    exact hj1 _ (by rw [if_neg hc2])
set_option maxRecDepth 1000000 in
theorem bX7_findBestWith {L1 P1 : Nat} (hL1 : (L1, P1) ∈ LX) (a2 : Int32) {s : SM} {Q : Int32 → SM → Prop} (h : rX7_prepare s L1 P1 ∧ rX7_mayBeIn (mX7_prepare s L1 P1) a2 ∧ (((vX7_mayBeIn (mX7_prepare s L1 P1) a2) = 0 → BI MX7_findBestWith 12 18 [(0, .ref 218), (1, .ref L1), (2, .int a2)] (mX7_prepare s L1 P1) Q) ∧ (¬ (vX7_mayBeIn (mX7_prepare s L1 P1) a2) = 0 → KV MX7_start 11 [.ref 218, .int a2] (mX7_prepare s L1 P1) (fun s1 => BI MX7_findBestWith 12 18 [(0, .ref 218), (1, .ref L1), (2, .int a2)] s1 Q)))) : KI MX7_findBestWith 12 [.ref 218, .ref L1, .int a2] s Q := by
  show BI MX7_findBestWith 12 0 [(0, .ref 218), (1, .ref L1), (2, .int a2)] s Q
  refine JT_aload_n (q := 0) dX7_findBestWith_0 rfl rfl ?_
  refine JT_aload_n (q := 1) dX7_findBestWith_1 rfl rfl ?_
  obtain ⟨o5, h⟩ := h
  refine JS_callVV (M' := MX7_prepare) (d' := 3) (As := [.ref L1]) (rest := []) (P := (fun wm9 => (mX7_prepare s L1 P1) = wm9)) dX7_findBestWith_2 cvX7_30 okX7_prepare rfl (Nat.le_of_ble_eq_true rfl) BS_218 (Nat.le_of_ble_eq_true rfl) (Nat.le_of_ble_eq_true rfl) hci_7 (Nat.le_of_ble_eq_true rfl) (Nat.le_of_ble_eq_true rfl) (pX7_prepare hL1  o5 rfl) (fun wm9 hq9 => ?_)
  subst hq9
  refine JT_aload_n (q := 0) dX7_findBestWith_5 rfl rfl ?_
  refine JT_iload_n (q := 2) dX7_findBestWith_6 rfl rfl ?_
  obtain ⟨o4, h⟩ := h
  refine JS_callVI (M' := MX7_mayBeIn) (d' := 2) (As := [.int a2]) (rest := []) (P := (fun zv9 wm9 => (vX7_mayBeIn (mX7_prepare s L1 P1) a2) = zv9 ∧ (mX7_prepare s L1 P1) = wm9)) dX7_findBestWith_7 cvX7_50 okX7_mayBeIn rfl (Nat.le_of_ble_eq_true rfl) BS_218 (Nat.le_of_ble_eq_true rfl) (Nat.le_of_ble_eq_true rfl) hci_7 (Nat.le_of_ble_eq_true rfl) (Nat.le_of_ble_eq_true rfl) (pX7_mayBeIn  (a2) o4 ⟨rfl, rfl⟩) (fun zv9 wm9 hq9 => ?_)
  obtain ⟨rfl, rfl⟩ := hq9
  refine JT_if_eq (tgt := 18) dX7_findBestWith_10 (by decide) (fun hc3 => ?_) (fun hc3 => ?_)
  · have h := h.1 hc3
    exact JT_sub [0, 1, 2] rfl h
  · have h := h.2 hc3
    refine JT_aload_n (q := 0) dX7_findBestWith_13 rfl rfl ?_
    refine JT_iload_n (q := 2) dX7_findBestWith_14 rfl rfl ?_
    refine JS_callVV (M' := MX7_start) (d' := 11) (As := [.int a2]) (rest := []) dX7_findBestWith_15 cvX7_54 okX7_start rfl (Nat.le_of_ble_eq_true rfl) BS_218 (Nat.le_of_ble_eq_true rfl) (Nat.le_of_ble_eq_true rfl) hci_7 (Nat.le_of_ble_eq_true rfl) (Nat.le_of_ble_eq_true rfl) h (fun s1 h => ?_)
    exact JT_sub [0, 1, 2] rfl h
set_option maxRecDepth 1000000 in
theorem bX11_ring_29 (a1 : Int32) {s : SM} {Q : Int32 → SM → Prop} (h : (((5 : Int32) ≤ a1 → Q (gI s 218 2) s) ∧ (¬ (5 : Int32) ≤ a1 → vp_in a1 5 ∧ vp_in a1 5 ∧ BI MX11_ring 13 29 [(0, .ref 2), (1, .int (a1 + 1))] (pI s 246 (a1).toNatClampNeg (gI s 219 (a1).toNatClampNeg)) Q))) : BI MX11_ring 13 29 [(0, .ref 2), (1, .int a1)] s Q := by
  refine JT_iload_n (q := 1) dX11_ring_29 rfl rfl ?_
  refine JT_iconst (v := 5) dX11_ring_30 ic_5 ?_
  refine JT_icmp_ge (tgt := 55) dX11_ring_31 (by decide) (fun hc3 => ?_) (fun hc3 => ?_)
  · have h := h.1 hc3
    refine JT_aload_n (q := 0) dX11_ring_55 rfl rfl ?_
    refine JS_getR (x := 218) dX11_ring_56 flX11_65 BS_2 (Nat.le_of_ble_eq_true rfl) (Nat.le_of_ble_eq_true rfl) (Or.inl ⟨_, ct_11_9⟩) RF_2_9 ?_
    refine JS_getI dX11_ring_59 flX11_347 BS_218 (Nat.le_of_ble_eq_true rfl) (Nat.le_of_ble_eq_true rfl) (Or.inl ct_7_2) ?_
    exact JS_iret dX11_ring_62 rfl rfl h
  · have h := h.2 hc3
    refine JT_aload_n (q := 0) dX11_ring_34 rfl rfl ?_
    refine JS_getR (x := 246) dX11_ring_35 flX11_97 BS_2 (Nat.le_of_ble_eq_true rfl) (Nat.le_of_ble_eq_true rfl) (Or.inr ⟨_, ct_11_14⟩) RF_2_14 ?_
    refine JT_iload_n (q := 1) dX11_ring_38 rfl rfl ?_
    refine JT_aload_n (q := 0) dX11_ring_39 rfl rfl ?_
    refine JS_getR (x := 218) dX11_ring_40 flX11_65 BS_2 (Nat.le_of_ble_eq_true rfl) (Nat.le_of_ble_eq_true rfl) (Or.inl ⟨_, ct_11_9⟩) RF_2_9 ?_
    refine JS_getR (x := 219) dX11_ring_43 flX11_344 BS_218 (Nat.le_of_ble_eq_true rfl) (Nat.le_of_ble_eq_true rfl) (Or.inr ⟨_, ct_7_0⟩) RF_218_0 ?_
    refine JT_iload_n (q := 1) dX11_ring_46 rfl rfl ?_
    obtain ⟨o1, h⟩ := h
    refine JS_iald dX11_ring_47 BS_219 (Nat.le_of_ble_eq_true rfl) (Nat.le_of_ble_eq_true rfl) o1 ?_
    obtain ⟨o2, h⟩ := h
    refine JS_iast dX11_ring_48 BS_246 (Nat.le_of_ble_eq_true rfl) (Nat.le_of_ble_eq_true rfl) o2 ?_
    refine JT_iinc (q := 1) (v := (a1 + 1)) (lv' := [(1, .int (a1 + 1)), (0, .ref 2)]) dX11_ring_49 rfl (by rfl) (Nat.le_of_ble_eq_true rfl) rfl ?_
    refine JT_goto (tgt := 29) dX11_ring_52 (by decide) ?_
    exact JT_sub [1, 0] rfl h
set_option maxRecDepth 1000000 in
theorem bX11_ring  {s : SM} {Q : Int32 → SM → Prop} (h : KI MX7_findBest 12 [.ref 218, .ref 31] s (fun x2 s1 => ((¬ x2 = 0 → BI MX11_ring 13 29 [(0, .ref 2), (1, .int (0 : Int32))] (pI s1 2 15 (gI s1 218 1)) Q) ∧ (x2 = 0 → Q (-1 : Int32) s1)))) : KI MX11_ring 13 [.ref 2] s Q := by
  show BI MX11_ring 13 0 [(0, .ref 2)] s Q
  refine JT_aload_n (q := 0) dX11_ring_0 rfl rfl ?_
  refine JS_getR (x := 218) dX11_ring_1 flX11_65 BS_2 (Nat.le_of_ble_eq_true rfl) (Nat.le_of_ble_eq_true rfl) (Or.inl ⟨_, ct_11_9⟩) RF_2_9 ?_
  refine JT_aload_n (q := 0) dX11_ring_4 rfl rfl ?_
  refine JS_getR (x := 31) dX11_ring_5 flX11_41 BS_2 (Nat.le_of_ble_eq_true rfl) (Nat.le_of_ble_eq_true rfl) (Or.inl ⟨_, ct_11_5⟩) RF_2_5 ?_
  refine JS_callVI (M' := MX7_findBest) (d' := 12) (As := [.ref 31]) (rest := []) dX11_ring_8 cvX11_336 okX7_findBest rfl (Nat.le_of_ble_eq_true rfl) BS_218 (Nat.le_of_ble_eq_true rfl) (Nat.le_of_ble_eq_true rfl) hci_7 (Nat.le_of_ble_eq_true rfl) (Nat.le_of_ble_eq_true rfl) h (fun x2 s1 h => ?_)
  refine JT_if_ne (tgt := 16) dX11_ring_11 (by decide) (fun hc3 => ?_) (fun hc3 => ?_)
  · have h := h.1 hc3
    refine JT_aload_n (q := 0) dX11_ring_16 rfl rfl ?_
    refine JT_aload_n (q := 0) dX11_ring_17 rfl rfl ?_
    refine JS_getR (x := 218) dX11_ring_18 flX11_65 BS_2 (Nat.le_of_ble_eq_true rfl) (Nat.le_of_ble_eq_true rfl) (Or.inl ⟨_, ct_11_9⟩) RF_2_9 ?_
    refine JS_getI dX11_ring_21 flX11_340 BS_218 (Nat.le_of_ble_eq_true rfl) (Nat.le_of_ble_eq_true rfl) (Or.inl ct_7_1) ?_
    refine JS_putI dX11_ring_24 flX11_341 BS_2 (Nat.le_of_ble_eq_true rfl) (Nat.le_of_ble_eq_true rfl) ct_11_15 ?_
    refine JT_iconst (v := 0) dX11_ring_27 ic_0 ?_
    refine JT_istore_n (lv' := [(1, .int (0 : Int32)), (0, .ref 2)]) dX11_ring_28 rfl (Nat.le_of_ble_eq_true rfl) rfl ?_
    exact JT_sub [1, 0] rfl h
  · have h := h.2 hc3
    refine JT_iconst (v := -1) dX11_ring_14 ic_m1 ?_
    exact JS_iret dX11_ring_15 rfl rfl h
set_option maxRecDepth 1000000 in
theorem bX11_ringOf (a1 : Int32) {s : SM} {Q : Int32 → SM → Prop} (h : (((vX4_hasDeal s 31 5 a1) = 0 → Q (-1 : Int32) s) ∧ (¬ (vX4_hasDeal s 31 5 a1) = 0 → KI MX7_findBestWith 12 [.ref 218, .ref 31, .int a1] s (fun x2 s1 => ((x2 = 0 → Q (-1 : Int32) s1) ∧ (¬ x2 = 0 → Q (gI s1 218 2) s1)))))) : KI MX11_ringOf 13 [.ref 2, .int a1] s Q := by
  show BI MX11_ringOf 13 0 [(0, .ref 2), (1, .int a1)] s Q
  refine JT_aload_n (q := 0) dX11_ringOf_0 rfl rfl ?_
  refine JS_getR (x := 31) dX11_ringOf_1 flX11_41 BS_2 (Nat.le_of_ble_eq_true rfl) (Nat.le_of_ble_eq_true rfl) (Or.inl ⟨_, ct_11_5⟩) RF_2_5 ?_
  refine JT_iload_n (q := 1) dX11_ringOf_4 rfl rfl ?_
  refine JS_callVI (M' := MX4_hasDeal) (d' := 0) (As := [.int a1]) (rest := []) (P := (fun zv9 wm9 => (vX4_hasDeal s 31 5 a1) = zv9 ∧ s = wm9)) dX11_ringOf_5 cvX11_211 okX4_hasDeal rfl (Nat.le_of_ble_eq_true rfl) BS_31 (Nat.le_of_ble_eq_true rfl) (Nat.le_of_ble_eq_true rfl) hci_4 (Nat.le_of_ble_eq_true rfl) (Nat.le_of_ble_eq_true rfl) (pX4_hasDeal hL_31 (a1)  ⟨rfl, rfl⟩) (fun zv9 wm9 hq9 => ?_)
  obtain ⟨rfl, rfl⟩ := hq9
  refine JT_if_eq (tgt := 36) dX11_ringOf_8 (by decide) (fun hc4 => ?_) (fun hc4 => ?_)
  · have h := h.1 hc4
    refine JT_iconst (v := -1) dX11_ringOf_36 ic_m1 ?_
    exact JS_iret dX11_ringOf_37 rfl rfl h
  · have h := h.2 hc4
    refine JT_aload_n (q := 0) dX11_ringOf_11 rfl rfl ?_
    refine JS_getR (x := 218) dX11_ringOf_12 flX11_65 BS_2 (Nat.le_of_ble_eq_true rfl) (Nat.le_of_ble_eq_true rfl) (Or.inl ⟨_, ct_11_9⟩) RF_2_9 ?_
    refine JT_aload_n (q := 0) dX11_ringOf_15 rfl rfl ?_
    refine JS_getR (x := 31) dX11_ringOf_16 flX11_41 BS_2 (Nat.le_of_ble_eq_true rfl) (Nat.le_of_ble_eq_true rfl) (Or.inl ⟨_, ct_11_5⟩) RF_2_5 ?_
    refine JT_iload_n (q := 1) dX11_ringOf_19 rfl rfl ?_
    refine JS_callVI (M' := MX7_findBestWith) (d' := 12) (As := [.ref 31, .int a1]) (rest := []) dX11_ringOf_20 cvX11_350 okX7_findBestWith rfl (Nat.le_of_ble_eq_true rfl) BS_218 (Nat.le_of_ble_eq_true rfl) (Nat.le_of_ble_eq_true rfl) hci_7 (Nat.le_of_ble_eq_true rfl) (Nat.le_of_ble_eq_true rfl) h (fun x2 s1 h => ?_)
    refine JT_if_eq (tgt := 36) dX11_ringOf_23 (by decide) (fun hc3 => ?_) (fun hc3 => ?_)
    · have h := h.1 hc3
      refine JT_iconst (v := -1) dX11_ringOf_36 ic_m1 ?_
      exact JS_iret dX11_ringOf_37 rfl rfl h
    · have h := h.2 hc3
      refine JT_aload_n (q := 0) dX11_ringOf_26 rfl rfl ?_
      refine JS_getR (x := 218) dX11_ringOf_27 flX11_65 BS_2 (Nat.le_of_ble_eq_true rfl) (Nat.le_of_ble_eq_true rfl) (Or.inl ⟨_, ct_11_9⟩) RF_2_9 ?_
      refine JS_getI dX11_ringOf_30 flX11_347 BS_218 (Nat.le_of_ble_eq_true rfl) (Nat.le_of_ble_eq_true rfl) (Or.inl ct_7_2) ?_
      refine JT_goto (tgt := 37) dX11_ringOf_33 (by decide) ?_
      exact JS_iret dX11_ringOf_37 rfl rfl h
set_option maxRecDepth 1000000 in
theorem bX4_tryCut_13 {L0 P0 : Nat} (hL0 : (L0, P0) ∈ LX) (a2 : Int32) {s : SM} {Q : Int32 → SM → Prop} (h : (((gI s 218 1) ≤ a2 → Q (0 : Int32) s) ∧ (¬ (gI s 218 1) ≤ a2 → (((5 : Int32) ≤ a2 → Q (0 : Int32) s) ∧ (¬ (5 : Int32) ≤ a2 → vp_in a2 5 ∧ rX4_lessen s L0 P0 (gI s 219 (a2).toNatClampNeg) (gI s 218 3) ∧ BI MX4_tryCut 13 13 [(0, .ref L0), (1, .ref 218), (2, .int (a2 + 1))] (mX4_lessen s L0 P0 (gI s 219 (a2).toNatClampNeg) (gI s 218 3)) Q))))) : BI MX4_tryCut 13 13 [(0, .ref L0), (1, .ref 218), (2, .int a2)] s Q := by
  refine JT_iload_n (q := 2) dX4_tryCut_13 rfl rfl ?_
  refine JT_aload_n (q := 1) dX4_tryCut_14 rfl rfl ?_
  refine JS_getI dX4_tryCut_15 flX4_160 BS_218 (Nat.le_of_ble_eq_true rfl) (Nat.le_of_ble_eq_true rfl) (Or.inl ct_7_1) ?_
  refine JT_icmp_ge (tgt := 46) dX4_tryCut_18 (by decide) (fun hc4 => ?_) (fun hc4 => ?_)
  · have h := h.1 hc4
    refine JT_iconst (v := 0) dX4_tryCut_46 ic_0 ?_
    exact JS_iret dX4_tryCut_47 rfl rfl h
  · have h := h.2 hc4
    refine JT_iload_n (q := 2) dX4_tryCut_21 rfl rfl ?_
    refine JT_iconst (v := 5) dX4_tryCut_22 ic_5 ?_
    refine JT_icmp_ge (tgt := 46) dX4_tryCut_23 (by decide) (fun hc3 => ?_) (fun hc3 => ?_)
    · have h := h.1 hc3
      refine JT_iconst (v := 0) dX4_tryCut_46 ic_0 ?_
      exact JS_iret dX4_tryCut_47 rfl rfl h
    · have h := h.2 hc3
      refine JT_aload_n (q := 0) dX4_tryCut_26 rfl rfl ?_
      refine JT_aload_n (q := 1) dX4_tryCut_27 rfl rfl ?_
      refine JS_getR (x := 219) dX4_tryCut_28 flX4_163 BS_218 (Nat.le_of_ble_eq_true rfl) (Nat.le_of_ble_eq_true rfl) (Or.inr ⟨_, ct_7_0⟩) RF_218_0 ?_
      refine JT_iload_n (q := 2) dX4_tryCut_31 rfl rfl ?_
      obtain ⟨o1, h⟩ := h
      refine JS_iald dX4_tryCut_32 BS_219 (Nat.le_of_ble_eq_true rfl) (Nat.le_of_ble_eq_true rfl) o1 ?_
      refine JT_aload_n (q := 1) dX4_tryCut_33 rfl rfl ?_
      refine JS_getI dX4_tryCut_34 flX4_166 BS_218 (Nat.le_of_ble_eq_true rfl) (Nat.le_of_ble_eq_true rfl) (Or.inl ct_7_3) ?_
      obtain ⟨o2, h⟩ := h
      refine JS_callVV (M' := MX4_lessen) (d' := 3) (As := [.int (gI s 219 (a2).toNatClampNeg), .int (gI s 218 3)]) (rest := []) (P := (fun wm9 => (mX4_lessen s L0 P0 (gI s 219 (a2).toNatClampNeg) (gI s 218 3)) = wm9)) dX4_tryCut_37 cvX4_169 okX4_lessen rfl (Nat.le_of_ble_eq_true rfl) (lxB hL0) (lx2 hL0) (lxN hL0) hci_4 (Nat.le_of_ble_eq_true rfl) (Nat.le_of_ble_eq_true rfl) (pX4_lessen hL0 ((gI s 219 (a2).toNatClampNeg)) ((gI s 218 3)) o2 rfl) (fun wm9 hq9 => ?_)
      subst hq9
      refine JT_iinc (q := 2) (v := (a2 + 1)) (lv' := [(2, .int (a2 + 1)), (0, .ref L0), (1, .ref 218)]) dX4_tryCut_40 rfl (by rfl) (Nat.le_of_ble_eq_true rfl) rfl ?_
      refine JT_goto (tgt := 13) dX4_tryCut_43 (by decide) ?_
      exact JT_sub [1, 2, 0] rfl h
set_option maxRecDepth 1000000 in
theorem bX4_tryCut {L0 P0 : Nat} (hL0 : (L0, P0) ∈ LX) {s : SM} {Q : Int32 → SM → Prop} (h : KI MX7_findBest 12 [.ref 218, .ref L0] s (fun x2 s1 => ((¬ x2 = 0 → BI MX4_tryCut 13 13 [(0, .ref L0), (1, .ref 218), (2, .int (0 : Int32))] s1 Q) ∧ (x2 = 0 → Q (8 : Int32) s1)))) : KI MX4_tryCut 13 [.ref L0, .ref 218] s Q := by
  show BI MX4_tryCut 13 0 [(0, .ref L0), (1, .ref 218)] s Q
  refine JT_aload_n (q := 1) dX4_tryCut_0 rfl rfl ?_
  refine JT_aload_n (q := 0) dX4_tryCut_1 rfl rfl ?_
  refine JS_callVI (M' := MX7_findBest) (d' := 12) (As := [.ref L0]) (rest := []) dX4_tryCut_2 cvX4_154 okX7_findBest rfl (Nat.le_of_ble_eq_true rfl) BS_218 (Nat.le_of_ble_eq_true rfl) (Nat.le_of_ble_eq_true rfl) hci_7 (Nat.le_of_ble_eq_true rfl) (Nat.le_of_ble_eq_true rfl) h (fun x2 s1 h => ?_)
  refine JT_if_ne (tgt := 11) dX4_tryCut_5 (by decide) (fun hc3 => ?_) (fun hc3 => ?_)
  · have h := h.1 hc3
    refine JT_iconst (v := 0) dX4_tryCut_11 ic_0 ?_
    refine JT_istore_n (lv' := [(2, .int (0 : Int32)), (0, .ref L0), (1, .ref 218)]) dX4_tryCut_12 rfl (Nat.le_of_ble_eq_true rfl) rfl ?_
    exact JT_sub [1, 2, 0] rfl h
  · have h := h.2 hc3
    refine JT_bipush (v := 8) dX4_tryCut_8 bp_8 ?_
    exact JS_iret dX4_tryCut_10 rfl rfl h
set_option maxRecDepth 1000000 in
theorem bX0_tryLine {k0 : Nat} (hk0 : k0 ∈ BX) (a1 : Int32) {L2 P2 : Nat} (hL2 : (L2, P2) ∈ LX) {s : SM} {Q : Int32 → SM → Prop} (h : ((a1 < 0 → Q (0 : Int32) s) ∧ (¬ a1 < 0 → ((a1 < (40 : Int32) → vp_in a1 40 ∧ (((gI s (k0 + 1) (a1).toNatClampNeg) = 0 → vp_in a1 40 ∧ vp_in a1 40 ∧ vp_in a1 40 ∧ vp_in a1 40 ∧ rX4_tryWrite s L2 P2 (gI s (k0 + 2) (a1).toNatClampNeg) (gI s (k0 + 3) (a1).toNatClampNeg) (gI s (k0 + 4) (a1).toNatClampNeg) (gI s (k0 + 5) (a1).toNatClampNeg) ∧ (∀ s8, s8 = (mX4_tryWrite s L2 P2 (gI s (k0 + 2) (a1).toNatClampNeg) (gI s (k0 + 3) (a1).toNatClampNeg) (gI s (k0 + 4) (a1).toNatClampNeg) (gI s (k0 + 5) (a1).toNatClampNeg)) → Q (vX4_tryWrite s L2 P2 (gI s (k0 + 2) (a1).toNatClampNeg) (gI s (k0 + 3) (a1).toNatClampNeg) (gI s (k0 + 4) (a1).toNatClampNeg) (gI s (k0 + 5) (a1).toNatClampNeg)) s8)) ∧ ((gI s (k0 + 1) (a1).toNatClampNeg) = 1 → vp_in a1 40 ∧ rX4_tryStrike s L2 P2 (gI s (k0 + 2) (a1).toNatClampNeg) ∧ Q (vX4_tryStrike s L2 P2 (gI s (k0 + 2) (a1).toNatClampNeg)) (mX4_tryStrike s L2 P2 (gI s (k0 + 2) (a1).toNatClampNeg))) ∧ ((gI s (k0 + 1) (a1).toNatClampNeg) = 2 → vp_in a1 40 ∧ vp_in a1 40 ∧ rX4_tryScar s L2 P2 (gI s (k0 + 2) (a1).toNatClampNeg) (gI s (k0 + 3) (a1).toNatClampNeg) ∧ Q (vX4_tryScar s L2 P2 (gI s (k0 + 2) (a1).toNatClampNeg) (gI s (k0 + 3) (a1).toNatClampNeg)) (mX4_tryScar s L2 P2 (gI s (k0 + 2) (a1).toNatClampNeg) (gI s (k0 + 3) (a1).toNatClampNeg))) ∧ ((gI s (k0 + 1) (a1).toNatClampNeg) = 3 → KI MX4_tryCut 13 [.ref L2, .ref 218] s (fun x16 s15 => Q x16 s15)) ∧ ((gI s (k0 + 1) (a1).toNatClampNeg) = 4 → vp_in a1 40 ∧ vp_in a1 40 ∧ rX4_tryBury s L2 P2 (gI s (k0 + 2) (a1).toNatClampNeg) (gI s (k0 + 3) (a1).toNatClampNeg) ∧ Q (vX4_tryBury s L2 P2 (gI s (k0 + 2) (a1).toNatClampNeg) (gI s (k0 + 3) (a1).toNatClampNeg)) (mX4_tryBury s L2 P2 (gI s (k0 + 2) (a1).toNatClampNeg) (gI s (k0 + 3) (a1).toNatClampNeg))) ∧ (((gI s (k0 + 1) (a1).toNatClampNeg).toInt < 0 ∨ 4 < (gI s (k0 + 1) (a1).toNatClampNeg).toInt) → Q (vX4_tryYear s L2 P2) (mX4_tryYear s L2 P2)))) ∧ (¬ a1 < (40 : Int32) → Q (0 : Int32) s))))) : KI MX0_tryLine 14 [.ref k0, .int a1, .ref L2, .ref 218] s Q := by
  show BI MX0_tryLine 14 0 [(0, .ref k0), (1, .int a1), (2, .ref L2), (3, .ref 218)] s Q
  refine JT_iload_n (q := 1) dX0_tryLine_0 rfl rfl ?_
  refine JT_if_lt (tgt := 10) dX0_tryLine_1 (by decide) (fun hc22 => ?_) (fun hc22 => ?_)
  · have h := h.1 hc22
    refine JT_iconst (v := 0) dX0_tryLine_10 ic_0 ?_
    exact JS_iret dX0_tryLine_11 rfl rfl h
  · have h := h.2 hc22
    refine JT_iload_n (q := 1) dX0_tryLine_4 rfl rfl ?_
    refine JT_bipush (v := 40) dX0_tryLine_5 bp_40 ?_
    refine JT_icmp_lt (tgt := 12) dX0_tryLine_7 (by decide) (fun hc21 => ?_) (fun hc21 => ?_)
    · have h := h.1 hc21
      refine JT_aload_n (q := 0) dX0_tryLine_12 rfl rfl ?_
      refine JS_getR (x := (k0 + 1)) dX0_tryLine_13 flX0_9 (bxB hk0) (bx2 hk0) (bxN hk0) (Or.inr ⟨_, ct_0_1⟩) (bxR1 hk0) ?_
      refine JT_iload_n (q := 1) dX0_tryLine_16 rfl rfl ?_
      obtain ⟨o1, h⟩ := h
      refine JS_iald dX0_tryLine_17 (bxB1 hk0) (bx2k hk0 _) (bxNk hk0 (Nat.le_of_ble_eq_true rfl)) o1 ?_
      by_cases ho2 : ((gI s (k0 + 1) (a1).toNatClampNeg)).toInt < 0 ∨ 4 < ((gI s (k0 + 1) (a1).toNatClampNeg)).toInt
      · have h := h.2.2.2.2.2 ho2
        refine JT_tableOut (tgt := 132) dX0_tryLine_18 ho2 (by decide) ?_
        refine JT_aload_n (q := 2) dX0_tryLine_132 rfl rfl ?_
        refine JS_callVI (M' := MX4_tryYear) (d' := 0) (As := []) (rest := []) (P := (fun zv9 wm9 => (vX4_tryYear s L2 P2) = zv9 ∧ (mX4_tryYear s L2 P2) = wm9)) dX0_tryLine_133 cvX0_139 okX4_tryYear rfl (Nat.le_of_ble_eq_true rfl) (lxB hL2) (lx2 hL2) (lxN hL2) hci_4 (Nat.le_of_ble_eq_true rfl) (Nat.le_of_ble_eq_true rfl) (pX4_tryYear hL2   ⟨rfl, rfl⟩) (fun zv9 wm9 hq9 => ?_)
        obtain ⟨rfl, rfl⟩ := hq9
        exact JS_iret dX0_tryLine_136 rfl rfl h
      · have hk20 : ((gI s (k0 + 1) (a1).toNatClampNeg)).toInt = 0 ∨ ((gI s (k0 + 1) (a1).toNatClampNeg)).toInt = 1 ∨ ((gI s (k0 + 1) (a1).toNatClampNeg)).toInt = 2 ∨ ((gI s (k0 + 1) (a1).toNatClampNeg)).toInt = 3 ∨ ((gI s (k0 + 1) (a1).toNatClampNeg)).toInt = 4 := by omega
        rcases hk20 with hk20 | hk20 | hk20 | hk20 | hk20
        · have h := h.1 (i32_of_toInt hk20)
          refine JT_tableIn (tgt := 52) dX0_tryLine_18 (by omega) (by omega) (by rw [hk20]; rfl) (by decide) ?_
          refine JT_aload_n (q := 2) dX0_tryLine_52 rfl rfl ?_
          refine JT_aload_n (q := 0) dX0_tryLine_53 rfl rfl ?_
          refine JS_getR (x := (k0 + 2)) dX0_tryLine_54 flX0_15 (bxB hk0) (bx2 hk0) (bxN hk0) (Or.inr ⟨_, ct_0_2⟩) (bxR2 hk0) ?_
          refine JT_iload_n (q := 1) dX0_tryLine_57 rfl rfl ?_
          obtain ⟨o4, h⟩ := h
          refine JS_iald dX0_tryLine_58 (bxB2 hk0) (bx2k hk0 _) (bxNk hk0 (Nat.le_of_ble_eq_true rfl)) o4 ?_
          refine JT_aload_n (q := 0) dX0_tryLine_59 rfl rfl ?_
          refine JS_getR (x := (k0 + 3)) dX0_tryLine_60 flX0_18 (bxB hk0) (bx2 hk0) (bxN hk0) (Or.inr ⟨_, ct_0_3⟩) (bxR3 hk0) ?_
          refine JT_iload_n (q := 1) dX0_tryLine_63 rfl rfl ?_
          obtain ⟨o5, h⟩ := h
          refine JS_iald dX0_tryLine_64 (bxB3 hk0) (bx2k hk0 _) (bxNk hk0 (Nat.le_of_ble_eq_true rfl)) o5 ?_
          refine JT_aload_n (q := 0) dX0_tryLine_65 rfl rfl ?_
          refine JS_getR (x := (k0 + 4)) dX0_tryLine_66 flX0_21 (bxB hk0) (bx2 hk0) (bxN hk0) (Or.inr ⟨_, ct_0_4⟩) (bxR4 hk0) ?_
          refine JT_iload_n (q := 1) dX0_tryLine_69 rfl rfl ?_
          obtain ⟨o6, h⟩ := h
          refine JS_iald dX0_tryLine_70 (bxB4 hk0) (bx2k hk0 _) (bxNk hk0 (Nat.le_of_ble_eq_true rfl)) o6 ?_
          refine JT_aload_n (q := 0) dX0_tryLine_71 rfl rfl ?_
          refine JS_getR (x := (k0 + 5)) dX0_tryLine_72 flX0_24 (bxB hk0) (bx2 hk0) (bxN hk0) (Or.inr ⟨_, ct_0_5⟩) (bxR5 hk0) ?_
          refine JT_iload_n (q := 1) dX0_tryLine_75 rfl rfl ?_
          obtain ⟨o7, h⟩ := h
          refine JS_iald dX0_tryLine_76 (bxB5 hk0) (bx2k hk0 _) (bxNk hk0 (Nat.le_of_ble_eq_true rfl)) o7 ?_
          obtain ⟨o9, h⟩ := h
          refine JS_callVI (M' := MX4_tryWrite) (d' := 4) (As := [.int (gI s (k0 + 2) (a1).toNatClampNeg), .int (gI s (k0 + 3) (a1).toNatClampNeg), .int (gI s (k0 + 4) (a1).toNatClampNeg), .int (gI s (k0 + 5) (a1).toNatClampNeg)]) (rest := []) (P := (fun zv9 wm9 => (vX4_tryWrite s L2 P2 (gI s (k0 + 2) (a1).toNatClampNeg) (gI s (k0 + 3) (a1).toNatClampNeg) (gI s (k0 + 4) (a1).toNatClampNeg) (gI s (k0 + 5) (a1).toNatClampNeg)) = zv9 ∧ (mX4_tryWrite s L2 P2 (gI s (k0 + 2) (a1).toNatClampNeg) (gI s (k0 + 3) (a1).toNatClampNeg) (gI s (k0 + 4) (a1).toNatClampNeg) (gI s (k0 + 5) (a1).toNatClampNeg)) = wm9)) dX0_tryLine_77 cvX0_118 okX4_tryWrite rfl (Nat.le_of_ble_eq_true rfl) (lxB hL2) (lx2 hL2) (lxN hL2) hci_4 (Nat.le_of_ble_eq_true rfl) (Nat.le_of_ble_eq_true rfl) (pX4_tryWrite hL2 ((gI s (k0 + 2) (a1).toNatClampNeg)) ((gI s (k0 + 3) (a1).toNatClampNeg)) ((gI s (k0 + 4) (a1).toNatClampNeg)) ((gI s (k0 + 5) (a1).toNatClampNeg)) o9 ⟨rfl, rfl⟩) (fun zv9 wm9 hq9 => ?_)
          obtain ⟨rfl, rfl⟩ := hq9
          obtain ⟨s8, hs8⟩ : ∃ z, z = (mX4_tryWrite s L2 P2 (gI s (k0 + 2) (a1).toNatClampNeg) (gI s (k0 + 3) (a1).toNatClampNeg) (gI s (k0 + 4) (a1).toNatClampNeg) (gI s (k0 + 5) (a1).toNatClampNeg)) := ⟨_, rfl⟩
          replace h := h s8 hs8
          rw [← hs8]
          exact JS_iret dX0_tryLine_80 rfl rfl h
        · have h := h.2.1 (i32_of_toInt hk20)
          refine JT_tableIn (tgt := 81) dX0_tryLine_18 (by omega) (by omega) (by rw [hk20]; rfl) (by decide) ?_
          refine JT_aload_n (q := 2) dX0_tryLine_81 rfl rfl ?_
          refine JT_aload_n (q := 0) dX0_tryLine_82 rfl rfl ?_
          refine JS_getR (x := (k0 + 2)) dX0_tryLine_83 flX0_15 (bxB hk0) (bx2 hk0) (bxN hk0) (Or.inr ⟨_, ct_0_2⟩) (bxR2 hk0) ?_
          refine JT_iload_n (q := 1) dX0_tryLine_86 rfl rfl ?_
          obtain ⟨o10, h⟩ := h
          refine JS_iald dX0_tryLine_87 (bxB2 hk0) (bx2k hk0 _) (bxNk hk0 (Nat.le_of_ble_eq_true rfl)) o10 ?_
          obtain ⟨o11, h⟩ := h
          refine JS_callVI (M' := MX4_tryStrike) (d' := 3) (As := [.int (gI s (k0 + 2) (a1).toNatClampNeg)]) (rest := []) (P := (fun zv9 wm9 => (vX4_tryStrike s L2 P2 (gI s (k0 + 2) (a1).toNatClampNeg)) = zv9 ∧ (mX4_tryStrike s L2 P2 (gI s (k0 + 2) (a1).toNatClampNeg)) = wm9)) dX0_tryLine_88 cvX0_124 okX4_tryStrike rfl (Nat.le_of_ble_eq_true rfl) (lxB hL2) (lx2 hL2) (lxN hL2) hci_4 (Nat.le_of_ble_eq_true rfl) (Nat.le_of_ble_eq_true rfl) (pX4_tryStrike hL2 ((gI s (k0 + 2) (a1).toNatClampNeg)) o11 ⟨rfl, rfl⟩) (fun zv9 wm9 hq9 => ?_)
          obtain ⟨rfl, rfl⟩ := hq9
          exact JS_iret dX0_tryLine_91 rfl rfl h
        · have h := h.2.2.1 (i32_of_toInt hk20)
          refine JT_tableIn (tgt := 92) dX0_tryLine_18 (by omega) (by omega) (by rw [hk20]; rfl) (by decide) ?_
          refine JT_aload_n (q := 2) dX0_tryLine_92 rfl rfl ?_
          refine JT_aload_n (q := 0) dX0_tryLine_93 rfl rfl ?_
          refine JS_getR (x := (k0 + 2)) dX0_tryLine_94 flX0_15 (bxB hk0) (bx2 hk0) (bxN hk0) (Or.inr ⟨_, ct_0_2⟩) (bxR2 hk0) ?_
          refine JT_iload_n (q := 1) dX0_tryLine_97 rfl rfl ?_
          obtain ⟨o12, h⟩ := h
          refine JS_iald dX0_tryLine_98 (bxB2 hk0) (bx2k hk0 _) (bxNk hk0 (Nat.le_of_ble_eq_true rfl)) o12 ?_
          refine JT_aload_n (q := 0) dX0_tryLine_99 rfl rfl ?_
          refine JS_getR (x := (k0 + 3)) dX0_tryLine_100 flX0_18 (bxB hk0) (bx2 hk0) (bxN hk0) (Or.inr ⟨_, ct_0_3⟩) (bxR3 hk0) ?_
          refine JT_iload_n (q := 1) dX0_tryLine_103 rfl rfl ?_
          obtain ⟨o13, h⟩ := h
          refine JS_iald dX0_tryLine_104 (bxB3 hk0) (bx2k hk0 _) (bxNk hk0 (Nat.le_of_ble_eq_true rfl)) o13 ?_
          obtain ⟨o14, h⟩ := h
          refine JS_callVI (M' := MX4_tryScar) (d' := 3) (As := [.int (gI s (k0 + 2) (a1).toNatClampNeg), .int (gI s (k0 + 3) (a1).toNatClampNeg)]) (rest := []) (P := (fun zv9 wm9 => (vX4_tryScar s L2 P2 (gI s (k0 + 2) (a1).toNatClampNeg) (gI s (k0 + 3) (a1).toNatClampNeg)) = zv9 ∧ (mX4_tryScar s L2 P2 (gI s (k0 + 2) (a1).toNatClampNeg) (gI s (k0 + 3) (a1).toNatClampNeg)) = wm9)) dX0_tryLine_105 cvX0_128 okX4_tryScar rfl (Nat.le_of_ble_eq_true rfl) (lxB hL2) (lx2 hL2) (lxN hL2) hci_4 (Nat.le_of_ble_eq_true rfl) (Nat.le_of_ble_eq_true rfl) (pX4_tryScar hL2 ((gI s (k0 + 2) (a1).toNatClampNeg)) ((gI s (k0 + 3) (a1).toNatClampNeg)) o14 ⟨rfl, rfl⟩) (fun zv9 wm9 hq9 => ?_)
          obtain ⟨rfl, rfl⟩ := hq9
          exact JS_iret dX0_tryLine_108 rfl rfl h
        · have h := h.2.2.2.1 (i32_of_toInt hk20)
          refine JT_tableIn (tgt := 109) dX0_tryLine_18 (by omega) (by omega) (by rw [hk20]; rfl) (by decide) ?_
          refine JT_aload_n (q := 2) dX0_tryLine_109 rfl rfl ?_
          refine JT_aload_n (q := 3) dX0_tryLine_110 rfl rfl ?_
          refine JS_callVI (M' := MX4_tryCut) (d' := 13) (As := [.ref 218]) (rest := []) dX0_tryLine_111 cvX0_132 okX4_tryCut rfl (Nat.le_of_ble_eq_true rfl) (lxB hL2) (lx2 hL2) (lxN hL2) hci_4 (Nat.le_of_ble_eq_true rfl) (Nat.le_of_ble_eq_true rfl) h (fun x16 s15 h => ?_)
          exact JS_iret dX0_tryLine_114 rfl rfl h
        · have h := h.2.2.2.2.1 (i32_of_toInt hk20)
          refine JT_tableIn (tgt := 115) dX0_tryLine_18 (by omega) (by omega) (by rw [hk20]; rfl) (by decide) ?_
          refine JT_aload_n (q := 2) dX0_tryLine_115 rfl rfl ?_
          refine JT_aload_n (q := 0) dX0_tryLine_116 rfl rfl ?_
          refine JS_getR (x := (k0 + 2)) dX0_tryLine_117 flX0_15 (bxB hk0) (bx2 hk0) (bxN hk0) (Or.inr ⟨_, ct_0_2⟩) (bxR2 hk0) ?_
          refine JT_iload_n (q := 1) dX0_tryLine_120 rfl rfl ?_
          obtain ⟨o17, h⟩ := h
          refine JS_iald dX0_tryLine_121 (bxB2 hk0) (bx2k hk0 _) (bxNk hk0 (Nat.le_of_ble_eq_true rfl)) o17 ?_
          refine JT_aload_n (q := 0) dX0_tryLine_122 rfl rfl ?_
          refine JS_getR (x := (k0 + 3)) dX0_tryLine_123 flX0_18 (bxB hk0) (bx2 hk0) (bxN hk0) (Or.inr ⟨_, ct_0_3⟩) (bxR3 hk0) ?_
          refine JT_iload_n (q := 1) dX0_tryLine_126 rfl rfl ?_
          obtain ⟨o18, h⟩ := h
          refine JS_iald dX0_tryLine_127 (bxB3 hk0) (bx2k hk0 _) (bxNk hk0 (Nat.le_of_ble_eq_true rfl)) o18 ?_
          obtain ⟨o19, h⟩ := h
          refine JS_callVI (M' := MX4_tryBury) (d' := 2) (As := [.int (gI s (k0 + 2) (a1).toNatClampNeg), .int (gI s (k0 + 3) (a1).toNatClampNeg)]) (rest := []) (P := (fun zv9 wm9 => (vX4_tryBury s L2 P2 (gI s (k0 + 2) (a1).toNatClampNeg) (gI s (k0 + 3) (a1).toNatClampNeg)) = zv9 ∧ (mX4_tryBury s L2 P2 (gI s (k0 + 2) (a1).toNatClampNeg) (gI s (k0 + 3) (a1).toNatClampNeg)) = wm9)) dX0_tryLine_128 cvX0_136 okX4_tryBury rfl (Nat.le_of_ble_eq_true rfl) (lxB hL2) (lx2 hL2) (lxN hL2) hci_4 (Nat.le_of_ble_eq_true rfl) (Nat.le_of_ble_eq_true rfl) (pX4_tryBury hL2 ((gI s (k0 + 2) (a1).toNatClampNeg)) ((gI s (k0 + 3) (a1).toNatClampNeg)) o19 ⟨rfl, rfl⟩) (fun zv9 wm9 hq9 => ?_)
          obtain ⟨rfl, rfl⟩ := hq9
          exact JS_iret dX0_tryLine_131 rfl rfl h
    · have h := h.2 hc21
      refine JT_iconst (v := 0) dX0_tryLine_10 ic_0 ?_
      exact JS_iret dX0_tryLine_11 rfl rfl h
set_option maxRecDepth 1000000 in
theorem bX11_cut  {s : SM} {Q : Int32 → SM → Prop} (h : rX2_note s 31 5 ∧ KI MX4_tryCut 13 [.ref 31, .ref 218] (mX2_note s 31 5) (fun x2 s1 => ((x2 = 0 → Q (gI (mX2_keepNoted s1 ) 218 3) (mX2_keepNoted s1 )) ∧ (¬ x2 = 0 → Q (-1 : Int32) s1)))) : KI MX11_cut 14 [.ref 2] s Q := by
  show BI MX11_cut 14 0 [(0, .ref 2)] s Q
  refine JT_aload_n (q := 0) dX11_cut_0 rfl rfl ?_
  refine JS_getR (x := 55) dX11_cut_1 flX11_51 BS_2 (Nat.le_of_ble_eq_true rfl) (Nat.le_of_ble_eq_true rfl) (Or.inl ⟨_, ct_11_7⟩) RF_2_7 ?_
  refine JT_aload_n (q := 0) dX11_cut_4 rfl rfl ?_
  refine JS_getR (x := 31) dX11_cut_5 flX11_41 BS_2 (Nat.le_of_ble_eq_true rfl) (Nat.le_of_ble_eq_true rfl) (Or.inl ⟨_, ct_11_5⟩) RF_2_5 ?_
  obtain ⟨o5, h⟩ := h
  refine JS_callVV (M' := MX2_note) (d' := 2) (As := [.ref 31]) (rest := []) (P := (fun wm9 => (mX2_note s 31 5) = wm9)) dX11_cut_8 cvX11_300 okX2_note rfl (Nat.le_of_ble_eq_true rfl) BS_55 (Nat.le_of_ble_eq_true rfl) (Nat.le_of_ble_eq_true rfl) hci_2 (Nat.le_of_ble_eq_true rfl) (Nat.le_of_ble_eq_true rfl) (pX2_note hL_31  o5 rfl) (fun wm9 hq9 => ?_)
  subst hq9
  refine JT_aload_n (q := 0) dX11_cut_11 rfl rfl ?_
  refine JS_getR (x := 31) dX11_cut_12 flX11_41 BS_2 (Nat.le_of_ble_eq_true rfl) (Nat.le_of_ble_eq_true rfl) (Or.inl ⟨_, ct_11_5⟩) RF_2_5 ?_
  refine JT_aload_n (q := 0) dX11_cut_15 rfl rfl ?_
  refine JS_getR (x := 218) dX11_cut_16 flX11_65 BS_2 (Nat.le_of_ble_eq_true rfl) (Nat.le_of_ble_eq_true rfl) (Or.inl ⟨_, ct_11_9⟩) RF_2_9 ?_
  refine JS_callVI (M' := MX4_tryCut) (d' := 13) (As := [.ref 218]) (rest := []) dX11_cut_19 cvX11_317 okX4_tryCut rfl (Nat.le_of_ble_eq_true rfl) BS_31 (Nat.le_of_ble_eq_true rfl) (Nat.le_of_ble_eq_true rfl) hci_4 (Nat.le_of_ble_eq_true rfl) (Nat.le_of_ble_eq_true rfl) h (fun x2 s1 h => ?_)
  refine JT_if_eq (tgt := 27) dX11_cut_22 (by decide) (fun hc4 => ?_) (fun hc4 => ?_)
  · have h := h.1 hc4
    refine JT_aload_n (q := 0) dX11_cut_27 rfl rfl ?_
    refine JS_getR (x := 55) dX11_cut_28 flX11_51 BS_2 (Nat.le_of_ble_eq_true rfl) (Nat.le_of_ble_eq_true rfl) (Or.inl ⟨_, ct_11_7⟩) RF_2_7 ?_
    refine JS_callVV (M' := MX2_keepNoted) (d' := 1) (As := []) (rest := []) (P := (fun wm9 => (mX2_keepNoted s1 ) = wm9)) dX11_cut_31 cvX11_308 okX2_keepNoted rfl (Nat.le_of_ble_eq_true rfl) BS_55 (Nat.le_of_ble_eq_true rfl) (Nat.le_of_ble_eq_true rfl) hci_2 (Nat.le_of_ble_eq_true rfl) (Nat.le_of_ble_eq_true rfl) (pX2_keepNoted    rfl) (fun wm9 hq9 => ?_)
    subst hq9
    refine JT_aload_n (q := 0) dX11_cut_34 rfl rfl ?_
    refine JS_getR (x := 218) dX11_cut_35 flX11_65 BS_2 (Nat.le_of_ble_eq_true rfl) (Nat.le_of_ble_eq_true rfl) (Or.inl ⟨_, ct_11_9⟩) RF_2_9 ?_
    refine JS_getI dX11_cut_38 flX11_321 BS_218 (Nat.le_of_ble_eq_true rfl) (Nat.le_of_ble_eq_true rfl) (Or.inl ct_7_3) ?_
    exact JS_iret dX11_cut_41 rfl rfl h
  · have h := h.2 hc4
    refine JT_iconst (v := -1) dX11_cut_25 ic_m1 ?_
    exact JS_iret dX11_cut_26 rfl rfl h
set_option maxRecDepth 1000000 in
theorem bX11_lasts_59 (a1 : Int32) (a2 : Int32) (a3 : Int32) (a4 : Int32) (a5 : Int32) (a6 : Int32) {s : SM} {Q : Int32 → SM → Prop} (h : (((200 : Int32) ≤ a6 → Q ((gI s 43 9) - a3) s) ∧ (¬ (200 : Int32) ≤ a6 → (((10 : Int32) ≤ a4 → Q ((gI s 43 9) - a3) s) ∧ (¬ (10 : Int32) ≤ a4 → rX11_drawn s (vX11_nextSeed s a5) (gI s 5 6) ∧ rX11_drawn s (vX11_nextSeed s (vX11_nextSeed s a5)) (gI s 5 6) ∧ rX11_drawn s (vX11_nextSeed s (vX11_nextSeed s (vX11_nextSeed s a5))) (gI s 5 7) ∧ rX11_drawn s (vX11_nextSeed s (vX11_nextSeed s (vX11_nextSeed s (vX11_nextSeed s a5)))) (99 : Int32) ∧ ((¬ a1 = (1 : Int32) → BI MX11_lasts 14 176 [(0, .ref 2), (1, .int a1), (2, .int a2), (3, .int a3), (4, .int a4), (5, .int (vX11_nextSeed s (vX11_nextSeed s (vX11_nextSeed s (vX11_nextSeed s a5))))), (6, .int a6), (7, .int (vX11_drawn s (vX11_nextSeed s a5) (gI s 5 6))), (8, .int (vX11_drawn s (vX11_nextSeed s (vX11_nextSeed s a5)) (gI s 5 6))), (9, .int (vX11_drawn s (vX11_nextSeed s (vX11_nextSeed s (vX11_nextSeed s a5))) (gI s 5 7))), (10, .int ((vX11_drawn s (vX11_nextSeed s (vX11_nextSeed s (vX11_nextSeed s (vX11_nextSeed s a5)))) (99 : Int32)) + (1 : Int32)))] s Q) ∧ (a1 = (1 : Int32) → rX4_latestOpen s 43 5 a3 ∧ rX4_tryStrike s 43 5 (vX4_latestOpen s 43 5 a3) ∧ BI MX11_lasts 14 176 [(0, .ref 2), (1, .int a1), (2, .int a2), (3, .int a3), (4, .int a4), (5, .int (vX11_nextSeed s (vX11_nextSeed s (vX11_nextSeed s (vX11_nextSeed s a5))))), (6, .int a6), (7, .int (vX11_drawn s (vX11_nextSeed s a5) (gI s 5 6))), (8, .int (vX11_drawn s (vX11_nextSeed s (vX11_nextSeed s a5)) (gI s 5 6))), (9, .int (vX11_drawn s (vX11_nextSeed s (vX11_nextSeed s (vX11_nextSeed s a5))) (gI s 5 7))), (10, .int ((vX11_drawn s (vX11_nextSeed s (vX11_nextSeed s (vX11_nextSeed s (vX11_nextSeed s a5)))) (99 : Int32)) + (1 : Int32)))] (mX4_tryStrike s 43 5 (vX4_latestOpen s 43 5 a3)) Q))))))) : BI MX11_lasts 14 59 [(0, .ref 2), (1, .int a1), (2, .int a2), (3, .int a3), (4, .int a4), (5, .int a5), (6, .int a6)] s Q := by
  refine JT_iload (q := 6) dX11_lasts_59 rfl ?_
  refine JT_sipush (v := 200) dX11_lasts_61 sp_200 ?_
  refine JT_icmp_ge (tgt := 237) dX11_lasts_64 (by decide) (fun hc13 => ?_) (fun hc13 => ?_)
  · have h := h.1 hc13
    refine JT_aload_n (q := 0) dX11_lasts_237 rfl rfl ?_
    refine JS_getR (x := 43) dX11_lasts_238 flX11_45 BS_2 (Nat.le_of_ble_eq_true rfl) (Nat.le_of_ble_eq_true rfl) (Or.inl ⟨_, ct_11_6⟩) RF_2_6 ?_
    refine JS_getI dX11_lasts_241 flX11_162 BS_43 (Nat.le_of_ble_eq_true rfl) (Nat.le_of_ble_eq_true rfl) (Or.inl ct_4_9) ?_
    refine JT_iload_n (q := 3) dX11_lasts_244 rfl rfl ?_
    refine JT_isub dX11_lasts_245 ?_
    exact JS_iret dX11_lasts_246 rfl rfl h
  · have h := h.2 hc13
    refine JT_iload (q := 4) dX11_lasts_67 rfl ?_
    refine JT_bipush (v := 10) dX11_lasts_69 bp_10 ?_
    refine JT_icmp_ge (tgt := 237) dX11_lasts_71 (by decide) (fun hc12 => ?_) (fun hc12 => ?_)
    · have h := h.1 hc12
      refine JT_aload_n (q := 0) dX11_lasts_237 rfl rfl ?_
      refine JS_getR (x := 43) dX11_lasts_238 flX11_45 BS_2 (Nat.le_of_ble_eq_true rfl) (Nat.le_of_ble_eq_true rfl) (Or.inl ⟨_, ct_11_6⟩) RF_2_6 ?_
      refine JS_getI dX11_lasts_241 flX11_162 BS_43 (Nat.le_of_ble_eq_true rfl) (Nat.le_of_ble_eq_true rfl) (Or.inl ct_4_9) ?_
      refine JT_iload_n (q := 3) dX11_lasts_244 rfl rfl ?_
      refine JT_isub dX11_lasts_245 ?_
      exact JS_iret dX11_lasts_246 rfl rfl h
    · have h := h.2 hc12
      refine JT_iload (q := 5) dX11_lasts_74 rfl ?_
      refine JS_callSI (M' := MX11_nextSeed) (d' := 0) (As := [.int a5]) (rest := []) (P := (fun zv9 wm9 => (vX11_nextSeed s a5) = zv9 ∧ s = wm9)) dX11_lasts_76 cvX11_371 okX11_nextSeed rfl (Nat.le_of_ble_eq_true rfl) (Nat.le_of_ble_eq_true rfl) (Nat.le_of_ble_eq_true rfl) (pX11_nextSeed  (a5)  ⟨rfl, rfl⟩) (fun zv9 wm9 hq9 => ?_)
      obtain ⟨rfl, rfl⟩ := hq9
      refine JT_istore (lv' := [(5, .int (vX11_nextSeed s a5)), (0, .ref 2), (1, .int a1), (2, .int a2), (3, .int a3), (4, .int a4), (6, .int a6)]) dX11_lasts_79 (Nat.le_of_ble_eq_true rfl) rfl ?_
      refine JT_iload (q := 0) dX11_lasts_81 rfl ?_
      refine JT_aload_n (q := 1) dX11_lasts_83 rfl rfl ?_
      refine JS_getR (x := 5) dX11_lasts_84 flX11_19 BS_2 (Nat.le_of_ble_eq_true rfl) (Nat.le_of_ble_eq_true rfl) (Or.inl ⟨_, ct_11_1⟩) RF_2_1 ?_
      refine JS_getI dX11_lasts_87 flX11_150 BS_5 (Nat.le_of_ble_eq_true rfl) (Nat.le_of_ble_eq_true rfl) (Or.inl ct_6_6) ?_
      obtain ⟨o10, h⟩ := h
      refine JS_callSI (M' := MX11_drawn) (d' := 0) (As := [.int (vX11_nextSeed s a5), .int (gI s 5 6)]) (rest := []) (P := (fun zv9 wm9 => (vX11_drawn s (vX11_nextSeed s a5) (gI s 5 6)) = zv9 ∧ s = wm9)) dX11_lasts_90 cvX11_374 okX11_drawn rfl (Nat.le_of_ble_eq_true rfl) (Nat.le_of_ble_eq_true rfl) (Nat.le_of_ble_eq_true rfl) (pX11_drawn  ((vX11_nextSeed s a5)) ((gI s 5 6)) o10 ⟨rfl, rfl⟩) (fun zv9 wm9 hq9 => ?_)
      obtain ⟨rfl, rfl⟩ := hq9
      refine JT_istore (lv' := [(7, .int (vX11_drawn s (vX11_nextSeed s a5) (gI s 5 6))), (5, .int (vX11_nextSeed s a5)), (0, .ref 2), (1, .int a1), (2, .int a2), (3, .int a3), (4, .int a4), (6, .int a6)]) dX11_lasts_93 (Nat.le_of_ble_eq_true rfl) rfl ?_
      refine JT_iload (q := 1) dX11_lasts_95 rfl ?_
      refine JS_callSI (M' := MX11_nextSeed) (d' := 0) (As := [.int (vX11_nextSeed s a5)]) (rest := []) (P := (fun zv9 wm9 => (vX11_nextSeed s (vX11_nextSeed s a5)) = zv9 ∧ s = wm9)) dX11_lasts_97 cvX11_371 okX11_nextSeed rfl (Nat.le_of_ble_eq_true rfl) (Nat.le_of_ble_eq_true rfl) (Nat.le_of_ble_eq_true rfl) (pX11_nextSeed  ((vX11_nextSeed s a5))  ⟨rfl, rfl⟩) (fun zv9 wm9 hq9 => ?_)
      obtain ⟨rfl, rfl⟩ := hq9
      refine JT_istore (lv' := [(5, .int (vX11_nextSeed s (vX11_nextSeed s a5))), (7, .int (vX11_drawn s (vX11_nextSeed s a5) (gI s 5 6))), (0, .ref 2), (1, .int a1), (2, .int a2), (3, .int a3), (4, .int a4), (6, .int a6)]) dX11_lasts_100 (Nat.le_of_ble_eq_true rfl) rfl ?_
      refine JT_iload (q := 0) dX11_lasts_102 rfl ?_
      refine JT_aload_n (q := 2) dX11_lasts_104 rfl rfl ?_
      refine JS_getR (x := 5) dX11_lasts_105 flX11_19 BS_2 (Nat.le_of_ble_eq_true rfl) (Nat.le_of_ble_eq_true rfl) (Or.inl ⟨_, ct_11_1⟩) RF_2_1 ?_
      refine JS_getI dX11_lasts_108 flX11_150 BS_5 (Nat.le_of_ble_eq_true rfl) (Nat.le_of_ble_eq_true rfl) (Or.inl ct_6_6) ?_
      obtain ⟨o8, h⟩ := h
      refine JS_callSI (M' := MX11_drawn) (d' := 0) (As := [.int (vX11_nextSeed s (vX11_nextSeed s a5)), .int (gI s 5 6)]) (rest := []) (P := (fun zv9 wm9 => (vX11_drawn s (vX11_nextSeed s (vX11_nextSeed s a5)) (gI s 5 6)) = zv9 ∧ s = wm9)) dX11_lasts_111 cvX11_374 okX11_drawn rfl (Nat.le_of_ble_eq_true rfl) (Nat.le_of_ble_eq_true rfl) (Nat.le_of_ble_eq_true rfl) (pX11_drawn  ((vX11_nextSeed s (vX11_nextSeed s a5))) ((gI s 5 6)) o8 ⟨rfl, rfl⟩) (fun zv9 wm9 hq9 => ?_)
      obtain ⟨rfl, rfl⟩ := hq9
      refine JT_istore (lv' := [(8, .int (vX11_drawn s (vX11_nextSeed s (vX11_nextSeed s a5)) (gI s 5 6))), (5, .int (vX11_nextSeed s (vX11_nextSeed s a5))), (7, .int (vX11_drawn s (vX11_nextSeed s a5) (gI s 5 6))), (0, .ref 2), (1, .int a1), (2, .int a2), (3, .int a3), (4, .int a4), (6, .int a6)]) dX11_lasts_114 (Nat.le_of_ble_eq_true rfl) rfl ?_
      refine JT_iload (q := 1) dX11_lasts_116 rfl ?_
      refine JS_callSI (M' := MX11_nextSeed) (d' := 0) (As := [.int (vX11_nextSeed s (vX11_nextSeed s a5))]) (rest := []) (P := (fun zv9 wm9 => (vX11_nextSeed s (vX11_nextSeed s (vX11_nextSeed s a5))) = zv9 ∧ s = wm9)) dX11_lasts_118 cvX11_371 okX11_nextSeed rfl (Nat.le_of_ble_eq_true rfl) (Nat.le_of_ble_eq_true rfl) (Nat.le_of_ble_eq_true rfl) (pX11_nextSeed  ((vX11_nextSeed s (vX11_nextSeed s a5)))  ⟨rfl, rfl⟩) (fun zv9 wm9 hq9 => ?_)
      obtain ⟨rfl, rfl⟩ := hq9
      refine JT_istore (lv' := [(5, .int (vX11_nextSeed s (vX11_nextSeed s (vX11_nextSeed s a5)))), (8, .int (vX11_drawn s (vX11_nextSeed s (vX11_nextSeed s a5)) (gI s 5 6))), (7, .int (vX11_drawn s (vX11_nextSeed s a5) (gI s 5 6))), (0, .ref 2), (1, .int a1), (2, .int a2), (3, .int a3), (4, .int a4), (6, .int a6)]) dX11_lasts_121 (Nat.le_of_ble_eq_true rfl) rfl ?_
      refine JT_iload (q := 0) dX11_lasts_123 rfl ?_
      refine JT_aload_n (q := 3) dX11_lasts_125 rfl rfl ?_
      refine JS_getR (x := 5) dX11_lasts_126 flX11_19 BS_2 (Nat.le_of_ble_eq_true rfl) (Nat.le_of_ble_eq_true rfl) (Or.inl ⟨_, ct_11_1⟩) RF_2_1 ?_
      refine JS_getI dX11_lasts_129 flX11_153 BS_5 (Nat.le_of_ble_eq_true rfl) (Nat.le_of_ble_eq_true rfl) (Or.inl ct_6_7) ?_
      obtain ⟨o6, h⟩ := h
      refine JS_callSI (M' := MX11_drawn) (d' := 0) (As := [.int (vX11_nextSeed s (vX11_nextSeed s (vX11_nextSeed s a5))), .int (gI s 5 7)]) (rest := []) (P := (fun zv9 wm9 => (vX11_drawn s (vX11_nextSeed s (vX11_nextSeed s (vX11_nextSeed s a5))) (gI s 5 7)) = zv9 ∧ s = wm9)) dX11_lasts_132 cvX11_374 okX11_drawn rfl (Nat.le_of_ble_eq_true rfl) (Nat.le_of_ble_eq_true rfl) (Nat.le_of_ble_eq_true rfl) (pX11_drawn  ((vX11_nextSeed s (vX11_nextSeed s (vX11_nextSeed s a5)))) ((gI s 5 7)) o6 ⟨rfl, rfl⟩) (fun zv9 wm9 hq9 => ?_)
      obtain ⟨rfl, rfl⟩ := hq9
      refine JT_istore (lv' := [(9, .int (vX11_drawn s (vX11_nextSeed s (vX11_nextSeed s (vX11_nextSeed s a5))) (gI s 5 7))), (5, .int (vX11_nextSeed s (vX11_nextSeed s (vX11_nextSeed s a5)))), (8, .int (vX11_drawn s (vX11_nextSeed s (vX11_nextSeed s a5)) (gI s 5 6))), (7, .int (vX11_drawn s (vX11_nextSeed s a5) (gI s 5 6))), (0, .ref 2), (1, .int a1), (2, .int a2), (3, .int a3), (4, .int a4), (6, .int a6)]) dX11_lasts_135 (Nat.le_of_ble_eq_true rfl) rfl ?_
      refine JT_iload (q := 1) dX11_lasts_137 rfl ?_
      refine JS_callSI (M' := MX11_nextSeed) (d' := 0) (As := [.int (vX11_nextSeed s (vX11_nextSeed s (vX11_nextSeed s a5)))]) (rest := []) (P := (fun zv9 wm9 => (vX11_nextSeed s (vX11_nextSeed s (vX11_nextSeed s (vX11_nextSeed s a5)))) = zv9 ∧ s = wm9)) dX11_lasts_139 cvX11_371 okX11_nextSeed rfl (Nat.le_of_ble_eq_true rfl) (Nat.le_of_ble_eq_true rfl) (Nat.le_of_ble_eq_true rfl) (pX11_nextSeed  ((vX11_nextSeed s (vX11_nextSeed s (vX11_nextSeed s a5))))  ⟨rfl, rfl⟩) (fun zv9 wm9 hq9 => ?_)
      obtain ⟨rfl, rfl⟩ := hq9
      refine JT_istore (lv' := [(5, .int (vX11_nextSeed s (vX11_nextSeed s (vX11_nextSeed s (vX11_nextSeed s a5))))), (9, .int (vX11_drawn s (vX11_nextSeed s (vX11_nextSeed s (vX11_nextSeed s a5))) (gI s 5 7))), (8, .int (vX11_drawn s (vX11_nextSeed s (vX11_nextSeed s a5)) (gI s 5 6))), (7, .int (vX11_drawn s (vX11_nextSeed s a5) (gI s 5 6))), (0, .ref 2), (1, .int a1), (2, .int a2), (3, .int a3), (4, .int a4), (6, .int a6)]) dX11_lasts_142 (Nat.le_of_ble_eq_true rfl) rfl ?_
      refine JT_iload (q := 0) dX11_lasts_144 rfl ?_
      refine JT_bipush (v := 99) dX11_lasts_146 bp_99 ?_
      obtain ⟨o4, h⟩ := h
      refine JS_callSI (M' := MX11_drawn) (d' := 0) (As := [.int (vX11_nextSeed s (vX11_nextSeed s (vX11_nextSeed s (vX11_nextSeed s a5)))), .int (99 : Int32)]) (rest := []) (P := (fun zv9 wm9 => (vX11_drawn s (vX11_nextSeed s (vX11_nextSeed s (vX11_nextSeed s (vX11_nextSeed s a5)))) (99 : Int32)) = zv9 ∧ s = wm9)) dX11_lasts_148 cvX11_374 okX11_drawn rfl (Nat.le_of_ble_eq_true rfl) (Nat.le_of_ble_eq_true rfl) (Nat.le_of_ble_eq_true rfl) (pX11_drawn  ((vX11_nextSeed s (vX11_nextSeed s (vX11_nextSeed s (vX11_nextSeed s a5))))) ((99 : Int32)) o4 ⟨rfl, rfl⟩) (fun zv9 wm9 hq9 => ?_)
      obtain ⟨rfl, rfl⟩ := hq9
      refine JT_iconst (v := 1) dX11_lasts_151 ic_1 ?_
      refine JT_iadd dX11_lasts_152 ?_
      refine JT_istore (lv' := [(10, .int ((vX11_drawn s (vX11_nextSeed s (vX11_nextSeed s (vX11_nextSeed s (vX11_nextSeed s a5)))) (99 : Int32)) + (1 : Int32))), (5, .int (vX11_nextSeed s (vX11_nextSeed s (vX11_nextSeed s (vX11_nextSeed s a5))))), (9, .int (vX11_drawn s (vX11_nextSeed s (vX11_nextSeed s (vX11_nextSeed s a5))) (gI s 5 7))), (8, .int (vX11_drawn s (vX11_nextSeed s (vX11_nextSeed s a5)) (gI s 5 6))), (7, .int (vX11_drawn s (vX11_nextSeed s a5) (gI s 5 6))), (0, .ref 2), (1, .int a1), (2, .int a2), (3, .int a3), (4, .int a4), (6, .int a6)]) dX11_lasts_153 (Nat.le_of_ble_eq_true rfl) rfl ?_
      refine JT_iload_n (q := 6) dX11_lasts_155 rfl rfl ?_
      refine JT_iconst (v := 1) dX11_lasts_156 ic_1 ?_
      refine JT_icmp_ne (tgt := 176) dX11_lasts_157 (by decide) (fun hc3 => ?_) (fun hc3 => ?_)
      · have h := h.1 hc3
        exact JT_sub [5, 6, 7, 8, 9, 1, 10, 4, 3, 2, 0] rfl h
      · have h := h.2 hc3
        refine JT_aload_n (q := 5) dX11_lasts_160 rfl rfl ?_
        refine JS_getR (x := 43) dX11_lasts_161 flX11_45 BS_2 (Nat.le_of_ble_eq_true rfl) (Nat.le_of_ble_eq_true rfl) (Or.inl ⟨_, ct_11_6⟩) RF_2_6 ?_
        refine JT_aload_n (q := 5) dX11_lasts_164 rfl rfl ?_
        refine JS_getR (x := 43) dX11_lasts_165 flX11_45 BS_2 (Nat.le_of_ble_eq_true rfl) (Nat.le_of_ble_eq_true rfl) (Or.inl ⟨_, ct_11_6⟩) RF_2_6 ?_
        refine JT_iload_n (q := 8) dX11_lasts_168 rfl rfl ?_
        obtain ⟨o2, h⟩ := h
        refine JS_callVI (M' := MX4_latestOpen) (d' := 2) (As := [.int a3]) (rest := [.ref 43]) (P := (fun zv9 wm9 => (vX4_latestOpen s 43 5 a3) = zv9 ∧ s = wm9)) dX11_lasts_169 cvX11_377 okX4_latestOpen rfl (Nat.le_of_ble_eq_true rfl) BS_43 (Nat.le_of_ble_eq_true rfl) (Nat.le_of_ble_eq_true rfl) hci_4 (Nat.le_of_ble_eq_true rfl) (Nat.le_of_ble_eq_true rfl) (pX4_latestOpen hL_43 (a3) o2 ⟨rfl, rfl⟩) (fun zv9 wm9 hq9 => ?_)
        obtain ⟨rfl, rfl⟩ := hq9
        obtain ⟨o1, h⟩ := h
        refine JS_callVI (M' := MX4_tryStrike) (d' := 3) (As := [.int (vX4_latestOpen s 43 5 a3)]) (rest := []) (P := (fun zv9 wm9 => (vX4_tryStrike s 43 5 (vX4_latestOpen s 43 5 a3)) = zv9 ∧ (mX4_tryStrike s 43 5 (vX4_latestOpen s 43 5 a3)) = wm9)) dX11_lasts_172 cvX11_311 okX4_tryStrike rfl (Nat.le_of_ble_eq_true rfl) BS_43 (Nat.le_of_ble_eq_true rfl) (Nat.le_of_ble_eq_true rfl) hci_4 (Nat.le_of_ble_eq_true rfl) (Nat.le_of_ble_eq_true rfl) (pX4_tryStrike hL_43 ((vX4_latestOpen s 43 5 a3)) o1 ⟨rfl, rfl⟩) (fun zv9 wm9 hq9 => ?_)
        obtain ⟨rfl, rfl⟩ := hq9
        refine JT_pop dX11_lasts_175 rfl ?_
        exact JT_sub [5, 6, 7, 8, 9, 1, 10, 4, 3, 2, 0] rfl h
set_option maxRecDepth 1000000 in
theorem bX11_lasts_176 (a1 : Int32) (a2 : Int32) (a3 : Int32) (a4 : Int32) (a5 : Int32) (a6 : Int32) (a7 : Int32) (a8 : Int32) (a9 : Int32) (a10 : Int32) {s : SM} {Q : Int32 → SM → Prop} (h : rX4_tryWrite s 43 5 a7 a8 a10 a9 ∧ ((¬ (vX4_tryWrite s 43 5 a7 a8 a10 a9) = 0 → BI MX11_lasts 14 215 [(0, .ref 2), (1, .int a1), (2, .int a2), (3, .int a3), (4, .int a4), (5, .int a5), (6, .int a6), (7, .int a7), (8, .int a8), (9, .int a9), (10, .int a10), (11, .int (vX4_tryWrite s 43 5 a7 a8 a10 a9))] (mX4_tryWrite s 43 5 a7 a8 a10 a9) Q) ∧ ((vX4_tryWrite s 43 5 a7 a8 a10 a9) = 0 → ((¬ a1 = (2 : Int32) → BI MX11_lasts 14 215 [(0, .ref 2), (1, .int a1), (2, .int a2), (3, .int a3), (4, .int a4), (5, .int a5), (6, .int a6), (7, .int a7), (8, .int a8), (9, .int a9), (10, .int a10), (11, .int (vX4_tryWrite s 43 5 a7 a8 a10 a9))] (mX4_tryWrite s 43 5 a7 a8 a10 a9) Q) ∧ (a1 = (2 : Int32) → KI MX4_tryCut 13 [.ref 43, .ref 218] (mX4_tryWrite s 43 5 a7 a8 a10 a9) (fun x2 s1 => BI MX11_lasts 14 215 [(0, .ref 2), (1, .int a1), (2, .int a2), (3, .int a3), (4, .int a4), (5, .int a5), (6, .int a6), (7, .int a7), (8, .int a8), (9, .int a9), (10, .int a10), (11, .int (vX4_tryWrite s 43 5 a7 a8 a10 a9))] s1 Q)))))) : BI MX11_lasts 14 176 [(0, .ref 2), (1, .int a1), (2, .int a2), (3, .int a3), (4, .int a4), (5, .int a5), (6, .int a6), (7, .int a7), (8, .int a8), (9, .int a9), (10, .int a10)] s Q := by
  refine JT_aload_n (q := 0) dX11_lasts_176 rfl rfl ?_
  refine JS_getR (x := 43) dX11_lasts_177 flX11_45 BS_2 (Nat.le_of_ble_eq_true rfl) (Nat.le_of_ble_eq_true rfl) (Or.inl ⟨_, ct_11_6⟩) RF_2_6 ?_
  refine JT_iload (q := 7) dX11_lasts_180 rfl ?_
  refine JT_iload (q := 8) dX11_lasts_182 rfl ?_
  refine JT_iload (q := 10) dX11_lasts_184 rfl ?_
  refine JT_iload (q := 9) dX11_lasts_186 rfl ?_
  obtain ⟨o5, h⟩ := h
  refine JS_callVI (M' := MX4_tryWrite) (d' := 4) (As := [.int a7, .int a8, .int a10, .int a9]) (rest := []) (P := (fun zv9 wm9 => (vX4_tryWrite s 43 5 a7 a8 a10 a9) = zv9 ∧ (mX4_tryWrite s 43 5 a7 a8 a10 a9) = wm9)) dX11_lasts_188 cvX11_304 okX4_tryWrite rfl (Nat.le_of_ble_eq_true rfl) BS_43 (Nat.le_of_ble_eq_true rfl) (Nat.le_of_ble_eq_true rfl) hci_4 (Nat.le_of_ble_eq_true rfl) (Nat.le_of_ble_eq_true rfl) (pX4_tryWrite hL_43 (a7) (a8) (a10) (a9) o5 ⟨rfl, rfl⟩) (fun zv9 wm9 hq9 => ?_)
  obtain ⟨rfl, rfl⟩ := hq9
  refine JT_istore (lv' := [(11, .int (vX4_tryWrite s 43 5 a7 a8 a10 a9)), (0, .ref 2), (1, .int a1), (2, .int a2), (3, .int a3), (4, .int a4), (5, .int a5), (6, .int a6), (7, .int a7), (8, .int a8), (9, .int a9), (10, .int a10)]) dX11_lasts_191 (Nat.le_of_ble_eq_true rfl) rfl ?_
  refine JT_iload (q := 0) dX11_lasts_193 rfl ?_
  refine JT_if_ne (tgt := 215) dX11_lasts_195 (by decide) (fun hc4 => ?_) (fun hc4 => ?_)
  · have h := h.1 hc4
    exact JT_sub [1, 2, 3, 4, 5, 6, 7, 8, 9, 10, 11, 0] rfl h
  · have h := h.2 hc4
    refine JT_iload_n (q := 2) dX11_lasts_198 rfl rfl ?_
    refine JT_iconst (v := 2) dX11_lasts_199 ic_2 ?_
    refine JT_icmp_ne (tgt := 215) dX11_lasts_200 (by decide) (fun hc3 => ?_) (fun hc3 => ?_)
    · have h := h.1 hc3
      exact JT_sub [1, 2, 3, 4, 5, 6, 7, 8, 9, 10, 11, 0] rfl h
    · have h := h.2 hc3
      refine JT_aload_n (q := 1) dX11_lasts_203 rfl rfl ?_
      refine JS_getR (x := 43) dX11_lasts_204 flX11_45 BS_2 (Nat.le_of_ble_eq_true rfl) (Nat.le_of_ble_eq_true rfl) (Or.inl ⟨_, ct_11_6⟩) RF_2_6 ?_
      refine JT_aload_n (q := 1) dX11_lasts_207 rfl rfl ?_
      refine JS_getR (x := 218) dX11_lasts_208 flX11_65 BS_2 (Nat.le_of_ble_eq_true rfl) (Nat.le_of_ble_eq_true rfl) (Or.inl ⟨_, ct_11_9⟩) RF_2_9 ?_
      refine JS_callVI (M' := MX4_tryCut) (d' := 13) (As := [.ref 218]) (rest := []) dX11_lasts_211 cvX11_317 okX4_tryCut rfl (Nat.le_of_ble_eq_true rfl) BS_43 (Nat.le_of_ble_eq_true rfl) (Nat.le_of_ble_eq_true rfl) hci_4 (Nat.le_of_ble_eq_true rfl) (Nat.le_of_ble_eq_true rfl) h (fun x2 s1 h => ?_)
      refine JT_pop dX11_lasts_214 rfl ?_
      exact JT_sub [1, 2, 3, 4, 5, 6, 7, 8, 9, 10, 11, 0] rfl h
set_option maxRecDepth 1000000 in
theorem bX11_lasts_215 (a1 : Int32) (a2 : Int32) (a3 : Int32) (a4 : Int32) (a5 : Int32) (a6 : Int32) (a7 : Int32) (a8 : Int32) (a9 : Int32) (a10 : Int32) (a11 : Int32) {s : SM} {Q : Int32 → SM → Prop} (h : BI MX11_lasts 14 59 [(0, .ref 2), (1, .int a1), (2, .int a2), (3, .int a3), (4, .int (a4 + (if a11 ≤ (1 : Int32) then (0 : Int32) else (1 : Int32)))), (5, .int a5), (6, .int (a6 + 1))] s Q) : BI MX11_lasts 14 215 [(0, .ref 2), (1, .int a1), (2, .int a2), (3, .int a3), (4, .int a4), (5, .int a5), (6, .int a6), (7, .int a7), (8, .int a8), (9, .int a9), (10, .int a10), (11, .int a11)] s Q := by
  refine JT_iload (q := 4) dX11_lasts_215 rfl ?_
  refine JT_iload (q := 11) dX11_lasts_217 rfl ?_
  refine JT_iconst (v := 1) dX11_lasts_219 ic_1 ?_
  have hj1 : ∀ v : Int32, v = (if a11 ≤ (1 : Int32) then (0 : Int32) else (1 : Int32)) → JT MX11_lasts 14 0 0 228 [(0, .ref 2), (1, .int a1), (2, .int a2), (3, .int a3), (4, .int a4), (5, .int a5), (6, .int a6), (7, .int a7), (8, .int a8), (9, .int a9), (10, .int a10), (11, .int a11)] [.int v, .int a4] (std s) (KQ Q) := by
    intro v hv
    subst hv
    refine JT_iadd dX11_lasts_228 ?_
    refine JT_istore (lv' := [(4, .int (a4 + (if a11 ≤ (1 : Int32) then (0 : Int32) else (1 : Int32)))), (0, .ref 2), (1, .int a1), (2, .int a2), (3, .int a3), (5, .int a5), (6, .int a6), (7, .int a7), (8, .int a8), (9, .int a9), (10, .int a10), (11, .int a11)]) dX11_lasts_229 (Nat.le_of_ble_eq_true rfl) rfl ?_
    refine JT_iinc (q := 6) (v := (a6 + 1)) (lv' := [(6, .int (a6 + 1)), (4, .int (a4 + (if a11 ≤ (1 : Int32) then (0 : Int32) else (1 : Int32)))), (0, .ref 2), (1, .int a1), (2, .int a2), (3, .int a3), (5, .int a5), (7, .int a7), (8, .int a8), (9, .int a9), (10, .int a10), (11, .int a11)]) dX11_lasts_231 rfl (by rfl) (Nat.le_of_ble_eq_true rfl) rfl ?_
    refine JT_goto (tgt := 59) dX11_lasts_234 (by decide) ?_
    exact JT_sub [2, 3, 4, 5, 1, 6, 0] rfl h
  refine JT_icmp_le (tgt := 227) dX11_lasts_220 (by decide) (fun hc2 => ?_) (fun hc2 => ?_)
  · refine JT_iconst (v := 0) dX11_lasts_227 ic_0 ?_
    exact hj1 _ (by rw [if_pos hc2])
  · refine JT_iconst (v := 1) dX11_lasts_223 ic_1 ?_
    refine JT_goto (tgt := 228) dX11_lasts_224 (by decide) ?_
    exact hj1 _ (by rw [if_neg hc2])
set_option maxRecDepth 1000000 in
theorem bX11_lasts (a1 : Int32) (a2 : Int32) {s : SM} {Q : Int32 → SM → Prop} (h : ((a1 < 0 → Q (-1 : Int32) s) ∧ (¬ a1 < 0 → (((2 : Int32) < a1 → Q (-1 : Int32) s) ∧ (¬ (2 : Int32) < a1 → (((gI s 5 6) = 0 → Q (-1 : Int32) s) ∧ (¬ (gI s 5 6) = 0 → ((¬ (gI s 5 7) = 0 → rX4_copyFrom s 43 5 31 5 ∧ BI MX11_lasts 14 59 [(0, .ref 2), (1, .int a1), (2, .int a2), (3, .int (gI (mX4_copyFrom s 43 5 31 5) 43 9)), (4, .int (0 : Int32)), (5, .int a2), (6, .int (0 : Int32))] (mX4_copyFrom s 43 5 31 5) Q) ∧ ((gI s 5 7) = 0 → Q (-1 : Int32) s))))))))) : KI MX11_lasts 14 [.ref 2, .int a1, .int a2] s Q := by
  show BI MX11_lasts 14 0 [(0, .ref 2), (1, .int a1), (2, .int a2)] s Q
  refine JT_iload_n (q := 1) dX11_lasts_0 rfl rfl ?_
  refine JT_if_lt (tgt := 29) dX11_lasts_1 (by decide) (fun hc5 => ?_) (fun hc5 => ?_)
  · have h := h.1 hc5
    refine JT_iconst (v := -1) dX11_lasts_29 ic_m1 ?_
    exact JS_iret dX11_lasts_30 rfl rfl h
  · have h := h.2 hc5
    refine JT_iload_n (q := 1) dX11_lasts_4 rfl rfl ?_
    refine JT_iconst (v := 2) dX11_lasts_5 ic_2 ?_
    refine JT_icmp_gt (tgt := 29) dX11_lasts_6 (by decide) (fun hc4 => ?_) (fun hc4 => ?_)
    · have h := h.1 hc4
      refine JT_iconst (v := -1) dX11_lasts_29 ic_m1 ?_
      exact JS_iret dX11_lasts_30 rfl rfl h
    · have h := h.2 hc4
      refine JT_aload_n (q := 0) dX11_lasts_9 rfl rfl ?_
      refine JS_getR (x := 5) dX11_lasts_10 flX11_19 BS_2 (Nat.le_of_ble_eq_true rfl) (Nat.le_of_ble_eq_true rfl) (Or.inl ⟨_, ct_11_1⟩) RF_2_1 ?_
      refine JS_getI dX11_lasts_13 flX11_150 BS_5 (Nat.le_of_ble_eq_true rfl) (Nat.le_of_ble_eq_true rfl) (Or.inl ct_6_6) ?_
      refine JT_if_eq (tgt := 29) dX11_lasts_16 (by decide) (fun hc3 => ?_) (fun hc3 => ?_)
      · have h := h.1 hc3
        refine JT_iconst (v := -1) dX11_lasts_29 ic_m1 ?_
        exact JS_iret dX11_lasts_30 rfl rfl h
      · have h := h.2 hc3
        refine JT_aload_n (q := 0) dX11_lasts_19 rfl rfl ?_
        refine JS_getR (x := 5) dX11_lasts_20 flX11_19 BS_2 (Nat.le_of_ble_eq_true rfl) (Nat.le_of_ble_eq_true rfl) (Or.inl ⟨_, ct_11_1⟩) RF_2_1 ?_
        refine JS_getI dX11_lasts_23 flX11_153 BS_5 (Nat.le_of_ble_eq_true rfl) (Nat.le_of_ble_eq_true rfl) (Or.inl ct_6_7) ?_
        refine JT_if_ne (tgt := 31) dX11_lasts_26 (by decide) (fun hc2 => ?_) (fun hc2 => ?_)
        · have h := h.1 hc2
          refine JT_aload_n (q := 0) dX11_lasts_31 rfl rfl ?_
          refine JS_getR (x := 43) dX11_lasts_32 flX11_45 BS_2 (Nat.le_of_ble_eq_true rfl) (Nat.le_of_ble_eq_true rfl) (Or.inl ⟨_, ct_11_6⟩) RF_2_6 ?_
          refine JT_aload_n (q := 0) dX11_lasts_35 rfl rfl ?_
          refine JS_getR (x := 31) dX11_lasts_36 flX11_41 BS_2 (Nat.le_of_ble_eq_true rfl) (Nat.le_of_ble_eq_true rfl) (Or.inl ⟨_, ct_11_5⟩) RF_2_5 ?_
          obtain ⟨o1, h⟩ := h
          refine JS_callVV (M' := MX4_copyFrom) (d' := 1) (As := [.ref 31]) (rest := []) (P := (fun wm9 => (mX4_copyFrom s 43 5 31 5) = wm9)) dX11_lasts_39 cvX11_358 okX4_copyFrom rfl (Nat.le_of_ble_eq_true rfl) BS_43 (Nat.le_of_ble_eq_true rfl) (Nat.le_of_ble_eq_true rfl) hci_4 (Nat.le_of_ble_eq_true rfl) (Nat.le_of_ble_eq_true rfl) (pX4_copyFrom hL_43 hL_31  o1 rfl) (fun wm9 hq9 => ?_)
          subst hq9
          refine JT_aload_n (q := 0) dX11_lasts_42 rfl rfl ?_
          refine JS_getR (x := 43) dX11_lasts_43 flX11_45 BS_2 (Nat.le_of_ble_eq_true rfl) (Nat.le_of_ble_eq_true rfl) (Or.inl ⟨_, ct_11_6⟩) RF_2_6 ?_
          refine JS_getI dX11_lasts_46 flX11_162 BS_43 (Nat.le_of_ble_eq_true rfl) (Nat.le_of_ble_eq_true rfl) (Or.inl ct_4_9) ?_
          refine JT_istore_n (lv' := [(3, .int (gI (mX4_copyFrom s 43 5 31 5) 43 9)), (0, .ref 2), (1, .int a1), (2, .int a2)]) dX11_lasts_49 rfl (Nat.le_of_ble_eq_true rfl) rfl ?_
          refine JT_iconst (v := 0) dX11_lasts_50 ic_0 ?_
          refine JT_istore (lv' := [(4, .int (0 : Int32)), (3, .int (gI (mX4_copyFrom s 43 5 31 5) 43 9)), (0, .ref 2), (1, .int a1), (2, .int a2)]) dX11_lasts_51 (Nat.le_of_ble_eq_true rfl) rfl ?_
          refine JT_iload_n (q := 4) dX11_lasts_53 rfl rfl ?_
          refine JT_istore (lv' := [(5, .int a2), (4, .int (0 : Int32)), (3, .int (gI (mX4_copyFrom s 43 5 31 5) 43 9)), (0, .ref 2), (1, .int a1), (2, .int a2)]) dX11_lasts_54 (Nat.le_of_ble_eq_true rfl) rfl ?_
          refine JT_iconst (v := 0) dX11_lasts_56 ic_0 ?_
          refine JT_istore (lv' := [(6, .int (0 : Int32)), (5, .int a2), (4, .int (0 : Int32)), (3, .int (gI (mX4_copyFrom s 43 5 31 5) 43 9)), (0, .ref 2), (1, .int a1), (2, .int a2)]) dX11_lasts_57 (Nat.le_of_ble_eq_true rfl) rfl ?_
          exact JT_sub [4, 5, 6, 3, 2, 1, 0] rfl h
        · have h := h.2 hc2
          refine JT_iconst (v := -1) dX11_lasts_29 ic_m1 ?_
          exact JS_iret dX11_lasts_30 rfl rfl h
set_option maxRecDepth 1000000 in
theorem bX11_ringsFor_29 (a1 : Int32) (a2 : Int32) (a3 : Int32) (a4 : Int32) {s : SM} {Q : Int32 → SM → Prop} (h : (((60 : Int32) < a4 → Q (-1 : Int32) s) ∧ (¬ (60 : Int32) < a4 → rX4_wrongToWrite s 43 5 a1 a2 a3 ∧ ((¬ (vX4_wrongToWrite s 43 5 a1 a2 a3) = 0 → (((vX4_wrongToWrite s 43 5 a1 a2 a3) = (1 : Int32) → Q (-1 : Int32) (mX4_wrongToWrite s 43 5 a1 a2 a3)) ∧ (¬ (vX4_wrongToWrite s 43 5 a1 a2 a3) = (1 : Int32) → KI MX4_tryCut 13 [.ref 43, .ref 218] (mX4_wrongToWrite s 43 5 a1 a2 a3) (fun x2 s1 => ((x2 = 0 → BI MX11_ringsFor 14 29 [(0, .ref 2), (1, .int a1), (2, .int a2), (3, .int a3), (4, .int (a4 + 1))] s1 Q) ∧ (¬ x2 = 0 → Q (-1 : Int32) s1)))))) ∧ ((vX4_wrongToWrite s 43 5 a1 a2 a3) = 0 → Q a4 (mX4_wrongToWrite s 43 5 a1 a2 a3)))))) : BI MX11_ringsFor 14 29 [(0, .ref 2), (1, .int a1), (2, .int a2), (3, .int a3), (4, .int a4)] s Q := by
  refine JT_iload (q := 4) dX11_ringsFor_29 rfl ?_
  refine JT_bipush (v := 60) dX11_ringsFor_31 bp_60 ?_
  refine JT_icmp_gt (tgt := 84) dX11_ringsFor_33 (by decide) (fun hc7 => ?_) (fun hc7 => ?_)
  · have h := h.1 hc7
    refine JT_iconst (v := -1) dX11_ringsFor_84 ic_m1 ?_
    exact JS_iret dX11_ringsFor_85 rfl rfl h
  · have h := h.2 hc7
    refine JT_aload_n (q := 0) dX11_ringsFor_36 rfl rfl ?_
    refine JS_getR (x := 43) dX11_ringsFor_37 flX11_45 BS_2 (Nat.le_of_ble_eq_true rfl) (Nat.le_of_ble_eq_true rfl) (Or.inl ⟨_, ct_11_6⟩) RF_2_6 ?_
    refine JT_iload_n (q := 1) dX11_ringsFor_40 rfl rfl ?_
    refine JT_iload_n (q := 2) dX11_ringsFor_41 rfl rfl ?_
    refine JT_iload_n (q := 3) dX11_ringsFor_42 rfl rfl ?_
    obtain ⟨o6, h⟩ := h
    refine JS_callVI (M' := MX4_wrongToWrite) (d' := 3) (As := [.int a1, .int a2, .int a3]) (rest := []) (P := (fun zv9 wm9 => (vX4_wrongToWrite s 43 5 a1 a2 a3) = zv9 ∧ (mX4_wrongToWrite s 43 5 a1 a2 a3) = wm9)) dX11_ringsFor_43 cvX11_354 okX4_wrongToWrite rfl (Nat.le_of_ble_eq_true rfl) BS_43 (Nat.le_of_ble_eq_true rfl) (Nat.le_of_ble_eq_true rfl) hci_4 (Nat.le_of_ble_eq_true rfl) (Nat.le_of_ble_eq_true rfl) (pX4_wrongToWrite hL_43 (a1) (a2) (a3) o6 ⟨rfl, rfl⟩) (fun zv9 wm9 hq9 => ?_)
    obtain ⟨rfl, rfl⟩ := hq9
    refine JT_istore (lv' := [(5, .int (vX4_wrongToWrite s 43 5 a1 a2 a3)), (0, .ref 2), (1, .int a1), (2, .int a2), (3, .int a3), (4, .int a4)]) dX11_ringsFor_46 (Nat.le_of_ble_eq_true rfl) rfl ?_
    refine JT_iload (q := 0) dX11_ringsFor_48 rfl ?_
    refine JT_if_ne (tgt := 56) dX11_ringsFor_50 (by decide) (fun hc5 => ?_) (fun hc5 => ?_)
    · have h := h.1 hc5
      refine JT_iload (q := 0) dX11_ringsFor_56 rfl ?_
      refine JT_iconst (v := 1) dX11_ringsFor_58 ic_1 ?_
      refine JT_icmp_eq (tgt := 76) dX11_ringsFor_59 (by decide) (fun hc4 => ?_) (fun hc4 => ?_)
      · have h := h.1 hc4
        refine JT_iconst (v := -1) dX11_ringsFor_76 ic_m1 ?_
        exact JS_iret dX11_ringsFor_77 rfl rfl h
      · have h := h.2 hc4
        refine JT_aload_n (q := 1) dX11_ringsFor_62 rfl rfl ?_
        refine JS_getR (x := 43) dX11_ringsFor_63 flX11_45 BS_2 (Nat.le_of_ble_eq_true rfl) (Nat.le_of_ble_eq_true rfl) (Or.inl ⟨_, ct_11_6⟩) RF_2_6 ?_
        refine JT_aload_n (q := 1) dX11_ringsFor_66 rfl rfl ?_
        refine JS_getR (x := 218) dX11_ringsFor_67 flX11_65 BS_2 (Nat.le_of_ble_eq_true rfl) (Nat.le_of_ble_eq_true rfl) (Or.inl ⟨_, ct_11_9⟩) RF_2_9 ?_
        refine JS_callVI (M' := MX4_tryCut) (d' := 13) (As := [.ref 218]) (rest := []) dX11_ringsFor_70 cvX11_317 okX4_tryCut rfl (Nat.le_of_ble_eq_true rfl) BS_43 (Nat.le_of_ble_eq_true rfl) (Nat.le_of_ble_eq_true rfl) hci_4 (Nat.le_of_ble_eq_true rfl) (Nat.le_of_ble_eq_true rfl) h (fun x2 s1 h => ?_)
        refine JT_if_eq (tgt := 78) dX11_ringsFor_73 (by decide) (fun hc3 => ?_) (fun hc3 => ?_)
        · have h := h.1 hc3
          refine JT_iinc (q := 5) (v := (a4 + 1)) (lv' := [(4, .int (a4 + 1)), (5, .int (vX4_wrongToWrite s 43 5 a1 a2 a3)), (0, .ref 2), (1, .int a1), (2, .int a2), (3, .int a3)]) dX11_ringsFor_78 rfl (by rfl) (Nat.le_of_ble_eq_true rfl) rfl ?_
          refine JT_goto (tgt := 29) dX11_ringsFor_81 (by decide) ?_
          exact JT_sub [2, 3, 4, 5, 0] rfl h
        · have h := h.2 hc3
          refine JT_iconst (v := -1) dX11_ringsFor_76 ic_m1 ?_
          exact JS_iret dX11_ringsFor_77 rfl rfl h
    · have h := h.2 hc5
      refine JT_iload (q := 5) dX11_ringsFor_53 rfl ?_
      exact JS_iret dX11_ringsFor_55 rfl rfl h
set_option maxRecDepth 1000000 in
theorem bX11_ringsFor (a1 : Int32) (a2 : Int32) (a3 : Int32) {s : SM} {Q : Int32 → SM → Prop} (h : ((¬ (vX6_hasDealers s 5 a1 a2 a3) = 0 → rX4_copyFrom s 43 5 31 5 ∧ BI MX11_ringsFor 14 29 [(0, .ref 2), (1, .int a1), (2, .int a2), (3, .int a3), (4, .int (0 : Int32))] (mX4_copyFrom s 43 5 31 5) Q) ∧ ((vX6_hasDealers s 5 a1 a2 a3) = 0 → Q (-1 : Int32) s))) : KI MX11_ringsFor 14 [.ref 2, .int a1, .int a2, .int a3] s Q := by
  show BI MX11_ringsFor 14 0 [(0, .ref 2), (1, .int a1), (2, .int a2), (3, .int a3)] s Q
  refine JT_aload_n (q := 0) dX11_ringsFor_0 rfl rfl ?_
  refine JS_getR (x := 5) dX11_ringsFor_1 flX11_19 BS_2 (Nat.le_of_ble_eq_true rfl) (Nat.le_of_ble_eq_true rfl) (Or.inl ⟨_, ct_11_1⟩) RF_2_1 ?_
  refine JT_iload_n (q := 1) dX11_ringsFor_4 rfl rfl ?_
  refine JT_iload_n (q := 2) dX11_ringsFor_5 rfl rfl ?_
  refine JT_iload_n (q := 3) dX11_ringsFor_6 rfl rfl ?_
  refine JS_callVI (M' := MX6_hasDealers) (d' := 1) (As := [.int a1, .int a2, .int a3]) (rest := []) (P := (fun zv9 wm9 => (vX6_hasDealers s 5 a1 a2 a3) = zv9 ∧ s = wm9)) dX11_ringsFor_7 cvX11_296 okX6_hasDealers rfl (Nat.le_of_ble_eq_true rfl) BS_5 (Nat.le_of_ble_eq_true rfl) (Nat.le_of_ble_eq_true rfl) hci_6 (Nat.le_of_ble_eq_true rfl) (Nat.le_of_ble_eq_true rfl) (pX6_hasDealers hp_5 (a1) (a2) (a3)  ⟨rfl, rfl⟩) (fun zv9 wm9 hq9 => ?_)
  obtain ⟨rfl, rfl⟩ := hq9
  refine JT_if_ne (tgt := 15) dX11_ringsFor_10 (by decide) (fun hc2 => ?_) (fun hc2 => ?_)
  · have h := h.1 hc2
    refine JT_aload_n (q := 0) dX11_ringsFor_15 rfl rfl ?_
    refine JS_getR (x := 43) dX11_ringsFor_16 flX11_45 BS_2 (Nat.le_of_ble_eq_true rfl) (Nat.le_of_ble_eq_true rfl) (Or.inl ⟨_, ct_11_6⟩) RF_2_6 ?_
    refine JT_aload_n (q := 0) dX11_ringsFor_19 rfl rfl ?_
    refine JS_getR (x := 31) dX11_ringsFor_20 flX11_41 BS_2 (Nat.le_of_ble_eq_true rfl) (Nat.le_of_ble_eq_true rfl) (Or.inl ⟨_, ct_11_5⟩) RF_2_5 ?_
    obtain ⟨o1, h⟩ := h
    refine JS_callVV (M' := MX4_copyFrom) (d' := 1) (As := [.ref 31]) (rest := []) (P := (fun wm9 => (mX4_copyFrom s 43 5 31 5) = wm9)) dX11_ringsFor_23 cvX11_358 okX4_copyFrom rfl (Nat.le_of_ble_eq_true rfl) BS_43 (Nat.le_of_ble_eq_true rfl) (Nat.le_of_ble_eq_true rfl) hci_4 (Nat.le_of_ble_eq_true rfl) (Nat.le_of_ble_eq_true rfl) (pX4_copyFrom hL_43 hL_31  o1 rfl) (fun wm9 hq9 => ?_)
    subst hq9
    refine JT_iconst (v := 0) dX11_ringsFor_26 ic_0 ?_
    refine JT_istore (lv' := [(4, .int (0 : Int32)), (0, .ref 2), (1, .int a1), (2, .int a2), (3, .int a3)]) dX11_ringsFor_27 (Nat.le_of_ble_eq_true rfl) rfl ?_
    exact JT_sub [1, 2, 3, 4, 0] rfl h
  · have h := h.2 hc2
    refine JT_iconst (v := -1) dX11_ringsFor_13 ic_m1 ?_
    exact JS_iret dX11_ringsFor_14 rfl rfl h
set_option maxRecDepth 1000000 in
theorem bX11_judge_64 (a1 : Int32) {L2 P2 : Nat} (hL2 : (L2, P2) ∈ LX) (a3 : Int32) (a4 : Int32) {s : SM} {Q : Int32 → SM → Prop} (h : (((gI s 19 0) ≤ a4 → BI MX11_judge 15 112 [(0, .ref 2), (1, .int a1), (2, .ref L2), (3, .int a3), (4, .int a4)] s Q) ∧ (¬ (gI s 19 0) ≤ a4 → ((¬ a3 = 0 → BI MX11_judge 15 112 [(0, .ref 2), (1, .int a1), (2, .ref L2), (3, .int a3), (4, .int a4)] s Q) ∧ (a3 = 0 → KI MX0_tryLine 14 [.ref 19, .int a4, .ref L2, .ref 218] s (fun x2 s1 => BI MX11_judge 15 64 [(0, .ref 2), (1, .int a1), (2, .ref L2), (3, .int x2), (4, .int (a4 + (if x2 = 0 then (1 : Int32) else (0 : Int32))))] s1 Q)))))) : BI MX11_judge 15 64 [(0, .ref 2), (1, .int a1), (2, .ref L2), (3, .int a3), (4, .int a4)] s Q := by
  refine JT_iload (q := 4) dX11_judge_64 rfl ?_
  refine JT_aload_n (q := 0) dX11_judge_66 rfl rfl ?_
  refine JS_getR (x := 19) dX11_judge_67 flX11_29 BS_2 (Nat.le_of_ble_eq_true rfl) (Nat.le_of_ble_eq_true rfl) (Or.inl ⟨_, ct_11_3⟩) RF_2_3 ?_
  refine JS_getI dX11_judge_70 flX11_134 BS_19 (Nat.le_of_ble_eq_true rfl) (Nat.le_of_ble_eq_true rfl) (Or.inl ct_0_0) ?_
  refine JT_icmp_ge (tgt := 112) dX11_judge_73 (by decide) (fun hc6 => ?_) (fun hc6 => ?_)
  · have h := h.1 hc6
    exact JT_sub [0, 1, 2, 3, 4] rfl h
  · have h := h.2 hc6
    refine JT_iload_n (q := 3) dX11_judge_76 rfl rfl ?_
    refine JT_if_ne (tgt := 112) dX11_judge_77 (by decide) (fun hc5 => ?_) (fun hc5 => ?_)
    · have h := h.1 hc5
      exact JT_sub [0, 1, 2, 3, 4] rfl h
    · have h := h.2 hc5
      refine JT_aload_n (q := 0) dX11_judge_80 rfl rfl ?_
      refine JS_getR (x := 19) dX11_judge_81 flX11_29 BS_2 (Nat.le_of_ble_eq_true rfl) (Nat.le_of_ble_eq_true rfl) (Or.inl ⟨_, ct_11_3⟩) RF_2_3 ?_
      refine JT_iload (q := 4) dX11_judge_84 rfl ?_
      refine JT_aload_n (q := 2) dX11_judge_86 rfl rfl ?_
      refine JT_aload_n (q := 0) dX11_judge_87 rfl rfl ?_
      refine JS_getR (x := 218) dX11_judge_88 flX11_65 BS_2 (Nat.le_of_ble_eq_true rfl) (Nat.le_of_ble_eq_true rfl) (Or.inl ⟨_, ct_11_9⟩) RF_2_9 ?_
      refine JS_callVI (M' := MX0_tryLine) (d' := 14) (As := [.int a4, .ref L2, .ref 218]) (rest := []) dX11_judge_91 cvX11_360 okX0_tryLine rfl (Nat.le_of_ble_eq_true rfl) BS_19 (Nat.le_of_ble_eq_true rfl) (Nat.le_of_ble_eq_true rfl) hci_0 (Nat.le_of_ble_eq_true rfl) (Nat.le_of_ble_eq_true rfl) h (fun x2 s1 h => ?_)
      refine JT_istore_n (lv' := [(3, .int x2), (0, .ref 2), (1, .int a1), (2, .ref L2), (4, .int a4)]) dX11_judge_94 rfl (Nat.le_of_ble_eq_true rfl) rfl ?_
      refine JT_iload (q := 4) dX11_judge_95 rfl ?_
      refine JT_iload_n (q := 0) dX11_judge_97 rfl rfl ?_
      have hj3 : ∀ v : Int32, v = (if x2 = 0 then (1 : Int32) else (0 : Int32)) → JT MX11_judge 15 0 0 106 [(3, .int x2), (0, .ref 2), (1, .int a1), (2, .ref L2), (4, .int a4)] [.int v, .int a4] (std s1) (KQ Q) := by
        intro v hv
        subst hv
        refine JT_iadd dX11_judge_106 ?_
        refine JT_istore (lv' := [(4, .int (a4 + (if x2 = 0 then (1 : Int32) else (0 : Int32)))), (3, .int x2), (0, .ref 2), (1, .int a1), (2, .ref L2)]) dX11_judge_107 (Nat.le_of_ble_eq_true rfl) rfl ?_
        refine JT_goto (tgt := 64) dX11_judge_109 (by decide) ?_
        exact JT_sub [2, 3, 4, 1, 0] rfl h
      refine JT_if_ne (tgt := 105) dX11_judge_98 (by decide) (fun hc4 => ?_) (fun hc4 => ?_)
      · refine JT_iconst (v := 0) dX11_judge_105 ic_0 ?_
        exact hj3 _ (by rw [if_neg hc4])
      · refine JT_iconst (v := 1) dX11_judge_101 ic_1 ?_
        refine JT_goto (tgt := 106) dX11_judge_102 (by decide) ?_
        exact hj3 _ (by rw [if_pos hc4])
set_option maxRecDepth 1000000 in
theorem bX11_judge_112 (a1 : Int32) {L2 P2 : Nat} (hL2 : (L2, P2) ∈ LX) (a3 : Int32) (a4 : Int32) {s : SM} {Q : Int32 → SM → Prop} (h : ((¬ a1 = (1 : Int32) → BI MX11_judge 15 129 [(0, .ref 2), (1, .int a1), (2, .ref L2), (3, .int a3), (4, .int a4)] s Q) ∧ (a1 = (1 : Int32) → ((a4 ≤ 0 → BI MX11_judge 15 129 [(0, .ref 2), (1, .int a1), (2, .ref L2), (3, .int a3), (4, .int a4)] s Q) ∧ (¬ a4 ≤ 0 → BI MX11_judge 15 129 [(0, .ref 2), (1, .int a1), (2, .ref L2), (3, .int a3), (4, .int a4)] (mX2_keepNoted s ) Q))))) : BI MX11_judge 15 112 [(0, .ref 2), (1, .int a1), (2, .ref L2), (3, .int a3), (4, .int a4)] s Q := by
  refine JT_iload_n (q := 1) dX11_judge_112 rfl rfl ?_
  refine JT_iconst (v := 1) dX11_judge_113 ic_1 ?_
  refine JT_icmp_ne (tgt := 129) dX11_judge_114 (by decide) (fun hc3 => ?_) (fun hc3 => ?_)
  · have h := h.1 hc3
    exact JT_sub [0, 1, 2, 3, 4] rfl h
  · have h := h.2 hc3
    refine JT_iload (q := 4) dX11_judge_117 rfl ?_
    refine JT_if_le (tgt := 129) dX11_judge_119 (by decide) (fun hc2 => ?_) (fun hc2 => ?_)
    · have h := h.1 hc2
      exact JT_sub [0, 1, 2, 3, 4] rfl h
    · have h := h.2 hc2
      refine JT_aload_n (q := 0) dX11_judge_122 rfl rfl ?_
      refine JS_getR (x := 55) dX11_judge_123 flX11_51 BS_2 (Nat.le_of_ble_eq_true rfl) (Nat.le_of_ble_eq_true rfl) (Or.inl ⟨_, ct_11_7⟩) RF_2_7 ?_
      refine JS_callVV (M' := MX2_keepNoted) (d' := 1) (As := []) (rest := []) (P := (fun wm9 => (mX2_keepNoted s ) = wm9)) dX11_judge_126 cvX11_308 okX2_keepNoted rfl (Nat.le_of_ble_eq_true rfl) BS_55 (Nat.le_of_ble_eq_true rfl) (Nat.le_of_ble_eq_true rfl) hci_2 (Nat.le_of_ble_eq_true rfl) (Nat.le_of_ble_eq_true rfl) (pX2_keepNoted    rfl) (fun wm9 hq9 => ?_)
      subst hq9
      exact JT_sub [0, 1, 2, 3, 4] rfl h
set_option maxRecDepth 1000000 in
theorem bX11_judge_129 (a1 : Int32) {L2 P2 : Nat} (hL2 : (L2, P2) ∈ LX) (a3 : Int32) (a4 : Int32) {s : SM} {Q : Int32 → SM → Prop} (h : rX4_openDeals (pI (pI (pI s 2 17 (1 : Int32)) 247 ((0 : Int32)).toNatClampNeg a3) 247 ((1 : Int32)).toNatClampNeg a4) L2 P2 ∧ (∀ s1, s1 = (pI (pI (pI (pI s 2 17 (1 : Int32)) 247 ((0 : Int32)).toNatClampNeg a3) 247 ((1 : Int32)).toNatClampNeg a4) 247 ((2 : Int32)).toNatClampNeg (vX4_openDeals (pI (pI (pI s 2 17 (1 : Int32)) 247 ((0 : Int32)).toNatClampNeg a3) 247 ((1 : Int32)).toNatClampNeg a4) L2 P2)) → rX4_leftOfLiving s1 L2 P2 ∧ (∀ s2, s2 = (pI (pI s1 247 ((3 : Int32)).toNatClampNeg (vX4_leftOfLiving s1 L2 P2)) 247 ((4 : Int32)).toNatClampNeg (gI (pI s1 247 ((3 : Int32)).toNatClampNeg (vX4_leftOfLiving s1 L2 P2)) L2 10)) → Q (if a3 = 0 then (-1 : Int32) else a4) s2))) : BI MX11_judge 15 129 [(0, .ref 2), (1, .int a1), (2, .ref L2), (3, .int a3), (4, .int a4)] s Q := by
  refine JT_aload_n (q := 0) dX11_judge_129 rfl rfl ?_
  refine JT_iconst (v := 1) dX11_judge_130 ic_1 ?_
  refine JS_putZ dX11_judge_131 flX11_364 BS_2 (Nat.le_of_ble_eq_true rfl) (Nat.le_of_ble_eq_true rfl) ct_11_17 (Or.inr rfl) ?_
  refine JT_aload_n (q := 0) dX11_judge_134 rfl rfl ?_
  refine JS_getR (x := 247) dX11_judge_135 flX11_101 BS_2 (Nat.le_of_ble_eq_true rfl) (Nat.le_of_ble_eq_true rfl) (Or.inr ⟨_, ct_11_16⟩) RF_2_16 ?_
  refine JT_iconst (v := 0) dX11_judge_138 ic_0 ?_
  refine JT_iload_n (q := 3) dX11_judge_139 rfl rfl ?_
  refine JS_iast dX11_judge_140 BS_247 (Nat.le_of_ble_eq_true rfl) (Nat.le_of_ble_eq_true rfl) (by unfold vp_in; decide) ?_
  refine JT_aload_n (q := 0) dX11_judge_141 rfl rfl ?_
  refine JS_getR (x := 247) dX11_judge_142 flX11_101 BS_2 (Nat.le_of_ble_eq_true rfl) (Nat.le_of_ble_eq_true rfl) (Or.inr ⟨_, ct_11_16⟩) RF_2_16 ?_
  refine JT_iconst (v := 1) dX11_judge_145 ic_1 ?_
  refine JT_iload (q := 4) dX11_judge_146 rfl ?_
  refine JS_iast dX11_judge_148 BS_247 (Nat.le_of_ble_eq_true rfl) (Nat.le_of_ble_eq_true rfl) (by unfold vp_in; decide) ?_
  refine JT_aload_n (q := 0) dX11_judge_149 rfl rfl ?_
  refine JS_getR (x := 247) dX11_judge_150 flX11_101 BS_2 (Nat.le_of_ble_eq_true rfl) (Nat.le_of_ble_eq_true rfl) (Or.inr ⟨_, ct_11_16⟩) RF_2_16 ?_
  refine JT_iconst (v := 2) dX11_judge_153 ic_2 ?_
  refine JT_aload_n (q := 2) dX11_judge_154 rfl rfl ?_
  obtain ⟨o6, h⟩ := h
  refine JS_callVI (M' := MX4_openDeals) (d' := 2) (As := []) (rest := [.int (2 : Int32), .ref 247]) (P := (fun zv9 wm9 => (vX4_openDeals (pI (pI (pI s 2 17 (1 : Int32)) 247 ((0 : Int32)).toNatClampNeg a3) 247 ((1 : Int32)).toNatClampNeg a4) L2 P2) = zv9 ∧ (pI (pI (pI s 2 17 (1 : Int32)) 247 ((0 : Int32)).toNatClampNeg a3) 247 ((1 : Int32)).toNatClampNeg a4) = wm9)) dX11_judge_155 cvX11_165 okX4_openDeals rfl (Nat.le_of_ble_eq_true rfl) (lxB hL2) (lx2 hL2) (lxN hL2) hci_4 (Nat.le_of_ble_eq_true rfl) (Nat.le_of_ble_eq_true rfl) (pX4_openDeals hL2  o6 ⟨rfl, rfl⟩) (fun zv9 wm9 hq9 => ?_)
  obtain ⟨rfl, rfl⟩ := hq9
  refine JS_iast dX11_judge_158 BS_247 (Nat.le_of_ble_eq_true rfl) (Nat.le_of_ble_eq_true rfl) (by unfold vp_in; decide) ?_
  obtain ⟨s1, hs1⟩ : ∃ z, z = (pI (pI (pI (pI s 2 17 (1 : Int32)) 247 ((0 : Int32)).toNatClampNeg a3) 247 ((1 : Int32)).toNatClampNeg a4) 247 ((2 : Int32)).toNatClampNeg (vX4_openDeals (pI (pI (pI s 2 17 (1 : Int32)) 247 ((0 : Int32)).toNatClampNeg a3) 247 ((1 : Int32)).toNatClampNeg a4) L2 P2)) := ⟨_, rfl⟩
  replace h := h s1 hs1
  rw [← hs1]
  refine JT_aload_n (q := 0) dX11_judge_159 rfl rfl ?_
  refine JS_getR (x := 247) dX11_judge_160 flX11_101 BS_2 (Nat.le_of_ble_eq_true rfl) (Nat.le_of_ble_eq_true rfl) (Or.inr ⟨_, ct_11_16⟩) RF_2_16 ?_
  refine JT_iconst (v := 3) dX11_judge_163 ic_3 ?_
  refine JT_aload_n (q := 2) dX11_judge_164 rfl rfl ?_
  obtain ⟨o5, h⟩ := h
  refine JS_callVI (M' := MX4_leftOfLiving) (d' := 1) (As := []) (rest := [.int (3 : Int32), .ref 247]) (P := (fun zv9 wm9 => (vX4_leftOfLiving s1 L2 P2) = zv9 ∧ s1 = wm9)) dX11_judge_165 cvX11_368 okX4_leftOfLiving rfl (Nat.le_of_ble_eq_true rfl) (lxB hL2) (lx2 hL2) (lxN hL2) hci_4 (Nat.le_of_ble_eq_true rfl) (Nat.le_of_ble_eq_true rfl) (pX4_leftOfLiving hL2  o5 ⟨rfl, rfl⟩) (fun zv9 wm9 hq9 => ?_)
  obtain ⟨rfl, rfl⟩ := hq9
  refine JS_iast dX11_judge_168 BS_247 (Nat.le_of_ble_eq_true rfl) (Nat.le_of_ble_eq_true rfl) (by unfold vp_in; decide) ?_
  refine JT_aload_n (q := 0) dX11_judge_169 rfl rfl ?_
  refine JS_getR (x := 247) dX11_judge_170 flX11_101 BS_2 (Nat.le_of_ble_eq_true rfl) (Nat.le_of_ble_eq_true rfl) (Or.inr ⟨_, ct_11_16⟩) RF_2_16 ?_
  refine JT_iconst (v := 4) dX11_judge_173 ic_4 ?_
  refine JT_aload_n (q := 2) dX11_judge_174 rfl rfl ?_
  refine JS_getI dX11_judge_175 flX11_169 (lxB hL2) (lx2 hL2) (lxN hL2) (Or.inl ct_4_10) ?_
  refine JS_iast dX11_judge_178 BS_247 (Nat.le_of_ble_eq_true rfl) (Nat.le_of_ble_eq_true rfl) (by unfold vp_in; decide) ?_
  obtain ⟨s2, hs2⟩ : ∃ z, z = (pI (pI s1 247 ((3 : Int32)).toNatClampNeg (vX4_leftOfLiving s1 L2 P2)) 247 ((4 : Int32)).toNatClampNeg (gI (pI s1 247 ((3 : Int32)).toNatClampNeg (vX4_leftOfLiving s1 L2 P2)) L2 10)) := ⟨_, rfl⟩
  replace h := h s2 hs2
  rw [← hs2]
  refine JT_iload_n (q := 3) dX11_judge_179 rfl rfl ?_
  have hj3 : ∀ v : Int32, v = (if a3 = 0 then (-1 : Int32) else a4) → JT MX11_judge 15 0 0 189 [(0, .ref 2), (1, .int a1), (2, .ref L2), (3, .int a3), (4, .int a4)] [.int v] (std s2) (KQ Q) := by
    intro v hv
    subst hv
    exact JS_iret dX11_judge_189 rfl rfl h
  refine JT_if_ne (tgt := 187) dX11_judge_180 (by decide) (fun hc4 => ?_) (fun hc4 => ?_)
  · refine JT_iload (q := 4) dX11_judge_187 rfl ?_
    exact hj3 _ (by rw [if_neg hc4])
  · refine JT_iconst (v := -1) dX11_judge_183 ic_m1 ?_
    refine JT_goto (tgt := 189) dX11_judge_184 (by decide) ?_
    exact hj3 _ (by rw [if_pos hc4])
set_option maxRecDepth 1000000 in
theorem bX11_judge (a1 : Int32) {s : SM} {Q : Int32 → SM → Prop} (h : ((a1 < 0 → Q (-2 : Int32) s) ∧ (¬ a1 < 0 → ((a1 ≤ (1 : Int32) → ((¬ a1 = (1 : Int32) → ((¬ a1 = (1 : Int32) → rX4_copyFrom s 43 5 31 5 ∧ BI MX11_judge 15 64 [(0, .ref 2), (1, .int a1), (2, .ref 43), (3, .int (0 : Int32)), (4, .int (0 : Int32))] (mX4_copyFrom s 43 5 31 5) Q) ∧ (a1 = (1 : Int32) → rX2_note s 31 5 ∧ BI MX11_judge 15 64 [(0, .ref 2), (1, .int a1), (2, .ref 43), (3, .int (0 : Int32)), (4, .int (0 : Int32))] (mX2_note s 31 5) Q))) ∧ (a1 = (1 : Int32) → ((¬ a1 = (1 : Int32) → rX4_copyFrom s 43 5 31 5 ∧ BI MX11_judge 15 64 [(0, .ref 2), (1, .int a1), (2, .ref 31), (3, .int (0 : Int32)), (4, .int (0 : Int32))] (mX4_copyFrom s 43 5 31 5) Q) ∧ (a1 = (1 : Int32) → rX2_note s 31 5 ∧ BI MX11_judge 15 64 [(0, .ref 2), (1, .int a1), (2, .ref 31), (3, .int (0 : Int32)), (4, .int (0 : Int32))] (mX2_note s 31 5) Q))))) ∧ (¬ a1 ≤ (1 : Int32) → Q (-2 : Int32) s))))) : KI MX11_judge 15 [.ref 2, .int a1] s Q := by
  show BI MX11_judge 15 0 [(0, .ref 2), (1, .int a1)] s Q
  refine JT_iload_n (q := 1) dX11_judge_0 rfl rfl ?_
  refine JT_if_lt (tgt := 9) dX11_judge_1 (by decide) (fun hc9 => ?_) (fun hc9 => ?_)
  · have h := h.1 hc9
    refine JT_bipush (v := -2) dX11_judge_9 bp_m2 ?_
    exact JS_iret dX11_judge_11 rfl rfl h
  · have h := h.2 hc9
    refine JT_iload_n (q := 1) dX11_judge_4 rfl rfl ?_
    refine JT_iconst (v := 1) dX11_judge_5 ic_1 ?_
    refine JT_icmp_le (tgt := 12) dX11_judge_6 (by decide) (fun hc8 => ?_) (fun hc8 => ?_)
    · have h := h.1 hc8
      refine JT_iload_n (q := 1) dX11_judge_12 rfl rfl ?_
      refine JT_iconst (v := 1) dX11_judge_13 ic_1 ?_
      refine JT_icmp_ne (tgt := 24) dX11_judge_14 (by decide) (fun hc7 => ?_) (fun hc7 => ?_)
      · have h := h.1 hc7
        refine JT_aload_n (q := 0) dX11_judge_24 rfl rfl ?_
        refine JS_getR (x := 43) dX11_judge_25 flX11_45 BS_2 (Nat.le_of_ble_eq_true rfl) (Nat.le_of_ble_eq_true rfl) (Or.inl ⟨_, ct_11_6⟩) RF_2_6 ?_
        refine JT_astore_n (lv' := [(2, .ref 43), (0, .ref 2), (1, .int a1)]) dX11_judge_28 rfl (Nat.le_of_ble_eq_true rfl) rfl ?_
        refine JT_iload_n (q := 2) dX11_judge_29 rfl rfl ?_
        refine JT_iconst (v := 1) dX11_judge_30 ic_1 ?_
        refine JT_icmp_ne (tgt := 48) dX11_judge_31 (by decide) (fun hc3 => ?_) (fun hc3 => ?_)
        · have h := h.1 hc3
          refine JT_aload_n (q := 1) dX11_judge_48 rfl rfl ?_
          refine JS_getR (x := 43) dX11_judge_49 flX11_45 BS_2 (Nat.le_of_ble_eq_true rfl) (Nat.le_of_ble_eq_true rfl) (Or.inl ⟨_, ct_11_6⟩) RF_2_6 ?_
          refine JT_aload_n (q := 1) dX11_judge_52 rfl rfl ?_
          refine JS_getR (x := 31) dX11_judge_53 flX11_41 BS_2 (Nat.le_of_ble_eq_true rfl) (Nat.le_of_ble_eq_true rfl) (Or.inl ⟨_, ct_11_5⟩) RF_2_5 ?_
          obtain ⟨o1, h⟩ := h
          refine JS_callVV (M' := MX4_copyFrom) (d' := 1) (As := [.ref 31]) (rest := []) (P := (fun wm9 => (mX4_copyFrom s 43 5 31 5) = wm9)) dX11_judge_56 cvX11_358 okX4_copyFrom rfl (Nat.le_of_ble_eq_true rfl) BS_43 (Nat.le_of_ble_eq_true rfl) (Nat.le_of_ble_eq_true rfl) hci_4 (Nat.le_of_ble_eq_true rfl) (Nat.le_of_ble_eq_true rfl) (pX4_copyFrom hL_43 hL_31  o1 rfl) (fun wm9 hq9 => ?_)
          subst hq9
          refine JT_iconst (v := 0) dX11_judge_59 ic_0 ?_
          refine JT_istore_n (lv' := [(3, .int (0 : Int32)), (2, .ref 43), (0, .ref 2), (1, .int a1)]) dX11_judge_60 rfl (Nat.le_of_ble_eq_true rfl) rfl ?_
          refine JT_iconst (v := 0) dX11_judge_61 ic_0 ?_
          refine JT_istore (lv' := [(4, .int (0 : Int32)), (3, .int (0 : Int32)), (2, .ref 43), (0, .ref 2), (1, .int a1)]) dX11_judge_62 (Nat.le_of_ble_eq_true rfl) rfl ?_
          exact JT_sub [3, 4, 2, 1, 0] rfl h
        · have h := h.2 hc3
          refine JT_aload_n (q := 1) dX11_judge_34 rfl rfl ?_
          refine JS_getR (x := 55) dX11_judge_35 flX11_51 BS_2 (Nat.le_of_ble_eq_true rfl) (Nat.le_of_ble_eq_true rfl) (Or.inl ⟨_, ct_11_7⟩) RF_2_7 ?_
          refine JT_aload_n (q := 1) dX11_judge_38 rfl rfl ?_
          refine JS_getR (x := 31) dX11_judge_39 flX11_41 BS_2 (Nat.le_of_ble_eq_true rfl) (Nat.le_of_ble_eq_true rfl) (Or.inl ⟨_, ct_11_5⟩) RF_2_5 ?_
          obtain ⟨o2, h⟩ := h
          refine JS_callVV (M' := MX2_note) (d' := 2) (As := [.ref 31]) (rest := []) (P := (fun wm9 => (mX2_note s 31 5) = wm9)) dX11_judge_42 cvX11_300 okX2_note rfl (Nat.le_of_ble_eq_true rfl) BS_55 (Nat.le_of_ble_eq_true rfl) (Nat.le_of_ble_eq_true rfl) hci_2 (Nat.le_of_ble_eq_true rfl) (Nat.le_of_ble_eq_true rfl) (pX2_note hL_31  o2 rfl) (fun wm9 hq9 => ?_)
          subst hq9
          refine JT_goto (tgt := 59) dX11_judge_45 (by decide) ?_
          refine JT_iconst (v := 0) dX11_judge_59 ic_0 ?_
          refine JT_istore_n (lv' := [(3, .int (0 : Int32)), (2, .ref 43), (0, .ref 2), (1, .int a1)]) dX11_judge_60 rfl (Nat.le_of_ble_eq_true rfl) rfl ?_
          refine JT_iconst (v := 0) dX11_judge_61 ic_0 ?_
          refine JT_istore (lv' := [(4, .int (0 : Int32)), (3, .int (0 : Int32)), (2, .ref 43), (0, .ref 2), (1, .int a1)]) dX11_judge_62 (Nat.le_of_ble_eq_true rfl) rfl ?_
          exact JT_sub [3, 4, 2, 1, 0] rfl h
      · have h := h.2 hc7
        refine JT_aload_n (q := 0) dX11_judge_17 rfl rfl ?_
        refine JS_getR (x := 31) dX11_judge_18 flX11_41 BS_2 (Nat.le_of_ble_eq_true rfl) (Nat.le_of_ble_eq_true rfl) (Or.inl ⟨_, ct_11_5⟩) RF_2_5 ?_
        refine JT_goto (tgt := 28) dX11_judge_21 (by decide) ?_
        refine JT_astore_n (lv' := [(2, .ref 31), (0, .ref 2), (1, .int a1)]) dX11_judge_28 rfl (Nat.le_of_ble_eq_true rfl) rfl ?_
        refine JT_iload_n (q := 2) dX11_judge_29 rfl rfl ?_
        refine JT_iconst (v := 1) dX11_judge_30 ic_1 ?_
        refine JT_icmp_ne (tgt := 48) dX11_judge_31 (by decide) (fun hc6 => ?_) (fun hc6 => ?_)
        · have h := h.1 hc6
          refine JT_aload_n (q := 1) dX11_judge_48 rfl rfl ?_
          refine JS_getR (x := 43) dX11_judge_49 flX11_45 BS_2 (Nat.le_of_ble_eq_true rfl) (Nat.le_of_ble_eq_true rfl) (Or.inl ⟨_, ct_11_6⟩) RF_2_6 ?_
          refine JT_aload_n (q := 1) dX11_judge_52 rfl rfl ?_
          refine JS_getR (x := 31) dX11_judge_53 flX11_41 BS_2 (Nat.le_of_ble_eq_true rfl) (Nat.le_of_ble_eq_true rfl) (Or.inl ⟨_, ct_11_5⟩) RF_2_5 ?_
          obtain ⟨o4, h⟩ := h
          refine JS_callVV (M' := MX4_copyFrom) (d' := 1) (As := [.ref 31]) (rest := []) (P := (fun wm9 => (mX4_copyFrom s 43 5 31 5) = wm9)) dX11_judge_56 cvX11_358 okX4_copyFrom rfl (Nat.le_of_ble_eq_true rfl) BS_43 (Nat.le_of_ble_eq_true rfl) (Nat.le_of_ble_eq_true rfl) hci_4 (Nat.le_of_ble_eq_true rfl) (Nat.le_of_ble_eq_true rfl) (pX4_copyFrom hL_43 hL_31  o4 rfl) (fun wm9 hq9 => ?_)
          subst hq9
          refine JT_iconst (v := 0) dX11_judge_59 ic_0 ?_
          refine JT_istore_n (lv' := [(3, .int (0 : Int32)), (2, .ref 31), (0, .ref 2), (1, .int a1)]) dX11_judge_60 rfl (Nat.le_of_ble_eq_true rfl) rfl ?_
          refine JT_iconst (v := 0) dX11_judge_61 ic_0 ?_
          refine JT_istore (lv' := [(4, .int (0 : Int32)), (3, .int (0 : Int32)), (2, .ref 31), (0, .ref 2), (1, .int a1)]) dX11_judge_62 (Nat.le_of_ble_eq_true rfl) rfl ?_
          exact JT_sub [3, 4, 2, 1, 0] rfl h
        · have h := h.2 hc6
          refine JT_aload_n (q := 1) dX11_judge_34 rfl rfl ?_
          refine JS_getR (x := 55) dX11_judge_35 flX11_51 BS_2 (Nat.le_of_ble_eq_true rfl) (Nat.le_of_ble_eq_true rfl) (Or.inl ⟨_, ct_11_7⟩) RF_2_7 ?_
          refine JT_aload_n (q := 1) dX11_judge_38 rfl rfl ?_
          refine JS_getR (x := 31) dX11_judge_39 flX11_41 BS_2 (Nat.le_of_ble_eq_true rfl) (Nat.le_of_ble_eq_true rfl) (Or.inl ⟨_, ct_11_5⟩) RF_2_5 ?_
          obtain ⟨o5, h⟩ := h
          refine JS_callVV (M' := MX2_note) (d' := 2) (As := [.ref 31]) (rest := []) (P := (fun wm9 => (mX2_note s 31 5) = wm9)) dX11_judge_42 cvX11_300 okX2_note rfl (Nat.le_of_ble_eq_true rfl) BS_55 (Nat.le_of_ble_eq_true rfl) (Nat.le_of_ble_eq_true rfl) hci_2 (Nat.le_of_ble_eq_true rfl) (Nat.le_of_ble_eq_true rfl) (pX2_note hL_31  o5 rfl) (fun wm9 hq9 => ?_)
          subst hq9
          refine JT_goto (tgt := 59) dX11_judge_45 (by decide) ?_
          refine JT_iconst (v := 0) dX11_judge_59 ic_0 ?_
          refine JT_istore_n (lv' := [(3, .int (0 : Int32)), (2, .ref 31), (0, .ref 2), (1, .int a1)]) dX11_judge_60 rfl (Nat.le_of_ble_eq_true rfl) rfl ?_
          refine JT_iconst (v := 0) dX11_judge_61 ic_0 ?_
          refine JT_istore (lv' := [(4, .int (0 : Int32)), (3, .int (0 : Int32)), (2, .ref 31), (0, .ref 2), (1, .int a1)]) dX11_judge_62 (Nat.le_of_ble_eq_true rfl) rfl ?_
          exact JT_sub [3, 4, 2, 1, 0] rfl h
    · have h := h.2 hc8
      refine JT_bipush (v := -2) dX11_judge_9 bp_m2 ?_
      exact JS_iret dX11_judge_11 rfl rfl h
