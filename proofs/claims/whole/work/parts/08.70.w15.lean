set_option maxRecDepth 1000000 in
theorem bX11_judge_64 (a1 : Int32) {L2 P2 : Nat} (hL2 : (L2, P2) ∈ LX) (a3 : Int32) (a4 : Int32) {s : SM} {Q : Int32 → SM → Prop} (h : (((gI s 19 0) ≤ a4 → BI MX11_judge 409 112 [(0, .ref 2), (1, .int a1), (2, .ref L2), (3, .int a3), (4, .int a4)] s Q) ∧ (¬ (gI s 19 0) ≤ a4 → ((¬ a3 = 0 → BI MX11_judge 409 112 [(0, .ref 2), (1, .int a1), (2, .ref L2), (3, .int a3), (4, .int a4)] s Q) ∧ (a3 = 0 → rX0_tryLine s 19 a4 L2 P2 ∧ BI MX11_judge 409 64 [(0, .ref 2), (1, .int a1), (2, .ref L2), (3, .int (vX0_tryLine s 19 a4 L2 P2)), (4, .int (a4 + (if (vX0_tryLine s 19 a4 L2 P2) = 0 then (1 : Int32) else (0 : Int32))))] (mX0_tryLine s 19 a4 L2 P2) Q))))) : BI MX11_judge 409 64 [(0, .ref 2), (1, .int a1), (2, .ref L2), (3, .int a3), (4, .int a4)] s Q := by
  refine JT_iload (q := 4) dX11_judge_64 rfl ?_
  refine JT_aload_n (q := 0) dX11_judge_66 rfl rfl ?_
  refine JS_getR (x := 19) dX11_judge_67 flX11_29 BS_2 (Nat.le_of_ble_eq_true rfl) (Nat.le_of_ble_eq_true rfl) (Or.inl ⟨_, ct_11_3⟩) RF_2_3 ?_
  refine JS_getI dX11_judge_70 flX11_134 BS_19 (Nat.le_of_ble_eq_true rfl) (Nat.le_of_ble_eq_true rfl) (Or.inl ct_0_0) ?_
  refine JT_icmp_ge (tgt := 112) dX11_judge_73 (by decide) (fun hc5 => ?_) (fun hc5 => ?_)
  · have h := h.1 hc5
    exact JT_sub [0, 1, 2, 3, 4] rfl h
  · have h := h.2 hc5
    refine JT_iload_n (q := 3) dX11_judge_76 rfl rfl ?_
    refine JT_if_ne (tgt := 112) dX11_judge_77 (by decide) (fun hc4 => ?_) (fun hc4 => ?_)
    · have h := h.1 hc4
      exact JT_sub [0, 1, 2, 3, 4] rfl h
    · have h := h.2 hc4
      refine JT_aload_n (q := 0) dX11_judge_80 rfl rfl ?_
      refine JS_getR (x := 19) dX11_judge_81 flX11_29 BS_2 (Nat.le_of_ble_eq_true rfl) (Nat.le_of_ble_eq_true rfl) (Or.inl ⟨_, ct_11_3⟩) RF_2_3 ?_
      refine JT_iload (q := 4) dX11_judge_84 rfl ?_
      refine JT_aload_n (q := 2) dX11_judge_86 rfl rfl ?_
      refine JT_aload_n (q := 0) dX11_judge_87 rfl rfl ?_
      refine JS_getR (x := 218) dX11_judge_88 flX11_65 BS_2 (Nat.le_of_ble_eq_true rfl) (Nat.le_of_ble_eq_true rfl) (Or.inl ⟨_, ct_11_9⟩) RF_2_9 ?_
      obtain ⟨o3, h⟩ := h
      refine JS_callVI (M' := MX0_tryLine) (d' := 408) (As := [.int a4, .ref L2, .ref 218]) (rest := []) (P := (fun zv9 wm9 => (vX0_tryLine s 19 a4 L2 P2) = zv9 ∧ (mX0_tryLine s 19 a4 L2 P2) = wm9)) dX11_judge_91 cvX11_360 okX0_tryLine rfl (Nat.le_of_ble_eq_true rfl) BS_19 (Nat.le_of_ble_eq_true rfl) (Nat.le_of_ble_eq_true rfl) hci_0 (Nat.le_of_ble_eq_true rfl) (Nat.le_of_ble_eq_true rfl) (pX0_tryLine hk_19 (a4) hL2 o3 ⟨rfl, rfl⟩) (fun zv9 wm9 hq9 => ?_)
      obtain ⟨rfl, rfl⟩ := hq9
      refine JT_istore_n (lv' := [(3, .int (vX0_tryLine s 19 a4 L2 P2)), (0, .ref 2), (1, .int a1), (2, .ref L2), (4, .int a4)]) dX11_judge_94 rfl (Nat.le_of_ble_eq_true rfl) rfl ?_
      refine JT_iload (q := 4) dX11_judge_95 rfl ?_
      refine JT_iload_n (q := 0) dX11_judge_97 rfl rfl ?_
      have hj1 : ∀ v : Int32, v = (if (vX0_tryLine s 19 a4 L2 P2) = 0 then (1 : Int32) else (0 : Int32)) → JT MX11_judge 409 0 0 106 [(3, .int (vX0_tryLine s 19 a4 L2 P2)), (0, .ref 2), (1, .int a1), (2, .ref L2), (4, .int a4)] [.int v, .int a4] (std (mX0_tryLine s 19 a4 L2 P2)) (KQ Q) := by
        intro v hv
        subst hv
        refine JT_iadd dX11_judge_106 ?_
        refine JT_istore (lv' := [(4, .int (a4 + (if (vX0_tryLine s 19 a4 L2 P2) = 0 then (1 : Int32) else (0 : Int32)))), (3, .int (vX0_tryLine s 19 a4 L2 P2)), (0, .ref 2), (1, .int a1), (2, .ref L2)]) dX11_judge_107 (Nat.le_of_ble_eq_true rfl) rfl ?_
        refine JT_goto (tgt := 64) dX11_judge_109 (by decide) ?_
        exact JT_sub [2, 3, 4, 1, 0] rfl h
      refine JT_if_ne (tgt := 105) dX11_judge_98 (by decide) (fun hc2 => ?_) (fun hc2 => ?_)
      · refine JT_iconst (v := 0) dX11_judge_105 ic_0 ?_
        exact hj1 _ (by rw [if_neg hc2])
      · refine JT_iconst (v := 1) dX11_judge_101 ic_1 ?_
        refine JT_goto (tgt := 106) dX11_judge_102 (by decide) ?_
        exact hj1 _ (by rw [if_pos hc2])
set_option maxRecDepth 1000000 in
theorem bX11_judge_112 (a1 : Int32) {L2 P2 : Nat} (hL2 : (L2, P2) ∈ LX) (a3 : Int32) (a4 : Int32) {s : SM} {Q : Int32 → SM → Prop} (h : ((¬ a1 = (1 : Int32) → BI MX11_judge 409 129 [(0, .ref 2), (1, .int a1), (2, .ref L2), (3, .int a3), (4, .int a4)] s Q) ∧ (a1 = (1 : Int32) → ((a4 ≤ 0 → BI MX11_judge 409 129 [(0, .ref 2), (1, .int a1), (2, .ref L2), (3, .int a3), (4, .int a4)] s Q) ∧ (¬ a4 ≤ 0 → BI MX11_judge 409 129 [(0, .ref 2), (1, .int a1), (2, .ref L2), (3, .int a3), (4, .int a4)] (mX2_keepNoted s ) Q))))) : BI MX11_judge 409 112 [(0, .ref 2), (1, .int a1), (2, .ref L2), (3, .int a3), (4, .int a4)] s Q := by
  refine JT_iload_n (q := 1) dX11_judge_112 rfl rfl ?_
  refine JT_iconst (v := 1) dX11_judge_113 ic_1 ?_
  refine JT_icmp_ne (tgt := 129) dX11_judge_114 (by decide) (fun hc3 => ?_) (fun hc3 => ?_)
  · have h := h.1 hc3
    exact JT_sub [0, 1, 2, 3, 4] rfl h
  · have h := h.2 hc3
    refine JT_iload (q := 4) dX11_judge_117 rfl ?_
    refine JT_if_le (tgt := 129) dX11_judge_119 (by decide) (fun hc2 => ?_) (fun hc2 => ?_)
    · have h := h.1 hc2
      exact JT_sub [0, 1, 2, 3, 4] rfl h
    · have h := h.2 hc2
      refine JT_aload_n (q := 0) dX11_judge_122 rfl rfl ?_
      refine JS_getR (x := 55) dX11_judge_123 flX11_51 BS_2 (Nat.le_of_ble_eq_true rfl) (Nat.le_of_ble_eq_true rfl) (Or.inl ⟨_, ct_11_7⟩) RF_2_7 ?_
      refine JS_callVV (M' := MX2_keepNoted) (d' := 1) (As := []) (rest := []) (P := (fun wm9 => (mX2_keepNoted s ) = wm9)) dX11_judge_126 cvX11_308 okX2_keepNoted rfl (Nat.le_of_ble_eq_true rfl) BS_55 (Nat.le_of_ble_eq_true rfl) (Nat.le_of_ble_eq_true rfl) hci_2 (Nat.le_of_ble_eq_true rfl) (Nat.le_of_ble_eq_true rfl) (pX2_keepNoted    rfl) (fun wm9 hq9 => ?_)
      subst hq9
      exact JT_sub [0, 1, 2, 3, 4] rfl h
set_option maxRecDepth 1000000 in
theorem bX11_judge_129 (a1 : Int32) {L2 P2 : Nat} (hL2 : (L2, P2) ∈ LX) (a3 : Int32) (a4 : Int32) {s : SM} {Q : Int32 → SM → Prop} (h : rX4_openDeals (pI (pI (pI s 2 17 (1 : Int32)) 247 ((0 : Int32)).toNatClampNeg a3) 247 ((1 : Int32)).toNatClampNeg a4) L2 P2 ∧ (∀ s1, s1 = (pI (pI (pI (pI s 2 17 (1 : Int32)) 247 ((0 : Int32)).toNatClampNeg a3) 247 ((1 : Int32)).toNatClampNeg a4) 247 ((2 : Int32)).toNatClampNeg (vX4_openDeals (pI (pI (pI s 2 17 (1 : Int32)) 247 ((0 : Int32)).toNatClampNeg a3) 247 ((1 : Int32)).toNatClampNeg a4) L2 P2)) → rX4_leftOfLiving s1 L2 P2 ∧ (∀ s2, s2 = (pI (pI s1 247 ((3 : Int32)).toNatClampNeg (vX4_leftOfLiving s1 L2 P2)) 247 ((4 : Int32)).toNatClampNeg (gI (pI s1 247 ((3 : Int32)).toNatClampNeg (vX4_leftOfLiving s1 L2 P2)) L2 10)) → Q (if a3 = 0 then (-1 : Int32) else a4) s2))) : BI MX11_judge 409 129 [(0, .ref 2), (1, .int a1), (2, .ref L2), (3, .int a3), (4, .int a4)] s Q := by
  refine JT_aload_n (q := 0) dX11_judge_129 rfl rfl ?_
  refine JT_iconst (v := 1) dX11_judge_130 ic_1 ?_
  refine JS_putZ dX11_judge_131 flX11_364 BS_2 (Nat.le_of_ble_eq_true rfl) (Nat.le_of_ble_eq_true rfl) ct_11_17 (Or.inr rfl) ?_
  refine JT_aload_n (q := 0) dX11_judge_134 rfl rfl ?_
  refine JS_getR (x := 247) dX11_judge_135 flX11_101 BS_2 (Nat.le_of_ble_eq_true rfl) (Nat.le_of_ble_eq_true rfl) (Or.inr ⟨_, ct_11_16⟩) RF_2_16 ?_
  refine JT_iconst (v := 0) dX11_judge_138 ic_0 ?_
  refine JT_iload_n (q := 3) dX11_judge_139 rfl rfl ?_
  refine JS_iast dX11_judge_140 BS_247 (Nat.le_of_ble_eq_true rfl) (Nat.le_of_ble_eq_true rfl) (by unfold vp_in; decide) ?_
  refine JT_aload_n (q := 0) dX11_judge_141 rfl rfl ?_
  refine JS_getR (x := 247) dX11_judge_142 flX11_101 BS_2 (Nat.le_of_ble_eq_true rfl) (Nat.le_of_ble_eq_true rfl) (Or.inr ⟨_, ct_11_16⟩) RF_2_16 ?_
  refine JT_iconst (v := 1) dX11_judge_145 ic_1 ?_
  refine JT_iload (q := 4) dX11_judge_146 rfl ?_
  refine JS_iast dX11_judge_148 BS_247 (Nat.le_of_ble_eq_true rfl) (Nat.le_of_ble_eq_true rfl) (by unfold vp_in; decide) ?_
  refine JT_aload_n (q := 0) dX11_judge_149 rfl rfl ?_
  refine JS_getR (x := 247) dX11_judge_150 flX11_101 BS_2 (Nat.le_of_ble_eq_true rfl) (Nat.le_of_ble_eq_true rfl) (Or.inr ⟨_, ct_11_16⟩) RF_2_16 ?_
  refine JT_iconst (v := 2) dX11_judge_153 ic_2 ?_
  refine JT_aload_n (q := 2) dX11_judge_154 rfl rfl ?_
  obtain ⟨o6, h⟩ := h
  refine JS_callVI (M' := MX4_openDeals) (d' := 2) (As := []) (rest := [.int (2 : Int32), .ref 247]) (P := (fun zv9 wm9 => (vX4_openDeals (pI (pI (pI s 2 17 (1 : Int32)) 247 ((0 : Int32)).toNatClampNeg a3) 247 ((1 : Int32)).toNatClampNeg a4) L2 P2) = zv9 ∧ (pI (pI (pI s 2 17 (1 : Int32)) 247 ((0 : Int32)).toNatClampNeg a3) 247 ((1 : Int32)).toNatClampNeg a4) = wm9)) dX11_judge_155 cvX11_165 okX4_openDeals rfl (Nat.le_of_ble_eq_true rfl) (lxB hL2) (lx2 hL2) (lxN hL2) hci_4 (Nat.le_of_ble_eq_true rfl) (Nat.le_of_ble_eq_true rfl) (pX4_openDeals hL2  o6 ⟨rfl, rfl⟩) (fun zv9 wm9 hq9 => ?_)
  obtain ⟨rfl, rfl⟩ := hq9
  refine JS_iast dX11_judge_158 BS_247 (Nat.le_of_ble_eq_true rfl) (Nat.le_of_ble_eq_true rfl) (by unfold vp_in; decide) ?_
  obtain ⟨s1, hs1⟩ : ∃ z, z = (pI (pI (pI (pI s 2 17 (1 : Int32)) 247 ((0 : Int32)).toNatClampNeg a3) 247 ((1 : Int32)).toNatClampNeg a4) 247 ((2 : Int32)).toNatClampNeg (vX4_openDeals (pI (pI (pI s 2 17 (1 : Int32)) 247 ((0 : Int32)).toNatClampNeg a3) 247 ((1 : Int32)).toNatClampNeg a4) L2 P2)) := ⟨_, rfl⟩
  replace h := h s1 hs1
  rw [← hs1]
  refine JT_aload_n (q := 0) dX11_judge_159 rfl rfl ?_
  refine JS_getR (x := 247) dX11_judge_160 flX11_101 BS_2 (Nat.le_of_ble_eq_true rfl) (Nat.le_of_ble_eq_true rfl) (Or.inr ⟨_, ct_11_16⟩) RF_2_16 ?_
  refine JT_iconst (v := 3) dX11_judge_163 ic_3 ?_
  refine JT_aload_n (q := 2) dX11_judge_164 rfl rfl ?_
  obtain ⟨o5, h⟩ := h
  refine JS_callVI (M' := MX4_leftOfLiving) (d' := 1) (As := []) (rest := [.int (3 : Int32), .ref 247]) (P := (fun zv9 wm9 => (vX4_leftOfLiving s1 L2 P2) = zv9 ∧ s1 = wm9)) dX11_judge_165 cvX11_368 okX4_leftOfLiving rfl (Nat.le_of_ble_eq_true rfl) (lxB hL2) (lx2 hL2) (lxN hL2) hci_4 (Nat.le_of_ble_eq_true rfl) (Nat.le_of_ble_eq_true rfl) (pX4_leftOfLiving hL2  o5 ⟨rfl, rfl⟩) (fun zv9 wm9 hq9 => ?_)
  obtain ⟨rfl, rfl⟩ := hq9
  refine JS_iast dX11_judge_168 BS_247 (Nat.le_of_ble_eq_true rfl) (Nat.le_of_ble_eq_true rfl) (by unfold vp_in; decide) ?_
  refine JT_aload_n (q := 0) dX11_judge_169 rfl rfl ?_
  refine JS_getR (x := 247) dX11_judge_170 flX11_101 BS_2 (Nat.le_of_ble_eq_true rfl) (Nat.le_of_ble_eq_true rfl) (Or.inr ⟨_, ct_11_16⟩) RF_2_16 ?_
  refine JT_iconst (v := 4) dX11_judge_173 ic_4 ?_
  refine JT_aload_n (q := 2) dX11_judge_174 rfl rfl ?_
  refine JS_getI dX11_judge_175 flX11_169 (lxB hL2) (lx2 hL2) (lxN hL2) (Or.inl ct_4_10) ?_
  refine JS_iast dX11_judge_178 BS_247 (Nat.le_of_ble_eq_true rfl) (Nat.le_of_ble_eq_true rfl) (by unfold vp_in; decide) ?_
  obtain ⟨s2, hs2⟩ : ∃ z, z = (pI (pI s1 247 ((3 : Int32)).toNatClampNeg (vX4_leftOfLiving s1 L2 P2)) 247 ((4 : Int32)).toNatClampNeg (gI (pI s1 247 ((3 : Int32)).toNatClampNeg (vX4_leftOfLiving s1 L2 P2)) L2 10)) := ⟨_, rfl⟩
  replace h := h s2 hs2
  rw [← hs2]
  refine JT_iload_n (q := 3) dX11_judge_179 rfl rfl ?_
  have hj3 : ∀ v : Int32, v = (if a3 = 0 then (-1 : Int32) else a4) → JT MX11_judge 409 0 0 189 [(0, .ref 2), (1, .int a1), (2, .ref L2), (3, .int a3), (4, .int a4)] [.int v] (std s2) (KQ Q) := by
    intro v hv
    subst hv
    exact JS_iret dX11_judge_189 rfl rfl h
  refine JT_if_ne (tgt := 187) dX11_judge_180 (by decide) (fun hc4 => ?_) (fun hc4 => ?_)
  · refine JT_iload (q := 4) dX11_judge_187 rfl ?_
    exact hj3 _ (by rw [if_neg hc4])
  · refine JT_iconst (v := -1) dX11_judge_183 ic_m1 ?_
    refine JT_goto (tgt := 189) dX11_judge_184 (by decide) ?_
    exact hj3 _ (by rw [if_pos hc4])
set_option maxRecDepth 1000000 in
theorem bX11_judge (a1 : Int32) {s : SM} {Q : Int32 → SM → Prop} (h : ((a1 < 0 → Q (-2 : Int32) s) ∧ (¬ a1 < 0 → ((a1 ≤ (1 : Int32) → ((¬ a1 = (1 : Int32) → ((¬ a1 = (1 : Int32) → rX4_copyFrom s 43 5 31 5 ∧ BI MX11_judge 409 64 [(0, .ref 2), (1, .int a1), (2, .ref 43), (3, .int (0 : Int32)), (4, .int (0 : Int32))] (mX4_copyFrom s 43 5 31 5) Q) ∧ (a1 = (1 : Int32) → rX2_note s 31 5 ∧ BI MX11_judge 409 64 [(0, .ref 2), (1, .int a1), (2, .ref 43), (3, .int (0 : Int32)), (4, .int (0 : Int32))] (mX2_note s 31 5) Q))) ∧ (a1 = (1 : Int32) → ((¬ a1 = (1 : Int32) → rX4_copyFrom s 43 5 31 5 ∧ BI MX11_judge 409 64 [(0, .ref 2), (1, .int a1), (2, .ref 31), (3, .int (0 : Int32)), (4, .int (0 : Int32))] (mX4_copyFrom s 43 5 31 5) Q) ∧ (a1 = (1 : Int32) → rX2_note s 31 5 ∧ BI MX11_judge 409 64 [(0, .ref 2), (1, .int a1), (2, .ref 31), (3, .int (0 : Int32)), (4, .int (0 : Int32))] (mX2_note s 31 5) Q))))) ∧ (¬ a1 ≤ (1 : Int32) → Q (-2 : Int32) s))))) : KI MX11_judge 409 [.ref 2, .int a1] s Q := by
  show BI MX11_judge 409 0 [(0, .ref 2), (1, .int a1)] s Q
  refine JT_iload_n (q := 1) dX11_judge_0 rfl rfl ?_
  refine JT_if_lt (tgt := 9) dX11_judge_1 (by decide) (fun hc9 => ?_) (fun hc9 => ?_)
  · have h := h.1 hc9
    refine JT_bipush (v := -2) dX11_judge_9 bp_m2 ?_
    exact JS_iret dX11_judge_11 rfl rfl h
  · have h := h.2 hc9
    refine JT_iload_n (q := 1) dX11_judge_4 rfl rfl ?_
    refine JT_iconst (v := 1) dX11_judge_5 ic_1 ?_
    refine JT_icmp_le (tgt := 12) dX11_judge_6 (by decide) (fun hc8 => ?_) (fun hc8 => ?_)
    · have h := h.1 hc8
      refine JT_iload_n (q := 1) dX11_judge_12 rfl rfl ?_
      refine JT_iconst (v := 1) dX11_judge_13 ic_1 ?_
      refine JT_icmp_ne (tgt := 24) dX11_judge_14 (by decide) (fun hc7 => ?_) (fun hc7 => ?_)
      · have h := h.1 hc7
        refine JT_aload_n (q := 0) dX11_judge_24 rfl rfl ?_
        refine JS_getR (x := 43) dX11_judge_25 flX11_45 BS_2 (Nat.le_of_ble_eq_true rfl) (Nat.le_of_ble_eq_true rfl) (Or.inl ⟨_, ct_11_6⟩) RF_2_6 ?_
        refine JT_astore_n (lv' := [(2, .ref 43), (0, .ref 2), (1, .int a1)]) dX11_judge_28 rfl (Nat.le_of_ble_eq_true rfl) rfl ?_
        refine JT_iload_n (q := 2) dX11_judge_29 rfl rfl ?_
        refine JT_iconst (v := 1) dX11_judge_30 ic_1 ?_
        refine JT_icmp_ne (tgt := 48) dX11_judge_31 (by decide) (fun hc3 => ?_) (fun hc3 => ?_)
        · have h := h.1 hc3
          refine JT_aload_n (q := 1) dX11_judge_48 rfl rfl ?_
          refine JS_getR (x := 43) dX11_judge_49 flX11_45 BS_2 (Nat.le_of_ble_eq_true rfl) (Nat.le_of_ble_eq_true rfl) (Or.inl ⟨_, ct_11_6⟩) RF_2_6 ?_
          refine JT_aload_n (q := 1) dX11_judge_52 rfl rfl ?_
          refine JS_getR (x := 31) dX11_judge_53 flX11_41 BS_2 (Nat.le_of_ble_eq_true rfl) (Nat.le_of_ble_eq_true rfl) (Or.inl ⟨_, ct_11_5⟩) RF_2_5 ?_
          obtain ⟨o1, h⟩ := h
          refine JS_callVV (M' := MX4_copyFrom) (d' := 1) (As := [.ref 31]) (rest := []) (P := (fun wm9 => (mX4_copyFrom s 43 5 31 5) = wm9)) dX11_judge_56 cvX11_358 okX4_copyFrom rfl (Nat.le_of_ble_eq_true rfl) BS_43 (Nat.le_of_ble_eq_true rfl) (Nat.le_of_ble_eq_true rfl) hci_4 (Nat.le_of_ble_eq_true rfl) (Nat.le_of_ble_eq_true rfl) (pX4_copyFrom hL_43 hL_31  o1 rfl) (fun wm9 hq9 => ?_)
          subst hq9
          refine JT_iconst (v := 0) dX11_judge_59 ic_0 ?_
          refine JT_istore_n (lv' := [(3, .int (0 : Int32)), (2, .ref 43), (0, .ref 2), (1, .int a1)]) dX11_judge_60 rfl (Nat.le_of_ble_eq_true rfl) rfl ?_
          refine JT_iconst (v := 0) dX11_judge_61 ic_0 ?_
          refine JT_istore (lv' := [(4, .int (0 : Int32)), (3, .int (0 : Int32)), (2, .ref 43), (0, .ref 2), (1, .int a1)]) dX11_judge_62 (Nat.le_of_ble_eq_true rfl) rfl ?_
          exact JT_sub [3, 4, 2, 1, 0] rfl h
        · have h := h.2 hc3
          refine JT_aload_n (q := 1) dX11_judge_34 rfl rfl ?_
          refine JS_getR (x := 55) dX11_judge_35 flX11_51 BS_2 (Nat.le_of_ble_eq_true rfl) (Nat.le_of_ble_eq_true rfl) (Or.inl ⟨_, ct_11_7⟩) RF_2_7 ?_
          refine JT_aload_n (q := 1) dX11_judge_38 rfl rfl ?_
          refine JS_getR (x := 31) dX11_judge_39 flX11_41 BS_2 (Nat.le_of_ble_eq_true rfl) (Nat.le_of_ble_eq_true rfl) (Or.inl ⟨_, ct_11_5⟩) RF_2_5 ?_
          obtain ⟨o2, h⟩ := h
          refine JS_callVV (M' := MX2_note) (d' := 2) (As := [.ref 31]) (rest := []) (P := (fun wm9 => (mX2_note s 31 5) = wm9)) dX11_judge_42 cvX11_300 okX2_note rfl (Nat.le_of_ble_eq_true rfl) BS_55 (Nat.le_of_ble_eq_true rfl) (Nat.le_of_ble_eq_true rfl) hci_2 (Nat.le_of_ble_eq_true rfl) (Nat.le_of_ble_eq_true rfl) (pX2_note hL_31  o2 rfl) (fun wm9 hq9 => ?_)
          subst hq9
          refine JT_goto (tgt := 59) dX11_judge_45 (by decide) ?_
          refine JT_iconst (v := 0) dX11_judge_59 ic_0 ?_
          refine JT_istore_n (lv' := [(3, .int (0 : Int32)), (2, .ref 43), (0, .ref 2), (1, .int a1)]) dX11_judge_60 rfl (Nat.le_of_ble_eq_true rfl) rfl ?_
          refine JT_iconst (v := 0) dX11_judge_61 ic_0 ?_
          refine JT_istore (lv' := [(4, .int (0 : Int32)), (3, .int (0 : Int32)), (2, .ref 43), (0, .ref 2), (1, .int a1)]) dX11_judge_62 (Nat.le_of_ble_eq_true rfl) rfl ?_
          exact JT_sub [3, 4, 2, 1, 0] rfl h
      · have h := h.2 hc7
        refine JT_aload_n (q := 0) dX11_judge_17 rfl rfl ?_
        refine JS_getR (x := 31) dX11_judge_18 flX11_41 BS_2 (Nat.le_of_ble_eq_true rfl) (Nat.le_of_ble_eq_true rfl) (Or.inl ⟨_, ct_11_5⟩) RF_2_5 ?_
        refine JT_goto (tgt := 28) dX11_judge_21 (by decide) ?_
        refine JT_astore_n (lv' := [(2, .ref 31), (0, .ref 2), (1, .int a1)]) dX11_judge_28 rfl (Nat.le_of_ble_eq_true rfl) rfl ?_
        refine JT_iload_n (q := 2) dX11_judge_29 rfl rfl ?_
        refine JT_iconst (v := 1) dX11_judge_30 ic_1 ?_
        refine JT_icmp_ne (tgt := 48) dX11_judge_31 (by decide) (fun hc6 => ?_) (fun hc6 => ?_)
        · have h := h.1 hc6
          refine JT_aload_n (q := 1) dX11_judge_48 rfl rfl ?_
          refine JS_getR (x := 43) dX11_judge_49 flX11_45 BS_2 (Nat.le_of_ble_eq_true rfl) (Nat.le_of_ble_eq_true rfl) (Or.inl ⟨_, ct_11_6⟩) RF_2_6 ?_
          refine JT_aload_n (q := 1) dX11_judge_52 rfl rfl ?_
          refine JS_getR (x := 31) dX11_judge_53 flX11_41 BS_2 (Nat.le_of_ble_eq_true rfl) (Nat.le_of_ble_eq_true rfl) (Or.inl ⟨_, ct_11_5⟩) RF_2_5 ?_
          obtain ⟨o4, h⟩ := h
          refine JS_callVV (M' := MX4_copyFrom) (d' := 1) (As := [.ref 31]) (rest := []) (P := (fun wm9 => (mX4_copyFrom s 43 5 31 5) = wm9)) dX11_judge_56 cvX11_358 okX4_copyFrom rfl (Nat.le_of_ble_eq_true rfl) BS_43 (Nat.le_of_ble_eq_true rfl) (Nat.le_of_ble_eq_true rfl) hci_4 (Nat.le_of_ble_eq_true rfl) (Nat.le_of_ble_eq_true rfl) (pX4_copyFrom hL_43 hL_31  o4 rfl) (fun wm9 hq9 => ?_)
          subst hq9
          refine JT_iconst (v := 0) dX11_judge_59 ic_0 ?_
          refine JT_istore_n (lv' := [(3, .int (0 : Int32)), (2, .ref 31), (0, .ref 2), (1, .int a1)]) dX11_judge_60 rfl (Nat.le_of_ble_eq_true rfl) rfl ?_
          refine JT_iconst (v := 0) dX11_judge_61 ic_0 ?_
          refine JT_istore (lv' := [(4, .int (0 : Int32)), (3, .int (0 : Int32)), (2, .ref 31), (0, .ref 2), (1, .int a1)]) dX11_judge_62 (Nat.le_of_ble_eq_true rfl) rfl ?_
          exact JT_sub [3, 4, 2, 1, 0] rfl h
        · have h := h.2 hc6
          refine JT_aload_n (q := 1) dX11_judge_34 rfl rfl ?_
          refine JS_getR (x := 55) dX11_judge_35 flX11_51 BS_2 (Nat.le_of_ble_eq_true rfl) (Nat.le_of_ble_eq_true rfl) (Or.inl ⟨_, ct_11_7⟩) RF_2_7 ?_
          refine JT_aload_n (q := 1) dX11_judge_38 rfl rfl ?_
          refine JS_getR (x := 31) dX11_judge_39 flX11_41 BS_2 (Nat.le_of_ble_eq_true rfl) (Nat.le_of_ble_eq_true rfl) (Or.inl ⟨_, ct_11_5⟩) RF_2_5 ?_
          obtain ⟨o5, h⟩ := h
          refine JS_callVV (M' := MX2_note) (d' := 2) (As := [.ref 31]) (rest := []) (P := (fun wm9 => (mX2_note s 31 5) = wm9)) dX11_judge_42 cvX11_300 okX2_note rfl (Nat.le_of_ble_eq_true rfl) BS_55 (Nat.le_of_ble_eq_true rfl) (Nat.le_of_ble_eq_true rfl) hci_2 (Nat.le_of_ble_eq_true rfl) (Nat.le_of_ble_eq_true rfl) (pX2_note hL_31  o5 rfl) (fun wm9 hq9 => ?_)
          subst hq9
          refine JT_goto (tgt := 59) dX11_judge_45 (by decide) ?_
          refine JT_iconst (v := 0) dX11_judge_59 ic_0 ?_
          refine JT_istore_n (lv' := [(3, .int (0 : Int32)), (2, .ref 31), (0, .ref 2), (1, .int a1)]) dX11_judge_60 rfl (Nat.le_of_ble_eq_true rfl) rfl ?_
          refine JT_iconst (v := 0) dX11_judge_61 ic_0 ?_
          refine JT_istore (lv' := [(4, .int (0 : Int32)), (3, .int (0 : Int32)), (2, .ref 31), (0, .ref 2), (1, .int a1)]) dX11_judge_62 (Nat.le_of_ble_eq_true rfl) rfl ?_
          exact JT_sub [3, 4, 2, 1, 0] rfl h
    · have h := h.2 hc8
      refine JT_bipush (v := -2) dX11_judge_9 bp_m2 ?_
      exact JS_iret dX11_judge_11 rfl rfl h
set_option maxRecDepth 1000000 in
theorem gX11_judge  : ∀ n : Nat, (∀ (a1 : Int32) (a3 : Int32) (a4 : Int32) (L2 P2 : Nat) (s : SM) (Q : Int32 → SM → Prop), ((qX11_judge n).1 s a1 L2 P2 a3 a4) → Q ((lX11_judge n).1 s a1 L2 P2 a3 a4).1 ((lX11_judge n).1 s a1 L2 P2 a3 a4).2 → BI MX11_judge 409 64 [(0, .ref 2), (1, .int a1), (2, .ref L2), (3, .int a3), (4, .int a4)] s Q) ∧ (∀ (a1 : Int32) (a3 : Int32) (a4 : Int32) (L2 P2 : Nat) (s : SM) (Q : Int32 → SM → Prop), ((qX11_judge n).2.1 s a1 L2 P2 a3 a4) → Q ((lX11_judge n).2.1 s a1 L2 P2 a3 a4).1 ((lX11_judge n).2.1 s a1 L2 P2 a3 a4).2 → BI MX11_judge 409 112 [(0, .ref 2), (1, .int a1), (2, .ref L2), (3, .int a3), (4, .int a4)] s Q) ∧ (∀ (a1 : Int32) (a3 : Int32) (a4 : Int32) (L2 P2 : Nat) (s : SM) (Q : Int32 → SM → Prop), ((qX11_judge n).2.2 s a1 L2 P2 a3 a4) → Q ((lX11_judge n).2.2 s a1 L2 P2 a3 a4).1 ((lX11_judge n).2.2 s a1 L2 P2 a3 a4).2 → BI MX11_judge 409 129 [(0, .ref 2), (1, .int a1), (2, .ref L2), (3, .int a3), (4, .int a4)] s Q) := by
  intro n
  induction n with
  | zero => exact ⟨fun _ _ _ _ _ _ _ hq _ => absurd hq id, fun _ _ _ _ _ _ _ hq _ => absurd hq id, fun _ _ _ _ _ _ _ hq _ => absurd hq id⟩
  | succ n ih =>
    refine ⟨?_, ?_, ?_⟩
    · intro a1 a3 a4 L2 P2 s Q hr h
      replace hr : uX11_judge_64 (qX11_judge n) s a1 L2 P2 a3 a4 := hr
      replace h : Q (tX11_judge_64 (lX11_judge n) s a1 L2 P2 a3 a4).1 (tX11_judge_64 (lX11_judge n) s a1 L2 P2 a3 a4).2 := h
      unfold uX11_judge_64 at hr
      unfold tX11_judge_64 at h
      have hx_L2 := hr.1
      replace hr := hr.2
      refine bX11_judge_64 a1 hx_L2 a3 a4 ?_
      refine ⟨fun c => ?_, fun c => ?_⟩
      · replace hr := hr.1 c
        replace h := q3p c h
        first | exact ih.2.1 a1 a3 a4 L2 P2 _ Q hr h | contradiction
      · replace hr := hr.2 c
        replace h := q3n c h
        refine ⟨fun c => ?_, fun c => ?_⟩
        · replace hr := hr.1 c
          replace h := q3n c h
          first | exact ih.2.1 a1 a3 a4 L2 P2 _ Q hr h | contradiction
        · replace hr := hr.2 c
          replace h := q3p c h
          refine ⟨hr.1, ?_⟩
          replace hr := hr.2
          first | exact ih.1 a1 (vX0_tryLine s 19 a4 L2 P2) (a4 + (if (vX0_tryLine s 19 a4 L2 P2) = 0 then (1 : Int32) else (0 : Int32))) L2 P2 _ Q hr h | contradiction
    · intro a1 a3 a4 L2 P2 s Q hr h
      replace hr : uX11_judge_112 (qX11_judge n) s a1 L2 P2 a3 a4 := hr
      replace h : Q (tX11_judge_112 (lX11_judge n) s a1 L2 P2 a3 a4).1 (tX11_judge_112 (lX11_judge n) s a1 L2 P2 a3 a4).2 := h
      unfold uX11_judge_112 at hr
      unfold tX11_judge_112 at h
      have hx_L2 := hr.1
      replace hr := hr.2
      refine bX11_judge_112 a1 hx_L2 a3 a4 ?_
      refine ⟨fun c => ?_, fun c => ?_⟩
      · replace hr := hr.1 c
        replace h := q3n c h
        first | exact ih.2.2 a1 a3 a4 L2 P2 _ Q hr h | contradiction
      · replace hr := hr.2 c
        replace h := q3p c h
        refine ⟨fun c => ?_, fun c => ?_⟩
        · replace hr := hr.1 c
          replace h := q3p c h
          first | exact ih.2.2 a1 a3 a4 L2 P2 _ Q hr h | contradiction
        · replace hr := hr.2 c
          replace h := q3n c h
          first | exact ih.2.2 a1 a3 a4 L2 P2 _ Q hr h | contradiction
    · intro a1 a3 a4 L2 P2 s Q hr h
      replace hr : uX11_judge_129 (qX11_judge n) s a1 L2 P2 a3 a4 := hr
      replace h : Q (tX11_judge_129 (lX11_judge n) s a1 L2 P2 a3 a4).1 (tX11_judge_129 (lX11_judge n) s a1 L2 P2 a3 a4).2 := h
      unfold uX11_judge_129 at hr
      unfold tX11_judge_129 at h
      have hx_L2 := hr.1
      replace hr := hr.2
      refine bX11_judge_129 a1 hx_L2 a3 a4 ?_
      refine ⟨hr.1, ?_⟩
      replace hr := hr.2
      intro s1 e9
      replace hr := hr s1 e9
      try rw [← e9] at h
      try dsimp only at h
      refine ⟨hr, ?_⟩
      intro s2 e9
      try rw [← e9] at h
      try dsimp only at h
      first | exact h | contradiction
set_option maxRecDepth 1000000 in
theorem pX11_judge (a1 : Int32) {s : SM} {Q : Int32 → SM → Prop} (hr : rX11_judge s a1) (h : Q (vX11_judge s a1) (mX11_judge s a1)) : KI MX11_judge 409 [.ref 2, .int a1] s Q := by
  replace h : Q (fX11_judge s a1).1 (fX11_judge s a1).2 := h
  unfold rX11_judge at hr
  unfold fX11_judge at h
  refine bX11_judge a1 ?_
  refine ⟨fun c => ?_, fun c => ?_⟩
  · replace h := q3p c h
    first | exact h | contradiction
  · replace hr := hr c
    replace h := q3n c h
    refine ⟨fun c => ?_, fun c => ?_⟩
    · replace hr := hr c
      replace h := q3p c h
      refine ⟨fun c => ?_, fun c => ?_⟩
      · replace hr := hr.1 c
        replace h := q3n c h
        refine ⟨fun c => ?_, fun c => ?_⟩
        · replace hr := hr.1 c
          replace h := q3n c h
          refine ⟨hr.1, ?_⟩
          replace hr := hr.2
          first | exact (gX11_judge  FU).1 a1 (0 : Int32) (0 : Int32) 43 5 _ Q hr h | contradiction
        · replace hr := hr.2 c
          replace h := q3p c h
          refine ⟨hr.1, ?_⟩
          replace hr := hr.2
          first | exact (gX11_judge  FU).1 a1 (0 : Int32) (0 : Int32) 43 5 _ Q hr h | contradiction
      · replace hr := hr.2 c
        replace h := q3p c h
        refine ⟨fun c => ?_, fun c => ?_⟩
        · replace hr := hr.1 c
          replace h := q3n c h
          refine ⟨hr.1, ?_⟩
          replace hr := hr.2
          first | exact (gX11_judge  FU).1 a1 (0 : Int32) (0 : Int32) 31 5 _ Q hr h | contradiction
        · replace hr := hr.2 c
          replace h := q3p c h
          refine ⟨hr.1, ?_⟩
          replace hr := hr.2
          first | exact (gX11_judge  FU).1 a1 (0 : Int32) (0 : Int32) 31 5 _ Q hr h | contradiction
    · replace h := q3n c h
      first | exact h | contradiction
