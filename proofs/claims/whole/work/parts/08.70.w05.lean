set_option maxRecDepth 1000000 in
theorem bX4_tryBury_37 {L0 P0 : Nat} (hL0 : (L0, P0) ∈ LX) (a1 : Int32) (a2 : Int32) (a3 : Int32) {s : SM} {Q : Int32 → SM → Prop} (h : (((gI s L0 9) ≤ a3 → Q (0 : Int32) s) ∧ (¬ (gI s L0 9) ≤ a3 → rX4_isOpen s L0 P0 a3 ∧ (((vX4_isOpen s L0 P0 a3) = 0 → BI MX4_tryBury 2 37 [(0, .ref L0), (1, .int a1), (2, .int a2), (3, .int (a3 + 1))] s Q) ∧ (¬ (vX4_isOpen s L0 P0 a3) = 0 → vp_in a3 60 ∧ ((¬ (gI s (L0 + 1) (a3).toNatClampNeg) = a1 → vp_in a3 60 ∧ vp_in a3 60 ∧ vp_in a3 60 ∧ ((¬ (gI (pI s (L0 + 1) (a3).toNatClampNeg (gI s (L0 + 1) (a3).toNatClampNeg)) (L0 + 2) (a3).toNatClampNeg) = a1 → vp_in a3 60 ∧ vp_in a3 60 ∧ (∀ s7, s7 = (pI (pI s (L0 + 1) (a3).toNatClampNeg (gI s (L0 + 1) (a3).toNatClampNeg)) (L0 + 2) (a3).toNatClampNeg (gI (pI s (L0 + 1) (a3).toNatClampNeg (gI s (L0 + 1) (a3).toNatClampNeg)) (L0 + 2) (a3).toNatClampNeg)) → vp_in a3 60 ∧ vp_in a3 60 ∧ vp_in a3 60 ∧ (∀ s11, s11 = (pI s7 (L0 + 6) (a3).toNatClampNeg (if (gI s7 (L0 + 1) (a3).toNatClampNeg) = (gI s7 (L0 + 2) (a3).toNatClampNeg) then (2 : Int32) else (0 : Int32))) → BI MX4_tryBury 2 37 [(0, .ref L0), (1, .int a1), (2, .int a2), (3, .int (a3 + 1))] s11 Q))) ∧ ((gI (pI s (L0 + 1) (a3).toNatClampNeg (gI s (L0 + 1) (a3).toNatClampNeg)) (L0 + 2) (a3).toNatClampNeg) = a1 → vp_in a3 60 ∧ vp_in a3 60 ∧ vp_in a3 60 ∧ vp_in a3 60 ∧ (∀ s18, s18 = (pI (pI (pI s (L0 + 1) (a3).toNatClampNeg (gI s (L0 + 1) (a3).toNatClampNeg)) (L0 + 2) (a3).toNatClampNeg a2) (L0 + 6) (a3).toNatClampNeg (if (gI (pI (pI s (L0 + 1) (a3).toNatClampNeg (gI s (L0 + 1) (a3).toNatClampNeg)) (L0 + 2) (a3).toNatClampNeg a2) (L0 + 1) (a3).toNatClampNeg) = (gI (pI (pI s (L0 + 1) (a3).toNatClampNeg (gI s (L0 + 1) (a3).toNatClampNeg)) (L0 + 2) (a3).toNatClampNeg a2) (L0 + 2) (a3).toNatClampNeg) then (2 : Int32) else (0 : Int32))) → BI MX4_tryBury 2 37 [(0, .ref L0), (1, .int a1), (2, .int a2), (3, .int (a3 + 1))] s18 Q)))) ∧ ((gI s (L0 + 1) (a3).toNatClampNeg) = a1 → vp_in a3 60 ∧ vp_in a3 60 ∧ ((¬ (gI (pI s (L0 + 1) (a3).toNatClampNeg a2) (L0 + 2) (a3).toNatClampNeg) = a1 → vp_in a3 60 ∧ vp_in a3 60 ∧ (∀ s26, s26 = (pI (pI s (L0 + 1) (a3).toNatClampNeg a2) (L0 + 2) (a3).toNatClampNeg (gI (pI s (L0 + 1) (a3).toNatClampNeg a2) (L0 + 2) (a3).toNatClampNeg)) → vp_in a3 60 ∧ vp_in a3 60 ∧ vp_in a3 60 ∧ (∀ s30, s30 = (pI s26 (L0 + 6) (a3).toNatClampNeg (if (gI s26 (L0 + 1) (a3).toNatClampNeg) = (gI s26 (L0 + 2) (a3).toNatClampNeg) then (2 : Int32) else (0 : Int32))) → BI MX4_tryBury 2 37 [(0, .ref L0), (1, .int a1), (2, .int a2), (3, .int (a3 + 1))] s30 Q))) ∧ ((gI (pI s (L0 + 1) (a3).toNatClampNeg a2) (L0 + 2) (a3).toNatClampNeg) = a1 → vp_in a3 60 ∧ vp_in a3 60 ∧ vp_in a3 60 ∧ vp_in a3 60 ∧ (∀ s37, s37 = (pI (pI (pI s (L0 + 1) (a3).toNatClampNeg a2) (L0 + 2) (a3).toNatClampNeg a2) (L0 + 6) (a3).toNatClampNeg (if (gI (pI (pI s (L0 + 1) (a3).toNatClampNeg a2) (L0 + 2) (a3).toNatClampNeg a2) (L0 + 1) (a3).toNatClampNeg) = (gI (pI (pI s (L0 + 1) (a3).toNatClampNeg a2) (L0 + 2) (a3).toNatClampNeg a2) (L0 + 2) (a3).toNatClampNeg) then (2 : Int32) else (0 : Int32))) → BI MX4_tryBury 2 37 [(0, .ref L0), (1, .int a1), (2, .int a2), (3, .int (a3 + 1))] s37 Q)))))))))) : BI MX4_tryBury 2 37 [(0, .ref L0), (1, .int a1), (2, .int a2), (3, .int a3)] s Q := by
  refine JT_iload_n (q := 3) dX4_tryBury_37 rfl rfl ?_
  refine JT_aload_n (q := 0) dX4_tryBury_38 rfl rfl ?_
  refine JS_getI dX4_tryBury_39 flX4_49 (lxB hL0) (lx2 hL0) (lxN hL0) (Or.inl ct_4_9) ?_
  refine JT_icmp_ge (tgt := 137) dX4_tryBury_42 (by decide) (fun hc44 => ?_) (fun hc44 => ?_)
  · have h := h.1 hc44
    refine JT_iconst (v := 0) dX4_tryBury_137 ic_0 ?_
    exact JS_iret dX4_tryBury_138 rfl rfl h
  · have h := h.2 hc44
    refine JT_aload_n (q := 0) dX4_tryBury_45 rfl rfl ?_
    refine JT_iload_n (q := 3) dX4_tryBury_46 rfl rfl ?_
    obtain ⟨o43, h⟩ := h
    refine JS_callVI (M' := MX4_isOpen) (d' := 1) (As := [.int a3]) (rest := []) (P := (fun zv9 wm9 => (vX4_isOpen s L0 P0 a3) = zv9 ∧ s = wm9)) dX4_tryBury_47 cvX4_94 okX4_isOpen rfl (Nat.le_of_ble_eq_true rfl) (lxB hL0) (lx2 hL0) (lxN hL0) hci_4 (Nat.le_of_ble_eq_true rfl) (Nat.le_of_ble_eq_true rfl) (pX4_isOpen hL0 (a3) o43 ⟨rfl, rfl⟩) (fun zv9 wm9 hq9 => ?_)
    obtain ⟨rfl, rfl⟩ := hq9
    refine JT_if_eq (tgt := 131) dX4_tryBury_50 (by decide) (fun hc42 => ?_) (fun hc42 => ?_)
    · have h := h.1 hc42
      refine JT_iinc (q := 3) (v := (a3 + 1)) (lv' := [(3, .int (a3 + 1)), (0, .ref L0), (1, .int a1), (2, .int a2)]) dX4_tryBury_131 rfl (by rfl) (Nat.le_of_ble_eq_true rfl) rfl ?_
      refine JT_goto (tgt := 37) dX4_tryBury_134 (by decide) ?_
      exact JT_sub [1, 2, 3, 0] rfl h
    · have h := h.2 hc42
      refine JT_aload_n (q := 0) dX4_tryBury_53 rfl rfl ?_
      refine JS_getR (x := (L0 + 1)) dX4_tryBury_54 flX4_9 (lxB hL0) (lx2 hL0) (lxN hL0) (Or.inr ⟨_, ct_4_0⟩) (lxR0 hL0) ?_
      refine JT_iload_n (q := 3) dX4_tryBury_57 rfl rfl ?_
      refine JT_aload_n (q := 0) dX4_tryBury_58 rfl rfl ?_
      refine JS_getR (x := (L0 + 1)) dX4_tryBury_59 flX4_9 (lxB hL0) (lx2 hL0) (lxN hL0) (Or.inr ⟨_, ct_4_0⟩) (lxR0 hL0) ?_
      refine JT_iload_n (q := 3) dX4_tryBury_62 rfl rfl ?_
      obtain ⟨o1, h⟩ := h
      refine JS_iald dX4_tryBury_63 (lxB1 hL0) (lx2k hL0 _) (lxNk hL0 (Nat.le_of_ble_eq_true rfl)) o1 ?_
      refine JT_iload_n (q := 1) dX4_tryBury_64 rfl rfl ?_
      refine JT_icmp_ne (tgt := 72) dX4_tryBury_65 (by decide) (fun hc41 => ?_) (fun hc41 => ?_)
      · have h := h.1 hc41
        refine JT_aload_n (q := 0) dX4_tryBury_72 rfl rfl ?_
        refine JS_getR (x := (L0 + 1)) dX4_tryBury_73 flX4_9 (lxB hL0) (lx2 hL0) (lxN hL0) (Or.inr ⟨_, ct_4_0⟩) (lxR0 hL0) ?_
        refine JT_iload_n (q := 3) dX4_tryBury_76 rfl rfl ?_
        obtain ⟨o2, h⟩ := h
        refine JS_iald dX4_tryBury_77 (lxB1 hL0) (lx2k hL0 _) (lxNk hL0 (Nat.le_of_ble_eq_true rfl)) o2 ?_
        obtain ⟨o3, h⟩ := h
        refine JS_iast dX4_tryBury_78 (lxB1 hL0) (lx2k hL0 _) (lxNk hL0 (Nat.le_of_ble_eq_true rfl)) o3 ?_
        refine JT_aload_n (q := 0) dX4_tryBury_79 rfl rfl ?_
        refine JS_getR (x := (L0 + 2)) dX4_tryBury_80 flX4_15 (lxB hL0) (lx2 hL0) (lxN hL0) (Or.inr ⟨_, ct_4_1⟩) (lxR1 hL0) ?_
        refine JT_iload_n (q := 3) dX4_tryBury_83 rfl rfl ?_
        refine JT_aload_n (q := 0) dX4_tryBury_84 rfl rfl ?_
        refine JS_getR (x := (L0 + 2)) dX4_tryBury_85 flX4_15 (lxB hL0) (lx2 hL0) (lxN hL0) (Or.inr ⟨_, ct_4_1⟩) (lxR1 hL0) ?_
        refine JT_iload_n (q := 3) dX4_tryBury_88 rfl rfl ?_
        obtain ⟨o4, h⟩ := h
        refine JS_iald dX4_tryBury_89 (lxB2 hL0) (lx2k hL0 _) (lxNk hL0 (Nat.le_of_ble_eq_true rfl)) o4 ?_
        refine JT_iload_n (q := 1) dX4_tryBury_90 rfl rfl ?_
        refine JT_icmp_ne (tgt := 98) dX4_tryBury_91 (by decide) (fun hc21 => ?_) (fun hc21 => ?_)
        · have h := h.1 hc21
          refine JT_aload_n (q := 0) dX4_tryBury_98 rfl rfl ?_
          refine JS_getR (x := (L0 + 2)) dX4_tryBury_99 flX4_15 (lxB hL0) (lx2 hL0) (lxN hL0) (Or.inr ⟨_, ct_4_1⟩) (lxR1 hL0) ?_
          refine JT_iload_n (q := 3) dX4_tryBury_102 rfl rfl ?_
          obtain ⟨o5, h⟩ := h
          refine JS_iald dX4_tryBury_103 (lxB2 hL0) (lx2k hL0 _) (lxNk hL0 (Nat.le_of_ble_eq_true rfl)) o5 ?_
          obtain ⟨o6, h⟩ := h
          refine JS_iast dX4_tryBury_104 (lxB2 hL0) (lx2k hL0 _) (lxNk hL0 (Nat.le_of_ble_eq_true rfl)) o6 ?_
          obtain ⟨s7, hs7⟩ : ∃ z, z = (pI (pI s (L0 + 1) (a3).toNatClampNeg (gI s (L0 + 1) (a3).toNatClampNeg)) (L0 + 2) (a3).toNatClampNeg (gI (pI s (L0 + 1) (a3).toNatClampNeg (gI s (L0 + 1) (a3).toNatClampNeg)) (L0 + 2) (a3).toNatClampNeg)) := ⟨_, rfl⟩
          replace h := h s7 hs7
          rw [← hs7]
          refine JT_aload_n (q := 0) dX4_tryBury_105 rfl rfl ?_
          refine JS_getR (x := (L0 + 6)) dX4_tryBury_106 flX4_27 (lxB hL0) (lx2 hL0) (lxN hL0) (Or.inr ⟨_, ct_4_5⟩) (lxR5 hL0) ?_
          refine JT_iload_n (q := 3) dX4_tryBury_109 rfl rfl ?_
          refine JT_aload_n (q := 0) dX4_tryBury_110 rfl rfl ?_
          refine JS_getR (x := (L0 + 1)) dX4_tryBury_111 flX4_9 (lxB hL0) (lx2 hL0) (lxN hL0) (Or.inr ⟨_, ct_4_0⟩) (lxR0 hL0) ?_
          refine JT_iload_n (q := 3) dX4_tryBury_114 rfl rfl ?_
          obtain ⟨o8, h⟩ := h
          refine JS_iald dX4_tryBury_115 (lxB1 hL0) (lx2k hL0 _) (lxNk hL0 (Nat.le_of_ble_eq_true rfl)) o8 ?_
          refine JT_aload_n (q := 0) dX4_tryBury_116 rfl rfl ?_
          refine JS_getR (x := (L0 + 2)) dX4_tryBury_117 flX4_15 (lxB hL0) (lx2 hL0) (lxN hL0) (Or.inr ⟨_, ct_4_1⟩) (lxR1 hL0) ?_
          refine JT_iload_n (q := 3) dX4_tryBury_120 rfl rfl ?_
          obtain ⟨o9, h⟩ := h
          refine JS_iald dX4_tryBury_121 (lxB2 hL0) (lx2k hL0 _) (lxNk hL0 (Nat.le_of_ble_eq_true rfl)) o9 ?_
          have hj12 : ∀ v : Int32, v = (if (gI s7 (L0 + 1) (a3).toNatClampNeg) = (gI s7 (L0 + 2) (a3).toNatClampNeg) then (2 : Int32) else (0 : Int32)) → JT MX4_tryBury 2 0 0 130 [(0, .ref L0), (1, .int a1), (2, .int a2), (3, .int a3)] [.int v, .int a3, .ref (L0 + 6)] (std s7) (KQ Q) := by
            intro v hv
            subst hv
            obtain ⟨o10, h⟩ := h
            refine JS_iast dX4_tryBury_130 (lxB6 hL0) (lx2k hL0 _) (lxNk hL0 (Nat.le_of_ble_eq_true rfl)) o10 ?_
            obtain ⟨s11, hs11⟩ : ∃ z, z = (pI s7 (L0 + 6) (a3).toNatClampNeg (if (gI s7 (L0 + 1) (a3).toNatClampNeg) = (gI s7 (L0 + 2) (a3).toNatClampNeg) then (2 : Int32) else (0 : Int32))) := ⟨_, rfl⟩
            replace h := h s11 hs11
            rw [← hs11]
            refine JT_iinc (q := 3) (v := (a3 + 1)) (lv' := [(3, .int (a3 + 1)), (0, .ref L0), (1, .int a1), (2, .int a2)]) dX4_tryBury_131 rfl (by rfl) (Nat.le_of_ble_eq_true rfl) rfl ?_
            refine JT_goto (tgt := 37) dX4_tryBury_134 (by decide) ?_
            exact JT_sub [1, 2, 3, 0] rfl h
          refine JT_icmp_ne (tgt := 129) dX4_tryBury_122 (by decide) (fun hc13 => ?_) (fun hc13 => ?_)
          · refine JT_iconst (v := 0) dX4_tryBury_129 ic_0 ?_
            exact hj12 _ (by rw [if_neg hc13])
          · refine JT_iconst (v := 2) dX4_tryBury_125 ic_2 ?_
            refine JT_goto (tgt := 130) dX4_tryBury_126 (by decide) ?_
            exact hj12 _ (by rw [if_pos hc13])
        · have h := h.2 hc21
          refine JT_iload_n (q := 2) dX4_tryBury_94 rfl rfl ?_
          refine JT_goto (tgt := 104) dX4_tryBury_95 (by decide) ?_
          obtain ⟨o14, h⟩ := h
          refine JS_iast dX4_tryBury_104 (lxB2 hL0) (lx2k hL0 _) (lxNk hL0 (Nat.le_of_ble_eq_true rfl)) o14 ?_
          refine JT_aload_n (q := 0) dX4_tryBury_105 rfl rfl ?_
          refine JS_getR (x := (L0 + 6)) dX4_tryBury_106 flX4_27 (lxB hL0) (lx2 hL0) (lxN hL0) (Or.inr ⟨_, ct_4_5⟩) (lxR5 hL0) ?_
          refine JT_iload_n (q := 3) dX4_tryBury_109 rfl rfl ?_
          refine JT_aload_n (q := 0) dX4_tryBury_110 rfl rfl ?_
          refine JS_getR (x := (L0 + 1)) dX4_tryBury_111 flX4_9 (lxB hL0) (lx2 hL0) (lxN hL0) (Or.inr ⟨_, ct_4_0⟩) (lxR0 hL0) ?_
          refine JT_iload_n (q := 3) dX4_tryBury_114 rfl rfl ?_
          obtain ⟨o15, h⟩ := h
          refine JS_iald dX4_tryBury_115 (lxB1 hL0) (lx2k hL0 _) (lxNk hL0 (Nat.le_of_ble_eq_true rfl)) o15 ?_
          refine JT_aload_n (q := 0) dX4_tryBury_116 rfl rfl ?_
          refine JS_getR (x := (L0 + 2)) dX4_tryBury_117 flX4_15 (lxB hL0) (lx2 hL0) (lxN hL0) (Or.inr ⟨_, ct_4_1⟩) (lxR1 hL0) ?_
          refine JT_iload_n (q := 3) dX4_tryBury_120 rfl rfl ?_
          obtain ⟨o16, h⟩ := h
          refine JS_iald dX4_tryBury_121 (lxB2 hL0) (lx2k hL0 _) (lxNk hL0 (Nat.le_of_ble_eq_true rfl)) o16 ?_
          have hj19 : ∀ v : Int32, v = (if (gI (pI (pI s (L0 + 1) (a3).toNatClampNeg (gI s (L0 + 1) (a3).toNatClampNeg)) (L0 + 2) (a3).toNatClampNeg a2) (L0 + 1) (a3).toNatClampNeg) = (gI (pI (pI s (L0 + 1) (a3).toNatClampNeg (gI s (L0 + 1) (a3).toNatClampNeg)) (L0 + 2) (a3).toNatClampNeg a2) (L0 + 2) (a3).toNatClampNeg) then (2 : Int32) else (0 : Int32)) → JT MX4_tryBury 2 0 0 130 [(0, .ref L0), (1, .int a1), (2, .int a2), (3, .int a3)] [.int v, .int a3, .ref (L0 + 6)] (std (pI (pI s (L0 + 1) (a3).toNatClampNeg (gI s (L0 + 1) (a3).toNatClampNeg)) (L0 + 2) (a3).toNatClampNeg a2)) (KQ Q) := by
            intro v hv
            subst hv
            obtain ⟨o17, h⟩ := h
            refine JS_iast dX4_tryBury_130 (lxB6 hL0) (lx2k hL0 _) (lxNk hL0 (Nat.le_of_ble_eq_true rfl)) o17 ?_
            obtain ⟨s18, hs18⟩ : ∃ z, z = (pI (pI (pI s (L0 + 1) (a3).toNatClampNeg (gI s (L0 + 1) (a3).toNatClampNeg)) (L0 + 2) (a3).toNatClampNeg a2) (L0 + 6) (a3).toNatClampNeg (if (gI (pI (pI s (L0 + 1) (a3).toNatClampNeg (gI s (L0 + 1) (a3).toNatClampNeg)) (L0 + 2) (a3).toNatClampNeg a2) (L0 + 1) (a3).toNatClampNeg) = (gI (pI (pI s (L0 + 1) (a3).toNatClampNeg (gI s (L0 + 1) (a3).toNatClampNeg)) (L0 + 2) (a3).toNatClampNeg a2) (L0 + 2) (a3).toNatClampNeg) then (2 : Int32) else (0 : Int32))) := ⟨_, rfl⟩
            replace h := h s18 hs18
            rw [← hs18]
            refine JT_iinc (q := 3) (v := (a3 + 1)) (lv' := [(3, .int (a3 + 1)), (0, .ref L0), (1, .int a1), (2, .int a2)]) dX4_tryBury_131 rfl (by rfl) (Nat.le_of_ble_eq_true rfl) rfl ?_
            refine JT_goto (tgt := 37) dX4_tryBury_134 (by decide) ?_
            exact JT_sub [1, 2, 3, 0] rfl h
          refine JT_icmp_ne (tgt := 129) dX4_tryBury_122 (by decide) (fun hc20 => ?_) (fun hc20 => ?_)
          · refine JT_iconst (v := 0) dX4_tryBury_129 ic_0 ?_
            exact hj19 _ (by rw [if_neg hc20])
          · refine JT_iconst (v := 2) dX4_tryBury_125 ic_2 ?_
            refine JT_goto (tgt := 130) dX4_tryBury_126 (by decide) ?_
            exact hj19 _ (by rw [if_pos hc20])
      · have h := h.2 hc41
        refine JT_iload_n (q := 2) dX4_tryBury_68 rfl rfl ?_
        refine JT_goto (tgt := 78) dX4_tryBury_69 (by decide) ?_
        obtain ⟨o22, h⟩ := h
        refine JS_iast dX4_tryBury_78 (lxB1 hL0) (lx2k hL0 _) (lxNk hL0 (Nat.le_of_ble_eq_true rfl)) o22 ?_
        refine JT_aload_n (q := 0) dX4_tryBury_79 rfl rfl ?_
        refine JS_getR (x := (L0 + 2)) dX4_tryBury_80 flX4_15 (lxB hL0) (lx2 hL0) (lxN hL0) (Or.inr ⟨_, ct_4_1⟩) (lxR1 hL0) ?_
        refine JT_iload_n (q := 3) dX4_tryBury_83 rfl rfl ?_
        refine JT_aload_n (q := 0) dX4_tryBury_84 rfl rfl ?_
        refine JS_getR (x := (L0 + 2)) dX4_tryBury_85 flX4_15 (lxB hL0) (lx2 hL0) (lxN hL0) (Or.inr ⟨_, ct_4_1⟩) (lxR1 hL0) ?_
        refine JT_iload_n (q := 3) dX4_tryBury_88 rfl rfl ?_
        obtain ⟨o23, h⟩ := h
        refine JS_iald dX4_tryBury_89 (lxB2 hL0) (lx2k hL0 _) (lxNk hL0 (Nat.le_of_ble_eq_true rfl)) o23 ?_
        refine JT_iload_n (q := 1) dX4_tryBury_90 rfl rfl ?_
        refine JT_icmp_ne (tgt := 98) dX4_tryBury_91 (by decide) (fun hc40 => ?_) (fun hc40 => ?_)
        · have h := h.1 hc40
          refine JT_aload_n (q := 0) dX4_tryBury_98 rfl rfl ?_
          refine JS_getR (x := (L0 + 2)) dX4_tryBury_99 flX4_15 (lxB hL0) (lx2 hL0) (lxN hL0) (Or.inr ⟨_, ct_4_1⟩) (lxR1 hL0) ?_
          refine JT_iload_n (q := 3) dX4_tryBury_102 rfl rfl ?_
          obtain ⟨o24, h⟩ := h
          refine JS_iald dX4_tryBury_103 (lxB2 hL0) (lx2k hL0 _) (lxNk hL0 (Nat.le_of_ble_eq_true rfl)) o24 ?_
          obtain ⟨o25, h⟩ := h
          refine JS_iast dX4_tryBury_104 (lxB2 hL0) (lx2k hL0 _) (lxNk hL0 (Nat.le_of_ble_eq_true rfl)) o25 ?_
          obtain ⟨s26, hs26⟩ : ∃ z, z = (pI (pI s (L0 + 1) (a3).toNatClampNeg a2) (L0 + 2) (a3).toNatClampNeg (gI (pI s (L0 + 1) (a3).toNatClampNeg a2) (L0 + 2) (a3).toNatClampNeg)) := ⟨_, rfl⟩
          replace h := h s26 hs26
          rw [← hs26]
          refine JT_aload_n (q := 0) dX4_tryBury_105 rfl rfl ?_
          refine JS_getR (x := (L0 + 6)) dX4_tryBury_106 flX4_27 (lxB hL0) (lx2 hL0) (lxN hL0) (Or.inr ⟨_, ct_4_5⟩) (lxR5 hL0) ?_
          refine JT_iload_n (q := 3) dX4_tryBury_109 rfl rfl ?_
          refine JT_aload_n (q := 0) dX4_tryBury_110 rfl rfl ?_
          refine JS_getR (x := (L0 + 1)) dX4_tryBury_111 flX4_9 (lxB hL0) (lx2 hL0) (lxN hL0) (Or.inr ⟨_, ct_4_0⟩) (lxR0 hL0) ?_
          refine JT_iload_n (q := 3) dX4_tryBury_114 rfl rfl ?_
          obtain ⟨o27, h⟩ := h
          refine JS_iald dX4_tryBury_115 (lxB1 hL0) (lx2k hL0 _) (lxNk hL0 (Nat.le_of_ble_eq_true rfl)) o27 ?_
          refine JT_aload_n (q := 0) dX4_tryBury_116 rfl rfl ?_
          refine JS_getR (x := (L0 + 2)) dX4_tryBury_117 flX4_15 (lxB hL0) (lx2 hL0) (lxN hL0) (Or.inr ⟨_, ct_4_1⟩) (lxR1 hL0) ?_
          refine JT_iload_n (q := 3) dX4_tryBury_120 rfl rfl ?_
          obtain ⟨o28, h⟩ := h
          refine JS_iald dX4_tryBury_121 (lxB2 hL0) (lx2k hL0 _) (lxNk hL0 (Nat.le_of_ble_eq_true rfl)) o28 ?_
          have hj31 : ∀ v : Int32, v = (if (gI s26 (L0 + 1) (a3).toNatClampNeg) = (gI s26 (L0 + 2) (a3).toNatClampNeg) then (2 : Int32) else (0 : Int32)) → JT MX4_tryBury 2 0 0 130 [(0, .ref L0), (1, .int a1), (2, .int a2), (3, .int a3)] [.int v, .int a3, .ref (L0 + 6)] (std s26) (KQ Q) := by
            intro v hv
            subst hv
            obtain ⟨o29, h⟩ := h
            refine JS_iast dX4_tryBury_130 (lxB6 hL0) (lx2k hL0 _) (lxNk hL0 (Nat.le_of_ble_eq_true rfl)) o29 ?_
            obtain ⟨s30, hs30⟩ : ∃ z, z = (pI s26 (L0 + 6) (a3).toNatClampNeg (if (gI s26 (L0 + 1) (a3).toNatClampNeg) = (gI s26 (L0 + 2) (a3).toNatClampNeg) then (2 : Int32) else (0 : Int32))) := ⟨_, rfl⟩
            replace h := h s30 hs30
            rw [← hs30]
            refine JT_iinc (q := 3) (v := (a3 + 1)) (lv' := [(3, .int (a3 + 1)), (0, .ref L0), (1, .int a1), (2, .int a2)]) dX4_tryBury_131 rfl (by rfl) (Nat.le_of_ble_eq_true rfl) rfl ?_
            refine JT_goto (tgt := 37) dX4_tryBury_134 (by decide) ?_
            exact JT_sub [1, 2, 3, 0] rfl h
          refine JT_icmp_ne (tgt := 129) dX4_tryBury_122 (by decide) (fun hc32 => ?_) (fun hc32 => ?_)
          · refine JT_iconst (v := 0) dX4_tryBury_129 ic_0 ?_
            exact hj31 _ (by rw [if_neg hc32])
          · refine JT_iconst (v := 2) dX4_tryBury_125 ic_2 ?_
            refine JT_goto (tgt := 130) dX4_tryBury_126 (by decide) ?_
            exact hj31 _ (by rw [if_pos hc32])
        · have h := h.2 hc40
          refine JT_iload_n (q := 2) dX4_tryBury_94 rfl rfl ?_
          refine JT_goto (tgt := 104) dX4_tryBury_95 (by decide) ?_
          obtain ⟨o33, h⟩ := h
          refine JS_iast dX4_tryBury_104 (lxB2 hL0) (lx2k hL0 _) (lxNk hL0 (Nat.le_of_ble_eq_true rfl)) o33 ?_
          refine JT_aload_n (q := 0) dX4_tryBury_105 rfl rfl ?_
          refine JS_getR (x := (L0 + 6)) dX4_tryBury_106 flX4_27 (lxB hL0) (lx2 hL0) (lxN hL0) (Or.inr ⟨_, ct_4_5⟩) (lxR5 hL0) ?_
          refine JT_iload_n (q := 3) dX4_tryBury_109 rfl rfl ?_
          refine JT_aload_n (q := 0) dX4_tryBury_110 rfl rfl ?_
          refine JS_getR (x := (L0 + 1)) dX4_tryBury_111 flX4_9 (lxB hL0) (lx2 hL0) (lxN hL0) (Or.inr ⟨_, ct_4_0⟩) (lxR0 hL0) ?_
          refine JT_iload_n (q := 3) dX4_tryBury_114 rfl rfl ?_
          obtain ⟨o34, h⟩ := h
          refine JS_iald dX4_tryBury_115 (lxB1 hL0) (lx2k hL0 _) (lxNk hL0 (Nat.le_of_ble_eq_true rfl)) o34 ?_
          refine JT_aload_n (q := 0) dX4_tryBury_116 rfl rfl ?_
          refine JS_getR (x := (L0 + 2)) dX4_tryBury_117 flX4_15 (lxB hL0) (lx2 hL0) (lxN hL0) (Or.inr ⟨_, ct_4_1⟩) (lxR1 hL0) ?_
          refine JT_iload_n (q := 3) dX4_tryBury_120 rfl rfl ?_
          obtain ⟨o35, h⟩ := h
          refine JS_iald dX4_tryBury_121 (lxB2 hL0) (lx2k hL0 _) (lxNk hL0 (Nat.le_of_ble_eq_true rfl)) o35 ?_
          have hj38 : ∀ v : Int32, v = (if (gI (pI (pI s (L0 + 1) (a3).toNatClampNeg a2) (L0 + 2) (a3).toNatClampNeg a2) (L0 + 1) (a3).toNatClampNeg) = (gI (pI (pI s (L0 + 1) (a3).toNatClampNeg a2) (L0 + 2) (a3).toNatClampNeg a2) (L0 + 2) (a3).toNatClampNeg) then (2 : Int32) else (0 : Int32)) → JT MX4_tryBury 2 0 0 130 [(0, .ref L0), (1, .int a1), (2, .int a2), (3, .int a3)] [.int v, .int a3, .ref (L0 + 6)] (std (pI (pI s (L0 + 1) (a3).toNatClampNeg a2) (L0 + 2) (a3).toNatClampNeg a2)) (KQ Q) := by
            intro v hv
            subst hv
            obtain ⟨o36, h⟩ := h
            refine JS_iast dX4_tryBury_130 (lxB6 hL0) (lx2k hL0 _) (lxNk hL0 (Nat.le_of_ble_eq_true rfl)) o36 ?_
            obtain ⟨s37, hs37⟩ : ∃ z, z = (pI (pI (pI s (L0 + 1) (a3).toNatClampNeg a2) (L0 + 2) (a3).toNatClampNeg a2) (L0 + 6) (a3).toNatClampNeg (if (gI (pI (pI s (L0 + 1) (a3).toNatClampNeg a2) (L0 + 2) (a3).toNatClampNeg a2) (L0 + 1) (a3).toNatClampNeg) = (gI (pI (pI s (L0 + 1) (a3).toNatClampNeg a2) (L0 + 2) (a3).toNatClampNeg a2) (L0 + 2) (a3).toNatClampNeg) then (2 : Int32) else (0 : Int32))) := ⟨_, rfl⟩
            replace h := h s37 hs37
            rw [← hs37]
            refine JT_iinc (q := 3) (v := (a3 + 1)) (lv' := [(3, .int (a3 + 1)), (0, .ref L0), (1, .int a1), (2, .int a2)]) dX4_tryBury_131 rfl (by rfl) (Nat.le_of_ble_eq_true rfl) rfl ?_
            refine JT_goto (tgt := 37) dX4_tryBury_134 (by decide) ?_
            exact JT_sub [1, 2, 3, 0] rfl h
          refine JT_icmp_ne (tgt := 129) dX4_tryBury_122 (by decide) (fun hc39 => ?_) (fun hc39 => ?_)
          · refine JT_iconst (v := 0) dX4_tryBury_129 ic_0 ?_
            exact hj38 _ (by rw [if_neg hc39])
          · refine JT_iconst (v := 2) dX4_tryBury_125 ic_2 ?_
            refine JT_goto (tgt := 130) dX4_tryBury_126 (by decide) ?_
            exact hj38 _ (by rw [if_pos hc39])
set_option maxRecDepth 1000000 in
theorem bX4_tryBury {L0 P0 : Nat} (hL0 : (L0, P0) ∈ LX) (a1 : Int32) (a2 : Int32) {s : SM} {Q : Int32 → SM → Prop} (h : ((a1 = a2 → Q (1 : Int32) s) ∧ (¬ a1 = a2 → (((vX4_lives s L0 P0 a1) = 0 → Q (1 : Int32) s) ∧ (¬ (vX4_lives s L0 P0 a1) = 0 → ((¬ (vX4_lives s L0 P0 a2) = 0 → BI MX4_tryBury 2 37 [(0, .ref L0), (1, .int a1), (2, .int a2), (3, .int (0 : Int32))] (pI s L0 14 ((gI s L0 14) ||| ((1 : Int32) <<< (a1 &&& 31)))) Q) ∧ ((vX4_lives s L0 P0 a2) = 0 → Q (1 : Int32) s))))))) : KI MX4_tryBury 2 [.ref L0, .int a1, .int a2] s Q := by
  show BI MX4_tryBury 2 0 [(0, .ref L0), (1, .int a1), (2, .int a2)] s Q
  refine JT_iload_n (q := 1) dX4_tryBury_0 rfl rfl ?_
  refine JT_iload_n (q := 2) dX4_tryBury_1 rfl rfl ?_
  refine JT_icmp_eq (tgt := 21) dX4_tryBury_2 (by decide) (fun hc5 => ?_) (fun hc5 => ?_)
  · have h := h.1 hc5
    refine JT_iconst (v := 1) dX4_tryBury_21 ic_1 ?_
    exact JS_iret dX4_tryBury_22 rfl rfl h
  · have h := h.2 hc5
    refine JT_aload_n (q := 0) dX4_tryBury_5 rfl rfl ?_
    refine JT_iload_n (q := 1) dX4_tryBury_6 rfl rfl ?_
    refine JS_callVI (M' := MX4_lives) (d' := 0) (As := [.int a1]) (rest := []) (P := (fun zv9 wm9 => (vX4_lives s L0 P0 a1) = zv9 ∧ s = wm9)) dX4_tryBury_7 cvX4_85 okX4_lives rfl (Nat.le_of_ble_eq_true rfl) (lxB hL0) (lx2 hL0) (lxN hL0) hci_4 (Nat.le_of_ble_eq_true rfl) (Nat.le_of_ble_eq_true rfl) (pX4_lives hL0 (a1)  ⟨rfl, rfl⟩) (fun zv9 wm9 hq9 => ?_)
    obtain ⟨rfl, rfl⟩ := hq9
    refine JT_if_eq (tgt := 21) dX4_tryBury_10 (by decide) (fun hc3 => ?_) (fun hc3 => ?_)
    · have h := h.1 hc3
      refine JT_iconst (v := 1) dX4_tryBury_21 ic_1 ?_
      exact JS_iret dX4_tryBury_22 rfl rfl h
    · have h := h.2 hc3
      refine JT_aload_n (q := 0) dX4_tryBury_13 rfl rfl ?_
      refine JT_iload_n (q := 2) dX4_tryBury_14 rfl rfl ?_
      refine JS_callVI (M' := MX4_lives) (d' := 0) (As := [.int a2]) (rest := []) (P := (fun zv9 wm9 => (vX4_lives s L0 P0 a2) = zv9 ∧ s = wm9)) dX4_tryBury_15 cvX4_85 okX4_lives rfl (Nat.le_of_ble_eq_true rfl) (lxB hL0) (lx2 hL0) (lxN hL0) hci_4 (Nat.le_of_ble_eq_true rfl) (Nat.le_of_ble_eq_true rfl) (pX4_lives hL0 (a2)  ⟨rfl, rfl⟩) (fun zv9 wm9 hq9 => ?_)
      obtain ⟨rfl, rfl⟩ := hq9
      refine JT_if_ne (tgt := 23) dX4_tryBury_18 (by decide) (fun hc1 => ?_) (fun hc1 => ?_)
      · have h := h.1 hc1
        refine JT_aload_n (q := 0) dX4_tryBury_23 rfl rfl ?_
        refine JT_dup dX4_tryBury_24 rfl ?_
        refine JS_getI dX4_tryBury_25 flX4_56 (lxB hL0) (lx2 hL0) (lxN hL0) (Or.inl ct_4_14) ?_
        refine JT_iconst (v := 1) dX4_tryBury_28 ic_1 ?_
        refine JT_iload_n (q := 1) dX4_tryBury_29 rfl rfl ?_
        refine JT_ishl dX4_tryBury_30 ?_
        refine JT_ior dX4_tryBury_31 ?_
        refine JS_putI dX4_tryBury_32 flX4_56 (lxB hL0) (lx2 hL0) (lxN hL0) ct_4_14 ?_
        refine JT_iconst (v := 0) dX4_tryBury_35 ic_0 ?_
        refine JT_istore_n (lv' := [(3, .int (0 : Int32)), (0, .ref L0), (1, .int a1), (2, .int a2)]) dX4_tryBury_36 rfl (Nat.le_of_ble_eq_true rfl) rfl ?_
        exact JT_sub [1, 2, 3, 0] rfl h
      · have h := h.2 hc1
        refine JT_iconst (v := 1) dX4_tryBury_21 ic_1 ?_
        exact JS_iret dX4_tryBury_22 rfl rfl h
set_option maxRecDepth 1000000 in
theorem gX4_tryBury {L0 P0 : Nat} (hL0 : (L0, P0) ∈ LX) : ∀ n : Nat, (∀ (a1 : Int32) (a2 : Int32) (a3 : Int32) (s : SM) (Q : Int32 → SM → Prop), ((qX4_tryBury n) s L0 P0 a1 a2 a3) → Q ((lX4_tryBury n) s L0 P0 a1 a2 a3).1 ((lX4_tryBury n) s L0 P0 a1 a2 a3).2 → BI MX4_tryBury 2 37 [(0, .ref L0), (1, .int a1), (2, .int a2), (3, .int a3)] s Q) := by
  intro n
  induction n with
  | zero => exact fun _ _ _ _ _ hq _ => absurd hq id
  | succ n ih =>
    intro a1 a2 a3 s Q hr h
    replace hr : uX4_tryBury_37 (qX4_tryBury n) s L0 P0 a1 a2 a3 := hr
    replace h : Q (tX4_tryBury_37 (lX4_tryBury n) s L0 P0 a1 a2 a3).1 (tX4_tryBury_37 (lX4_tryBury n) s L0 P0 a1 a2 a3).2 := h
    unfold uX4_tryBury_37 at hr
    unfold tX4_tryBury_37 at h
    refine bX4_tryBury_37 hL0 a1 a2 a3 ?_
    refine ⟨fun c => ?_, fun c => ?_⟩
    · replace h := q3p c h
      first | exact h | contradiction
    · replace hr := hr c
      replace h := q3n c h
      refine ⟨hr.1, ?_⟩
      replace hr := hr.2
      refine ⟨fun c => ?_, fun c => ?_⟩
      · replace hr := hr.1 c
        replace h := q3p c h
        first | exact ih a1 a2 (a3 + 1) _ Q hr h | contradiction
      · replace hr := hr.2 c
        replace h := q3n c h
        refine ⟨hr.1, ?_⟩
        replace hr := hr.2
        refine ⟨fun c => ?_, fun c => ?_⟩
        · replace hr := hr.1 c
          replace h := q3n c h
          refine ⟨hr.1, ?_⟩
          replace hr := hr.2
          refine ⟨hr.1, ?_⟩
          replace hr := hr.2
          refine ⟨hr.1, ?_⟩
          replace hr := hr.2
          refine ⟨fun c => ?_, fun c => ?_⟩
          · replace hr := hr.1 c
            replace h := q3n c h
            refine ⟨hr.1, ?_⟩
            replace hr := hr.2
            refine ⟨hr.1, ?_⟩
            replace hr := hr.2
            intro s7 e9
            replace hr := hr s7 e9
            try rw [← e9] at h
            try dsimp only at h
            refine ⟨hr.1, ?_⟩
            replace hr := hr.2
            refine ⟨hr.1, ?_⟩
            replace hr := hr.2
            refine ⟨hr.1, ?_⟩
            replace hr := hr.2
            intro s11 e9
            replace hr := hr s11 e9
            try rw [← e9] at h
            try dsimp only at h
            first | exact ih a1 a2 (a3 + 1) _ Q hr h | contradiction
          · replace hr := hr.2 c
            replace h := q3p c h
            refine ⟨hr.1, ?_⟩
            replace hr := hr.2
            refine ⟨hr.1, ?_⟩
            replace hr := hr.2
            refine ⟨hr.1, ?_⟩
            replace hr := hr.2
            refine ⟨hr.1, ?_⟩
            replace hr := hr.2
            intro s18 e9
            replace hr := hr s18 e9
            try rw [← e9] at h
            try dsimp only at h
            first | exact ih a1 a2 (a3 + 1) _ Q hr h | contradiction
        · replace hr := hr.2 c
          replace h := q3p c h
          refine ⟨hr.1, ?_⟩
          replace hr := hr.2
          refine ⟨hr.1, ?_⟩
          replace hr := hr.2
          refine ⟨fun c => ?_, fun c => ?_⟩
          · replace hr := hr.1 c
            replace h := q3n c h
            refine ⟨hr.1, ?_⟩
            replace hr := hr.2
            refine ⟨hr.1, ?_⟩
            replace hr := hr.2
            intro s26 e9
            replace hr := hr s26 e9
            try rw [← e9] at h
            try dsimp only at h
            refine ⟨hr.1, ?_⟩
            replace hr := hr.2
            refine ⟨hr.1, ?_⟩
            replace hr := hr.2
            refine ⟨hr.1, ?_⟩
            replace hr := hr.2
            intro s30 e9
            replace hr := hr s30 e9
            try rw [← e9] at h
            try dsimp only at h
            first | exact ih a1 a2 (a3 + 1) _ Q hr h | contradiction
          · replace hr := hr.2 c
            replace h := q3p c h
            refine ⟨hr.1, ?_⟩
            replace hr := hr.2
            refine ⟨hr.1, ?_⟩
            replace hr := hr.2
            refine ⟨hr.1, ?_⟩
            replace hr := hr.2
            refine ⟨hr.1, ?_⟩
            replace hr := hr.2
            intro s37 e9
            replace hr := hr s37 e9
            try rw [← e9] at h
            try dsimp only at h
            first | exact ih a1 a2 (a3 + 1) _ Q hr h | contradiction
set_option maxRecDepth 1000000 in
theorem pX4_tryBury {L0 P0 : Nat} (hL0 : (L0, P0) ∈ LX) (a1 : Int32) (a2 : Int32) {s : SM} {Q : Int32 → SM → Prop} (hr : rX4_tryBury s L0 P0 a1 a2) (h : Q (vX4_tryBury s L0 P0 a1 a2) (mX4_tryBury s L0 P0 a1 a2)) : KI MX4_tryBury 2 [.ref L0, .int a1, .int a2] s Q := by
  replace h : Q (fX4_tryBury s L0 P0 a1 a2).1 (fX4_tryBury s L0 P0 a1 a2).2 := h
  unfold rX4_tryBury at hr
  unfold fX4_tryBury at h
  refine bX4_tryBury hL0 a1 a2 ?_
  refine ⟨fun c => ?_, fun c => ?_⟩
  · replace h := q3p c h
    first | exact h | contradiction
  · replace hr := hr c
    replace h := q3n c h
    refine ⟨fun c => ?_, fun c => ?_⟩
    · replace h := q3p c h
      first | exact h | contradiction
    · replace hr := hr c
      replace h := q3n c h
      refine ⟨fun c => ?_, fun c => ?_⟩
      · replace hr := hr c
        replace h := q3n c h
        first | exact (gX4_tryBury hL0 FU) a1 a2 (0 : Int32) _ Q hr h | contradiction
      · replace h := q3p c h
        first | exact h | contradiction
set_option maxRecDepth 1000000 in
theorem bX5_isTold_31 {p1 : Nat} (hp1 : p1 ∈ PX) (a2 : Int32) (a3 : Int32) {s : SM} {Q : Int32 → SM → Prop} (h : ((((3 : Int32) * a2) ≤ a3 → Q (1 : Int32) s) ∧ (¬ ((3 : Int32) * a2) ≤ a3 → rX9_byteOr s a3 (-1 : Int32) ∧ rX9_byteOr s (a3 + (1 : Int32)) (-1 : Int32) ∧ rX9_byteOr s (a3 + (2 : Int32)) (-1 : Int32) ∧ ((¬ (vX6_hasDealers s p1 (vX9_byteOr s a3 (-1 : Int32)) (vX9_byteOr s (a3 + (1 : Int32)) (-1 : Int32)) (vX9_byteOr s (a3 + (2 : Int32)) (-1 : Int32))) = 0 → BI MX5_isTold 2 31 [(0, .ref 3), (1, .ref p1), (2, .int a2), (3, .int (a3 + 3))] s Q) ∧ ((vX6_hasDealers s p1 (vX9_byteOr s a3 (-1 : Int32)) (vX9_byteOr s (a3 + (1 : Int32)) (-1 : Int32)) (vX9_byteOr s (a3 + (2 : Int32)) (-1 : Int32))) = 0 → Q (0 : Int32) s))))) : BI MX5_isTold 2 31 [(0, .ref 3), (1, .ref p1), (2, .int a2), (3, .int a3)] s Q := by
  refine JT_iload_n (q := 3) dX5_isTold_31 rfl rfl ?_
  refine JT_iconst (v := 3) dX5_isTold_32 ic_3 ?_
  refine JT_iload_n (q := 2) dX5_isTold_33 rfl rfl ?_
  refine JT_imul dX5_isTold_34 ?_
  refine JT_icmp_ge (tgt := 75) dX5_isTold_35 (by decide) (fun hc6 => ?_) (fun hc6 => ?_)
  · have h := h.1 hc6
    refine JT_iconst (v := 1) dX5_isTold_75 ic_1 ?_
    exact JS_iret dX5_isTold_76 rfl (n01 (Or.inr rfl)) h
  · have h := h.2 hc6
    refine JT_aload_n (q := 1) dX5_isTold_38 rfl rfl ?_
    refine JT_aload_n (q := 0) dX5_isTold_39 rfl rfl ?_
    refine JT_iload_n (q := 3) dX5_isTold_40 rfl rfl ?_
    refine JT_iconst (v := -1) dX5_isTold_41 ic_m1 ?_
    obtain ⟨o5, h⟩ := h
    refine JS_callVI (M' := MX9_byteOr) (d' := 0) (As := [.int a3, .int (-1 : Int32)]) (rest := [.ref p1]) (P := (fun zv9 wm9 => (vX9_byteOr s a3 (-1 : Int32)) = zv9 ∧ s = wm9)) dX5_isTold_42 cvX5_39 okX9_byteOr rfl (Nat.le_of_ble_eq_true rfl) BS_3 (Nat.le_of_ble_eq_true rfl) (Nat.le_of_ble_eq_true rfl) hci_9 (Nat.le_of_ble_eq_true rfl) (Nat.le_of_ble_eq_true rfl) (pX9_byteOr  (a3) ((-1 : Int32)) o5 ⟨rfl, rfl⟩) (fun zv9 wm9 hq9 => ?_)
    obtain ⟨rfl, rfl⟩ := hq9
    refine JT_aload_n (q := 0) dX5_isTold_45 rfl rfl ?_
    refine JT_iload_n (q := 3) dX5_isTold_46 rfl rfl ?_
    refine JT_iconst (v := 1) dX5_isTold_47 ic_1 ?_
    refine JT_iadd dX5_isTold_48 ?_
    refine JT_iconst (v := -1) dX5_isTold_49 ic_m1 ?_
    obtain ⟨o4, h⟩ := h
    refine JS_callVI (M' := MX9_byteOr) (d' := 0) (As := [.int (a3 + (1 : Int32)), .int (-1 : Int32)]) (rest := [.int (vX9_byteOr s a3 (-1 : Int32)), .ref p1]) (P := (fun zv9 wm9 => (vX9_byteOr s (a3 + (1 : Int32)) (-1 : Int32)) = zv9 ∧ s = wm9)) dX5_isTold_50 cvX5_39 okX9_byteOr rfl (Nat.le_of_ble_eq_true rfl) BS_3 (Nat.le_of_ble_eq_true rfl) (Nat.le_of_ble_eq_true rfl) hci_9 (Nat.le_of_ble_eq_true rfl) (Nat.le_of_ble_eq_true rfl) (pX9_byteOr  ((a3 + (1 : Int32))) ((-1 : Int32)) o4 ⟨rfl, rfl⟩) (fun zv9 wm9 hq9 => ?_)
    obtain ⟨rfl, rfl⟩ := hq9
    refine JT_aload_n (q := 0) dX5_isTold_53 rfl rfl ?_
    refine JT_iload_n (q := 3) dX5_isTold_54 rfl rfl ?_
    refine JT_iconst (v := 2) dX5_isTold_55 ic_2 ?_
    refine JT_iadd dX5_isTold_56 ?_
    refine JT_iconst (v := -1) dX5_isTold_57 ic_m1 ?_
    obtain ⟨o3, h⟩ := h
    refine JS_callVI (M' := MX9_byteOr) (d' := 0) (As := [.int (a3 + (2 : Int32)), .int (-1 : Int32)]) (rest := [.int (vX9_byteOr s (a3 + (1 : Int32)) (-1 : Int32)), .int (vX9_byteOr s a3 (-1 : Int32)), .ref p1]) (P := (fun zv9 wm9 => (vX9_byteOr s (a3 + (2 : Int32)) (-1 : Int32)) = zv9 ∧ s = wm9)) dX5_isTold_58 cvX5_39 okX9_byteOr rfl (Nat.le_of_ble_eq_true rfl) BS_3 (Nat.le_of_ble_eq_true rfl) (Nat.le_of_ble_eq_true rfl) hci_9 (Nat.le_of_ble_eq_true rfl) (Nat.le_of_ble_eq_true rfl) (pX9_byteOr  ((a3 + (2 : Int32))) ((-1 : Int32)) o3 ⟨rfl, rfl⟩) (fun zv9 wm9 hq9 => ?_)
    obtain ⟨rfl, rfl⟩ := hq9
    refine JS_callVI (M' := MX6_hasDealers) (d' := 1) (As := [.int (vX9_byteOr s a3 (-1 : Int32)), .int (vX9_byteOr s (a3 + (1 : Int32)) (-1 : Int32)), .int (vX9_byteOr s (a3 + (2 : Int32)) (-1 : Int32))]) (rest := []) (P := (fun zv9 wm9 => (vX6_hasDealers s p1 (vX9_byteOr s a3 (-1 : Int32)) (vX9_byteOr s (a3 + (1 : Int32)) (-1 : Int32)) (vX9_byteOr s (a3 + (2 : Int32)) (-1 : Int32))) = zv9 ∧ s = wm9)) dX5_isTold_61 cvX5_43 okX6_hasDealers rfl (Nat.le_of_ble_eq_true rfl) (pxB hp1) (px2 hp1) (pxN hp1) hci_6 (Nat.le_of_ble_eq_true rfl) (Nat.le_of_ble_eq_true rfl) (pX6_hasDealers hp1 ((vX9_byteOr s a3 (-1 : Int32))) ((vX9_byteOr s (a3 + (1 : Int32)) (-1 : Int32))) ((vX9_byteOr s (a3 + (2 : Int32)) (-1 : Int32)))  ⟨rfl, rfl⟩) (fun zv9 wm9 hq9 => ?_)
    obtain ⟨rfl, rfl⟩ := hq9
    refine JT_if_ne (tgt := 69) dX5_isTold_64 (by decide) (fun hc1 => ?_) (fun hc1 => ?_)
    · have h := h.1 hc1
      refine JT_iinc (q := 3) (v := (a3 + 3)) (lv' := [(3, .int (a3 + 3)), (0, .ref 3), (1, .ref p1), (2, .int a2)]) dX5_isTold_69 rfl (by rfl) (Nat.le_of_ble_eq_true rfl) rfl ?_
      refine JT_goto (tgt := 31) dX5_isTold_72 (by decide) ?_
      exact JT_sub [1, 2, 3, 0] rfl h
    · have h := h.2 hc1
      refine JT_iconst (v := 0) dX5_isTold_67 ic_0 ?_
      exact JS_iret dX5_isTold_68 rfl (n01 (Or.inl rfl)) h
set_option maxRecDepth 1000000 in
theorem bX5_isTold {p1 : Nat} (hp1 : p1 ∈ PX) {s : SM} {Q : Int32 → SM → Prop} (h : ((¬ ((gI s 3 1) - (gI s 3 1) / (3 : Int32) * (3 : Int32)) = 0 → Q (0 : Int32) s) ∧ (((gI s 3 1) - (gI s 3 1) / (3 : Int32) * (3 : Int32)) = 0 → ((((gI s 3 1) / (3 : Int32)) < (1 : Int32) → Q (0 : Int32) s) ∧ (¬ ((gI s 3 1) / (3 : Int32)) < (1 : Int32) → ((((gI s 3 1) / (3 : Int32)) ≤ (6 : Int32) → BI MX5_isTold 2 31 [(0, .ref 3), (1, .ref p1), (2, .int ((gI s 3 1) / (3 : Int32))), (3, .int (0 : Int32))] s Q) ∧ (¬ ((gI s 3 1) / (3 : Int32)) ≤ (6 : Int32) → Q (0 : Int32) s))))))) : KI MX5_isTold 2 [.ref 3, .ref p1] s Q := by
  show BI MX5_isTold 2 0 [(0, .ref 3), (1, .ref p1)] s Q
  refine JT_aload_n (q := 0) dX5_isTold_0 rfl rfl ?_
  refine JS_getI dX5_isTold_1 flX5_33 BS_3 (Nat.le_of_ble_eq_true rfl) (Nat.le_of_ble_eq_true rfl) (Or.inl ct_9_1) ?_
  refine JT_iconst (v := 3) dX5_isTold_4 ic_3 ?_
  refine JT_idiv dX5_isTold_5 (by decide) ?_
  refine JT_istore_n (lv' := [(2, .int ((gI s 3 1) / (3 : Int32))), (0, .ref 3), (1, .ref p1)]) dX5_isTold_6 rfl (Nat.le_of_ble_eq_true rfl) rfl ?_
  refine JT_aload_n (q := 1) dX5_isTold_7 rfl rfl ?_
  refine JS_getI dX5_isTold_8 flX5_33 BS_3 (Nat.le_of_ble_eq_true rfl) (Nat.le_of_ble_eq_true rfl) (Or.inl ct_9_1) ?_
  refine JT_iconst (v := 3) dX5_isTold_11 ic_3 ?_
  refine JT_irem dX5_isTold_12 (by decide) ?_
  refine JT_if_ne (tgt := 27) dX5_isTold_13 (by decide) (fun hc3 => ?_) (fun hc3 => ?_)
  · have h := h.1 hc3
    refine JT_iconst (v := 0) dX5_isTold_27 ic_0 ?_
    exact JS_iret dX5_isTold_28 rfl (n01 (Or.inl rfl)) h
  · have h := h.2 hc3
    refine JT_iload_n (q := 0) dX5_isTold_16 rfl rfl ?_
    refine JT_iconst (v := 1) dX5_isTold_17 ic_1 ?_
    refine JT_icmp_lt (tgt := 27) dX5_isTold_18 (by decide) (fun hc2 => ?_) (fun hc2 => ?_)
    · have h := h.1 hc2
      refine JT_iconst (v := 0) dX5_isTold_27 ic_0 ?_
      exact JS_iret dX5_isTold_28 rfl (n01 (Or.inl rfl)) h
    · have h := h.2 hc2
      refine JT_iload_n (q := 0) dX5_isTold_21 rfl rfl ?_
      refine JT_bipush (v := 6) dX5_isTold_22 bp_6 ?_
      refine JT_icmp_le (tgt := 29) dX5_isTold_24 (by decide) (fun hc1 => ?_) (fun hc1 => ?_)
      · have h := h.1 hc1
        refine JT_iconst (v := 0) dX5_isTold_29 ic_0 ?_
        refine JT_istore_n (lv' := [(3, .int (0 : Int32)), (2, .int ((gI s 3 1) / (3 : Int32))), (0, .ref 3), (1, .ref p1)]) dX5_isTold_30 rfl (Nat.le_of_ble_eq_true rfl) rfl ?_
        exact JT_sub [2, 3, 1, 0] rfl h
      · have h := h.2 hc1
        refine JT_iconst (v := 0) dX5_isTold_27 ic_0 ?_
        exact JS_iret dX5_isTold_28 rfl (n01 (Or.inl rfl)) h
set_option maxRecDepth 1000000 in
theorem gX5_isTold {p1 : Nat} (hp1 : p1 ∈ PX) : ∀ n : Nat, (∀ (a2 : Int32) (a3 : Int32) (s : SM) (Q : Int32 → SM → Prop), ((qX5_isTold n) s p1 a2 a3) → Q ((lX5_isTold n) s p1 a2 a3) s → BI MX5_isTold 2 31 [(0, .ref 3), (1, .ref p1), (2, .int a2), (3, .int a3)] s Q) := by
  intro n
  induction n with
  | zero => exact fun _ _ _ _ hq _ => absurd hq id
  | succ n ih =>
    intro a2 a3 s Q hr h
    replace hr : uX5_isTold_31 (qX5_isTold n) s p1 a2 a3 := hr
    replace h : Q (tX5_isTold_31 (lX5_isTold n) s p1 a2 a3) s := h
    unfold uX5_isTold_31 at hr
    unfold tX5_isTold_31 at h
    refine bX5_isTold_31 hp1 a2 a3 ?_
    refine ⟨fun c => ?_, fun c => ?_⟩
    · replace h := qlp c h
      first | exact h | contradiction
    · replace hr := hr c
      replace h := qln c h
      refine ⟨hr.1, ?_⟩
      replace hr := hr.2
      refine ⟨hr.1, ?_⟩
      replace hr := hr.2
      refine ⟨hr.1, ?_⟩
      replace hr := hr.2
      refine ⟨fun c => ?_, fun c => ?_⟩
      · replace hr := hr c
        replace h := qln c h
        first | exact ih a2 (a3 + 3) _ Q hr h | contradiction
      · replace h := qlp c h
        first | exact h | contradiction
set_option maxRecDepth 1000000 in
theorem pX5_isTold {p1 : Nat} (hp1 : p1 ∈ PX) {s : SM} {Q : Int32 → SM → Prop} (hr : rX5_isTold s p1) (h : Q (vX5_isTold s p1) s) : KI MX5_isTold 2 [.ref 3, .ref p1] s Q := by
  replace h : Q (fX5_isTold s p1) s := h
  unfold rX5_isTold at hr
  unfold fX5_isTold at h
  refine bX5_isTold hp1 ?_
  refine ⟨fun c => ?_, fun c => ?_⟩
  · replace h := qln c h
    first | exact h | contradiction
  · replace hr := hr c
    replace h := qlp c h
    refine ⟨fun c => ?_, fun c => ?_⟩
    · replace h := qlp c h
      first | exact h | contradiction
    · replace hr := hr c
      replace h := qln c h
      refine ⟨fun c => ?_, fun c => ?_⟩
      · replace hr := hr c
        replace h := qlp c h
        first | exact (gX5_isTold hp1 FU) ((gI s 3 1) / (3 : Int32)) (0 : Int32) _ Q hr h | contradiction
      · replace h := qln c h
        first | exact h | contradiction
set_option maxRecDepth 1000000 in
theorem bX7_mayBeIn (a1 : Int32) {s : SM} {Q : Int32 → SM → Prop} (h : gD s 0 = some (gDx s 0) ∧ ((gDx s 0), rfx (gDx s 0) 8) ∈ LX ∧ rX4_isOpen s (gDx s 0) (rfx (gDx s 0) 8) a1 ∧ (((vX4_isOpen s (gDx s 0) (rfx (gDx s 0) 8) a1) = 0 → Q (0 : Int32) s) ∧ (¬ (vX4_isOpen s (gDx s 0) (rfx (gDx s 0) 8) a1) = 0 → gD s 0 = some (gDx s 0) ∧ ((gDx s 0), rfx (gDx s 0) 8) ∈ LX ∧ gD s 0 = some (gDx s 0) ∧ ((gDx s 0), rfx (gDx s 0) 8) ∈ LX ∧ vp_in a1 60 ∧ rX6_isForRings s (rfx (gDx s 0) 8) (gI s ((gDx s 0) + 4) (a1).toNatClampNeg) ∧ Q (if (vX6_isForRings s (rfx (gDx s 0) 8) (gI s ((gDx s 0) + 4) (a1).toNatClampNeg)) = 0 then (0 : Int32) else (1 : Int32)) s))) : KI MX7_mayBeIn 2 [.ref 218, .int a1] s Q := by
  show BI MX7_mayBeIn 2 0 [(0, .ref 218), (1, .int a1)] s Q
  refine JT_aload_n (q := 0) dX7_mayBeIn_0 rfl rfl ?_
  obtain ⟨hr1, hL2, h⟩ := h
  refine JS_getR (x := (gDx s 0)) dX7_mayBeIn_1 flX7_40 BS_218 (Nat.le_of_ble_eq_true rfl) (Nat.le_of_ble_eq_true rfl) (Or.inl ⟨_, ct_7_4⟩) (RF_218_4.trans hr1) ?_
  refine JT_iload_n (q := 1) dX7_mayBeIn_4 rfl rfl ?_
  obtain ⟨o12, h⟩ := h
  refine JS_callVI (M' := MX4_isOpen) (d' := 1) (As := [.int a1]) (rest := []) (P := (fun zv9 wm9 => (vX4_isOpen s (gDx s 0) (rfx (gDx s 0) 8) a1) = zv9 ∧ s = wm9)) dX7_mayBeIn_5 cvX7_64 okX4_isOpen rfl (Nat.le_of_ble_eq_true rfl) (lxB hL2) (lx2 hL2) (lxN hL2) hci_4 (Nat.le_of_ble_eq_true rfl) (Nat.le_of_ble_eq_true rfl) (pX4_isOpen hL2 (a1) o12 ⟨rfl, rfl⟩) (fun zv9 wm9 hq9 => ?_)
  obtain ⟨rfl, rfl⟩ := hq9
  refine JT_if_eq (tgt := 37) dX7_mayBeIn_8 (by decide) (fun hc11 => ?_) (fun hc11 => ?_)
  · have h := h.1 hc11
    refine JT_iconst (v := 0) dX7_mayBeIn_37 ic_0 ?_
    exact JS_iret dX7_mayBeIn_38 rfl (n01 (Or.inl rfl)) h
  · have h := h.2 hc11
    refine JT_aload_n (q := 0) dX7_mayBeIn_11 rfl rfl ?_
    obtain ⟨hr3, hL4, h⟩ := h
    refine JS_getR (x := (gDx s 0)) dX7_mayBeIn_12 flX7_40 BS_218 (Nat.le_of_ble_eq_true rfl) (Nat.le_of_ble_eq_true rfl) (Or.inl ⟨_, ct_7_4⟩) (RF_218_4.trans hr3) ?_
    refine JS_getR (x := (rfx (gDx s 0) 8)) dX7_mayBeIn_15 flX7_67 (lxB hL4) (lx2 hL4) (lxN hL4) (Or.inl ⟨_, ct_4_8⟩) (lxR8 hL4) ?_
    refine JT_aload_n (q := 0) dX7_mayBeIn_18 rfl rfl ?_
    obtain ⟨hr5, hL6, h⟩ := h
    refine JS_getR (x := (gDx s 0)) dX7_mayBeIn_19 flX7_40 BS_218 (Nat.le_of_ble_eq_true rfl) (Nat.le_of_ble_eq_true rfl) (Or.inl ⟨_, ct_7_4⟩) (RF_218_4.trans hr5) ?_
    refine JS_getR (x := ((gDx s 0) + 4)) dX7_mayBeIn_22 flX7_71 (lxB hL6) (lx2 hL6) (lxN hL6) (Or.inr ⟨_, ct_4_3⟩) (lxR3 hL6) ?_
    refine JT_iload_n (q := 1) dX7_mayBeIn_25 rfl rfl ?_
    obtain ⟨o7, h⟩ := h
    refine JS_iald dX7_mayBeIn_26 (lxB4 hL6) (lx2k hL6 _) (lxNk hL6 (Nat.le_of_ble_eq_true rfl)) o7 ?_
    obtain ⟨o10, h⟩ := h
    refine JS_callVI (M' := MX6_isForRings) (d' := 0) (As := [.int (gI s ((gDx s 0) + 4) (a1).toNatClampNeg)]) (rest := []) (P := (fun zv9 wm9 => (vX6_isForRings s (rfx (gDx s 0) 8) (gI s ((gDx s 0) + 4) (a1).toNatClampNeg)) = zv9 ∧ s = wm9)) dX7_mayBeIn_27 cvX7_74 okX6_isForRings rfl (Nat.le_of_ble_eq_true rfl) (pxB (lxP hL4)) (px2 (lxP hL4)) (pxN (lxP hL4)) hci_6 (Nat.le_of_ble_eq_true rfl) (Nat.le_of_ble_eq_true rfl) (pX6_isForRings (lxP hL4) ((gI s ((gDx s 0) + 4) (a1).toNatClampNeg)) o10 ⟨rfl, rfl⟩) (fun zv9 wm9 hq9 => ?_)
    obtain ⟨rfl, rfl⟩ := hq9
    have hj8 : ∀ v : Int32, v = (if (vX6_isForRings s (rfx (gDx s 0) 8) (gI s ((gDx s 0) + 4) (a1).toNatClampNeg)) = 0 then (0 : Int32) else (1 : Int32)) → JT MX7_mayBeIn 2 0 0 38 [(0, .ref 218), (1, .int a1)] [.int v] (std s) (KQ Q) := by
      intro v hv
      subst hv
      exact JS_iret dX7_mayBeIn_38 rfl (n01 (i01 (Or.inl rfl) (Or.inr rfl))) h
    refine JT_if_eq (tgt := 37) dX7_mayBeIn_30 (by decide) (fun hc9 => ?_) (fun hc9 => ?_)
    · refine JT_iconst (v := 0) dX7_mayBeIn_37 ic_0 ?_
      exact hj8 _ (by rw [if_pos hc9])
    · refine JT_iconst (v := 1) dX7_mayBeIn_33 ic_1 ?_
      refine JT_goto (tgt := 38) dX7_mayBeIn_34 (by decide) ?_
      exact hj8 _ (by rw [if_neg hc9])
set_option maxRecDepth 1000000 in
theorem zX7_mayBeIn (s : SM) (a1 : Int32) : vX7_mayBeIn s a1 = 0 ∨ vX7_mayBeIn s a1 = 1 := (i01 (Or.inl rfl) (i01 (Or.inl rfl) (Or.inr rfl)))
set_option maxRecDepth 1000000 in
theorem pX7_mayBeIn (a1 : Int32) {s : SM} {Q : Int32 → SM → Prop} (hr : rX7_mayBeIn s a1) (h : Q (vX7_mayBeIn s a1) s) : KI MX7_mayBeIn 2 [.ref 218, .int a1] s Q := by
  refine bX7_mayBeIn a1 ?_
  unfold rX7_mayBeIn at hr
  unfold vX7_mayBeIn at h
  refine ⟨hr.1, ?_⟩
  replace hr := hr.2
  refine ⟨hr.1, ?_⟩
  replace hr := hr.2
  refine ⟨hr.1, ?_⟩
  replace hr := hr.2
  refine ⟨fun c => ?_, fun c => ?_⟩
  · replace h := qlp c h
    first | exact h | contradiction
  · replace hr := hr c
    replace h := qln c h
    refine ⟨hr.1, ?_⟩
    replace hr := hr.2
    refine ⟨hr.1, ?_⟩
    replace hr := hr.2
    refine ⟨hr.1, ?_⟩
    replace hr := hr.2
    refine ⟨hr.1, ?_⟩
    replace hr := hr.2
    refine ⟨hr.1, ?_⟩
    replace hr := hr.2
    refine ⟨hr, ?_⟩
    first | exact h | contradiction
set_option maxRecDepth 1000000 in
theorem bX9_nextToken_0  {s : SM} {Q : SM → Prop} (h : (((gI s 3 1) ≤ (gI s 3 7) → BV MX9_nextToken 2 39 [(0, .ref 3)] s Q) ∧ (¬ (gI s 3 1) ≤ (gI s 3 7) → rX9_byteOr s (gI s 3 7) (0 : Int32) ∧ (((vX9_isBlank s (vX9_byteOr s (gI s 3 7) (0 : Int32))) = 0 → BV MX9_nextToken 2 39 [(0, .ref 3)] s Q) ∧ (¬ (vX9_isBlank s (vX9_byteOr s (gI s 3 7) (0 : Int32))) = 0 → BV MX9_nextToken 2 0 [(0, .ref 3)] (pI s 3 7 ((gI s 3 7) + (1 : Int32))) Q))))) : BV MX9_nextToken 2 0 [(0, .ref 3)] s Q := by
  refine JT_aload_n (q := 0) dX9_nextToken_0 rfl rfl ?_
  refine JS_getI dX9_nextToken_1 flX9_19 BS_3 (Nat.le_of_ble_eq_true rfl) (Nat.le_of_ble_eq_true rfl) (Or.inl ct_9_7) ?_
  refine JT_aload_n (q := 0) dX9_nextToken_4 rfl rfl ?_
  refine JS_getI dX9_nextToken_5 flX9_15 BS_3 (Nat.le_of_ble_eq_true rfl) (Nat.le_of_ble_eq_true rfl) (Or.inl ct_9_1) ?_
  refine JT_icmp_ge (tgt := 39) dX9_nextToken_8 (by decide) (fun hc4 => ?_) (fun hc4 => ?_)
  · have h := h.1 hc4
    exact JT_sub [0] rfl h
  · have h := h.2 hc4
    refine JT_aload_n (q := 0) dX9_nextToken_11 rfl rfl ?_
    refine JT_aload_n (q := 0) dX9_nextToken_12 rfl rfl ?_
    refine JS_getI dX9_nextToken_13 flX9_19 BS_3 (Nat.le_of_ble_eq_true rfl) (Nat.le_of_ble_eq_true rfl) (Or.inl ct_9_7) ?_
    refine JT_iconst (v := 0) dX9_nextToken_16 ic_0 ?_
    obtain ⟨o3, h⟩ := h
    refine JS_callVI (M' := MX9_byteOr) (d' := 0) (As := [.int (gI s 3 7), .int (0 : Int32)]) (rest := []) (P := (fun zv9 wm9 => (vX9_byteOr s (gI s 3 7) (0 : Int32)) = zv9 ∧ s = wm9)) dX9_nextToken_17 cvX9_31 okX9_byteOr rfl (Nat.le_of_ble_eq_true rfl) BS_3 (Nat.le_of_ble_eq_true rfl) (Nat.le_of_ble_eq_true rfl) hci_9 (Nat.le_of_ble_eq_true rfl) (Nat.le_of_ble_eq_true rfl) (pX9_byteOr  ((gI s 3 7)) ((0 : Int32)) o3 ⟨rfl, rfl⟩) (fun zv9 wm9 hq9 => ?_)
    obtain ⟨rfl, rfl⟩ := hq9
    refine JS_callSI (M' := MX9_isBlank) (d' := 0) (As := [.int (vX9_byteOr s (gI s 3 7) (0 : Int32))]) (rest := []) (P := (fun zv9 wm9 => (vX9_isBlank s (vX9_byteOr s (gI s 3 7) (0 : Int32))) = zv9 ∧ s = wm9)) dX9_nextToken_20 cvX9_35 okX9_isBlank rfl (Nat.le_of_ble_eq_true rfl) (Nat.le_of_ble_eq_true rfl) (Nat.le_of_ble_eq_true rfl) (pX9_isBlank  ((vX9_byteOr s (gI s 3 7) (0 : Int32)))  ⟨rfl, rfl⟩) (fun zv9 wm9 hq9 => ?_)
    obtain ⟨rfl, rfl⟩ := hq9
    refine JT_if_eq (tgt := 39) dX9_nextToken_23 (by decide) (fun hc1 => ?_) (fun hc1 => ?_)
    · have h := h.1 hc1
      exact JT_sub [0] rfl h
    · have h := h.2 hc1
      refine JT_aload_n (q := 0) dX9_nextToken_26 rfl rfl ?_
      refine JT_dup dX9_nextToken_27 rfl ?_
      refine JS_getI dX9_nextToken_28 flX9_19 BS_3 (Nat.le_of_ble_eq_true rfl) (Nat.le_of_ble_eq_true rfl) (Or.inl ct_9_7) ?_
      refine JT_iconst (v := 1) dX9_nextToken_31 ic_1 ?_
      refine JT_iadd dX9_nextToken_32 ?_
      refine JS_putI dX9_nextToken_33 flX9_19 BS_3 (Nat.le_of_ble_eq_true rfl) (Nat.le_of_ble_eq_true rfl) ct_9_7 ?_
      refine JT_goto (tgt := 0) dX9_nextToken_36 (by decide) ?_
      exact JT_sub [0] rfl h
set_option maxRecDepth 1000000 in
theorem bX9_nextToken_39  {s : SM} {Q : SM → Prop} (h : (((gI (pI s 3 8 (gI s 3 7)) 3 1) ≤ (gI (pI s 3 8 (gI s 3 7)) 3 7) → BV MX9_nextToken 2 68 [(0, .ref 3)] (pI s 3 8 (gI s 3 7)) Q) ∧ (¬ (gI (pI s 3 8 (gI s 3 7)) 3 1) ≤ (gI (pI s 3 8 (gI s 3 7)) 3 7) → (((gI (pI s 3 8 (gI s 3 7)) 3 7) < (600 : Int32) → rX9_byteOr (pI s 3 8 (gI s 3 7)) (gI (pI s 3 8 (gI s 3 7)) 3 7) (0 : Int32) ∧ ((¬ (vX9_isLetter (pI s 3 8 (gI s 3 7)) (vX9_byteOr (pI s 3 8 (gI s 3 7)) (gI (pI s 3 8 (gI s 3 7)) 3 7) (0 : Int32))) = 0 → rX9_readRun (pI s 3 8 (gI s 3 7))  ∧ Q (mX9_readRun (pI s 3 8 (gI s 3 7)) )) ∧ ((vX9_isLetter (pI s 3 8 (gI s 3 7)) (vX9_byteOr (pI s 3 8 (gI s 3 7)) (gI (pI s 3 8 (gI s 3 7)) 3 7) (0 : Int32))) = 0 → (((vX9_isDigit (pI s 3 8 (gI s 3 7)) (vX9_byteOr (pI s 3 8 (gI s 3 7)) (gI (pI s 3 8 (gI s 3 7)) 3 7) (0 : Int32))) = 0 → (∀ s2, s2 = (pI (pI s 3 8 (gI s 3 7)) 3 9 (if (vX9_byteOr (pI s 3 8 (gI s 3 7)) (gI (pI s 3 8 (gI s 3 7)) 3 7) (0 : Int32)) = (59 : Int32) then (3 : Int32) else (4 : Int32))) → Q (pI s2 3 7 ((gI s2 3 7) + (1 : Int32))))) ∧ (¬ (vX9_isDigit (pI s 3 8 (gI s 3 7)) (vX9_byteOr (pI s 3 8 (gI s 3 7)) (gI (pI s 3 8 (gI s 3 7)) 3 7) (0 : Int32))) = 0 → rX9_readRun (pI s 3 8 (gI s 3 7))  ∧ Q (mX9_readRun (pI s 3 8 (gI s 3 7)) )))))) ∧ (¬ (gI (pI s 3 8 (gI s 3 7)) 3 7) < (600 : Int32) → BV MX9_nextToken 2 68 [(0, .ref 3)] (pI s 3 8 (gI s 3 7)) Q))))) : BV MX9_nextToken 2 39 [(0, .ref 3)] s Q := by
  refine JT_aload_n (q := 0) dX9_nextToken_39 rfl rfl ?_
  refine JT_aload_n (q := 0) dX9_nextToken_40 rfl rfl ?_
  refine JS_getI dX9_nextToken_41 flX9_19 BS_3 (Nat.le_of_ble_eq_true rfl) (Nat.le_of_ble_eq_true rfl) (Or.inl ct_9_7) ?_
  refine JS_putI dX9_nextToken_44 flX9_28 BS_3 (Nat.le_of_ble_eq_true rfl) (Nat.le_of_ble_eq_true rfl) ct_9_8 ?_
  refine JT_aload_n (q := 0) dX9_nextToken_47 rfl rfl ?_
  refine JS_getI dX9_nextToken_48 flX9_19 BS_3 (Nat.le_of_ble_eq_true rfl) (Nat.le_of_ble_eq_true rfl) (Or.inl ct_9_7) ?_
  refine JT_aload_n (q := 0) dX9_nextToken_51 rfl rfl ?_
  refine JS_getI dX9_nextToken_52 flX9_15 BS_3 (Nat.le_of_ble_eq_true rfl) (Nat.le_of_ble_eq_true rfl) (Or.inl ct_9_1) ?_
  refine JT_icmp_ge (tgt := 68) dX9_nextToken_55 (by decide) (fun hc12 => ?_) (fun hc12 => ?_)
  · have h := h.1 hc12
    exact JT_sub [0] rfl h
  · have h := h.2 hc12
    refine JT_aload_n (q := 0) dX9_nextToken_58 rfl rfl ?_
    refine JS_getI dX9_nextToken_59 flX9_19 BS_3 (Nat.le_of_ble_eq_true rfl) (Nat.le_of_ble_eq_true rfl) (Or.inl ct_9_7) ?_
    refine JT_sipush (v := 600) dX9_nextToken_62 sp_600 ?_
    refine JT_icmp_lt (tgt := 88) dX9_nextToken_65 (by decide) (fun hc11 => ?_) (fun hc11 => ?_)
    · have h := h.1 hc11
      refine JT_aload_n (q := 0) dX9_nextToken_88 rfl rfl ?_
      refine JT_aload_n (q := 0) dX9_nextToken_89 rfl rfl ?_
      refine JS_getI dX9_nextToken_90 flX9_19 BS_3 (Nat.le_of_ble_eq_true rfl) (Nat.le_of_ble_eq_true rfl) (Or.inl ct_9_7) ?_
      refine JT_iconst (v := 0) dX9_nextToken_93 ic_0 ?_
      obtain ⟨o10, h⟩ := h
      refine JS_callVI (M' := MX9_byteOr) (d' := 0) (As := [.int (gI (pI s 3 8 (gI s 3 7)) 3 7), .int (0 : Int32)]) (rest := []) (P := (fun zv9 wm9 => (vX9_byteOr (pI s 3 8 (gI s 3 7)) (gI (pI s 3 8 (gI s 3 7)) 3 7) (0 : Int32)) = zv9 ∧ (pI s 3 8 (gI s 3 7)) = wm9)) dX9_nextToken_94 cvX9_31 okX9_byteOr rfl (Nat.le_of_ble_eq_true rfl) BS_3 (Nat.le_of_ble_eq_true rfl) (Nat.le_of_ble_eq_true rfl) hci_9 (Nat.le_of_ble_eq_true rfl) (Nat.le_of_ble_eq_true rfl) (pX9_byteOr  ((gI (pI s 3 8 (gI s 3 7)) 3 7)) ((0 : Int32)) o10 ⟨rfl, rfl⟩) (fun zv9 wm9 hq9 => ?_)
      obtain ⟨rfl, rfl⟩ := hq9
      refine JT_istore_n (lv' := [(1, .int (vX9_byteOr (pI s 3 8 (gI s 3 7)) (gI (pI s 3 8 (gI s 3 7)) 3 7) (0 : Int32))), (0, .ref 3)]) dX9_nextToken_97 rfl (Nat.le_of_ble_eq_true rfl) rfl ?_
      refine JT_iload_n (q := 0) dX9_nextToken_98 rfl rfl ?_
      refine JS_callSI (M' := MX9_isLetter) (d' := 0) (As := [.int (vX9_byteOr (pI s 3 8 (gI s 3 7)) (gI (pI s 3 8 (gI s 3 7)) 3 7) (0 : Int32))]) (rest := []) (P := (fun zv9 wm9 => (vX9_isLetter (pI s 3 8 (gI s 3 7)) (vX9_byteOr (pI s 3 8 (gI s 3 7)) (gI (pI s 3 8 (gI s 3 7)) 3 7) (0 : Int32))) = zv9 ∧ (pI s 3 8 (gI s 3 7)) = wm9)) dX9_nextToken_99 cvX9_47 okX9_isLetter rfl (Nat.le_of_ble_eq_true rfl) (Nat.le_of_ble_eq_true rfl) (Nat.le_of_ble_eq_true rfl) (pX9_isLetter  ((vX9_byteOr (pI s 3 8 (gI s 3 7)) (gI (pI s 3 8 (gI s 3 7)) 3 7) (0 : Int32)))  ⟨rfl, rfl⟩) (fun zv9 wm9 hq9 => ?_)
      obtain ⟨rfl, rfl⟩ := hq9
      refine JT_if_ne (tgt := 112) dX9_nextToken_102 (by decide) (fun hc8 => ?_) (fun hc8 => ?_)
      · have h := h.1 hc8
        refine JT_aload_n (q := 1) dX9_nextToken_112 rfl rfl ?_
        obtain ⟨o1, h⟩ := h
        refine JS_callVV (M' := MX9_readRun) (d' := 1) (As := []) (rest := []) (P := (fun wm9 => (mX9_readRun (pI s 3 8 (gI s 3 7)) ) = wm9)) dX9_nextToken_113 cvX9_53 okX9_readRun rfl (Nat.le_of_ble_eq_true rfl) BS_3 (Nat.le_of_ble_eq_true rfl) (Nat.le_of_ble_eq_true rfl) hci_9 (Nat.le_of_ble_eq_true rfl) (Nat.le_of_ble_eq_true rfl) (pX9_readRun   o1 rfl) (fun wm9 hq9 => ?_)
        subst hq9
        refine JT_goto (tgt := 144) dX9_nextToken_116 (by decide) ?_
        exact JS_vret dX9_nextToken_144 rfl h
      · have h := h.2 hc8
        refine JT_iload_n (q := 0) dX9_nextToken_105 rfl rfl ?_
        refine JS_callSI (M' := MX9_isDigit) (d' := 0) (As := [.int (vX9_byteOr (pI s 3 8 (gI s 3 7)) (gI (pI s 3 8 (gI s 3 7)) 3 7) (0 : Int32))]) (rest := []) (P := (fun zv9 wm9 => (vX9_isDigit (pI s 3 8 (gI s 3 7)) (vX9_byteOr (pI s 3 8 (gI s 3 7)) (gI (pI s 3 8 (gI s 3 7)) 3 7) (0 : Int32))) = zv9 ∧ (pI s 3 8 (gI s 3 7)) = wm9)) dX9_nextToken_106 cvX9_50 okX9_isDigit rfl (Nat.le_of_ble_eq_true rfl) (Nat.le_of_ble_eq_true rfl) (Nat.le_of_ble_eq_true rfl) (pX9_isDigit  ((vX9_byteOr (pI s 3 8 (gI s 3 7)) (gI (pI s 3 8 (gI s 3 7)) 3 7) (0 : Int32)))  ⟨rfl, rfl⟩) (fun zv9 wm9 hq9 => ?_)
        obtain ⟨rfl, rfl⟩ := hq9
        refine JT_if_eq (tgt := 119) dX9_nextToken_109 (by decide) (fun hc6 => ?_) (fun hc6 => ?_)
        · have h := h.1 hc6
          refine JT_aload_n (q := 1) dX9_nextToken_119 rfl rfl ?_
          refine JT_iload_n (q := 0) dX9_nextToken_120 rfl rfl ?_
          refine JT_bipush (v := 59) dX9_nextToken_121 bp_59 ?_
          have hj3 : ∀ v : Int32, v = (if (vX9_byteOr (pI s 3 8 (gI s 3 7)) (gI (pI s 3 8 (gI s 3 7)) 3 7) (0 : Int32)) = (59 : Int32) then (3 : Int32) else (4 : Int32)) → JT MX9_nextToken 2 0 0 131 [(1, .int (vX9_byteOr (pI s 3 8 (gI s 3 7)) (gI (pI s 3 8 (gI s 3 7)) 3 7) (0 : Int32))), (0, .ref 3)] [.int v, .ref 3] (std (pI s 3 8 (gI s 3 7))) (KQv Q) := by
            intro v hv
            subst hv
            refine JS_putI dX9_nextToken_131 flX9_44 BS_3 (Nat.le_of_ble_eq_true rfl) (Nat.le_of_ble_eq_true rfl) ct_9_9 ?_
            obtain ⟨s2, hs2⟩ : ∃ z, z = (pI (pI s 3 8 (gI s 3 7)) 3 9 (if (vX9_byteOr (pI s 3 8 (gI s 3 7)) (gI (pI s 3 8 (gI s 3 7)) 3 7) (0 : Int32)) = (59 : Int32) then (3 : Int32) else (4 : Int32))) := ⟨_, rfl⟩
            replace h := h s2 hs2
            rw [← hs2]
            refine JT_aload_n (q := 1) dX9_nextToken_134 rfl rfl ?_
            refine JT_dup dX9_nextToken_135 rfl ?_
            refine JS_getI dX9_nextToken_136 flX9_19 BS_3 (Nat.le_of_ble_eq_true rfl) (Nat.le_of_ble_eq_true rfl) (Or.inl ct_9_7) ?_
            refine JT_iconst (v := 1) dX9_nextToken_139 ic_1 ?_
            refine JT_iadd dX9_nextToken_140 ?_
            refine JS_putI dX9_nextToken_141 flX9_19 BS_3 (Nat.le_of_ble_eq_true rfl) (Nat.le_of_ble_eq_true rfl) ct_9_7 ?_
            exact JS_vret dX9_nextToken_144 rfl h
          refine JT_icmp_ne (tgt := 130) dX9_nextToken_123 (by decide) (fun hc4 => ?_) (fun hc4 => ?_)
          · refine JT_iconst (v := 4) dX9_nextToken_130 ic_4 ?_
            exact hj3 _ (by rw [if_neg hc4])
          · refine JT_iconst (v := 3) dX9_nextToken_126 ic_3 ?_
            refine JT_goto (tgt := 131) dX9_nextToken_127 (by decide) ?_
            exact hj3 _ (by rw [if_pos hc4])
        · have h := h.2 hc6
          refine JT_aload_n (q := 1) dX9_nextToken_112 rfl rfl ?_
          obtain ⟨o5, h⟩ := h
          refine JS_callVV (M' := MX9_readRun) (d' := 1) (As := []) (rest := []) (P := (fun wm9 => (mX9_readRun (pI s 3 8 (gI s 3 7)) ) = wm9)) dX9_nextToken_113 cvX9_53 okX9_readRun rfl (Nat.le_of_ble_eq_true rfl) BS_3 (Nat.le_of_ble_eq_true rfl) (Nat.le_of_ble_eq_true rfl) hci_9 (Nat.le_of_ble_eq_true rfl) (Nat.le_of_ble_eq_true rfl) (pX9_readRun   o5 rfl) (fun wm9 hq9 => ?_)
          subst hq9
          refine JT_goto (tgt := 144) dX9_nextToken_116 (by decide) ?_
          exact JS_vret dX9_nextToken_144 rfl h
    · have h := h.2 hc11
      exact JT_sub [0] rfl h
set_option maxRecDepth 1000000 in
theorem bX9_nextToken_68  {s : SM} {Q : SM → Prop} (h : Q (pI (pI s 3 8 (if (600 : Int32) < (gI s 3 1) then (600 : Int32) else (gI s 3 1))) 3 9 (0 : Int32))) : BV MX9_nextToken 2 68 [(0, .ref 3)] s Q := by
  refine JT_aload_n (q := 0) dX9_nextToken_68 rfl rfl ?_
  refine JT_aload_n (q := 0) dX9_nextToken_69 rfl rfl ?_
  refine JS_getI dX9_nextToken_70 flX9_15 BS_3 (Nat.le_of_ble_eq_true rfl) (Nat.le_of_ble_eq_true rfl) (Or.inl ct_9_1) ?_
  refine JT_sipush (v := 600) dX9_nextToken_73 sp_600 ?_
  refine JT_mmin (d2 := 1) dX9_nextToken_76 mlX9_39 (Nat.le_of_ble_eq_true rfl) rfl ?_
  refine JS_putI dX9_nextToken_79 flX9_28 BS_3 (Nat.le_of_ble_eq_true rfl) (Nat.le_of_ble_eq_true rfl) ct_9_8 ?_
  refine JT_aload_n (q := 0) dX9_nextToken_82 rfl rfl ?_
  refine JT_iconst (v := 0) dX9_nextToken_83 ic_0 ?_
  refine JS_putI dX9_nextToken_84 flX9_44 BS_3 (Nat.le_of_ble_eq_true rfl) (Nat.le_of_ble_eq_true rfl) ct_9_9 ?_
  exact JS_vret dX9_nextToken_87 rfl h
set_option maxRecDepth 1000000 in
theorem bX9_nextToken  {s : SM} {Q : SM → Prop} (h : BV MX9_nextToken 2 0 [(0, .ref 3)] s Q) : KV MX9_nextToken 2 [.ref 3] s Q := by
  show BV MX9_nextToken 2 0 [(0, .ref 3)] s Q
  exact JT_sub [0] rfl h
set_option maxRecDepth 1000000 in
theorem gX9_nextToken  : ∀ n : Nat, (∀  (s : SM) (Q : SM → Prop), ((qX9_nextToken n).1 s ) → Q ((lX9_nextToken n).1 s ) → BV MX9_nextToken 2 0 [(0, .ref 3)] s Q) ∧ (∀  (s : SM) (Q : SM → Prop), ((qX9_nextToken n).2.1 s ) → Q ((lX9_nextToken n).2.1 s ) → BV MX9_nextToken 2 39 [(0, .ref 3)] s Q) ∧ (∀  (s : SM) (Q : SM → Prop), ((qX9_nextToken n).2.2 s ) → Q ((lX9_nextToken n).2.2 s ) → BV MX9_nextToken 2 68 [(0, .ref 3)] s Q) := by
  intro n
  induction n with
  | zero => exact ⟨fun _ _ hq _ => absurd hq id, fun _ _ hq _ => absurd hq id, fun _ _ hq _ => absurd hq id⟩
  | succ n ih =>
    refine ⟨?_, ?_, ?_⟩
    · intro  s Q hr h
      replace hr : uX9_nextToken_0 (qX9_nextToken n) s  := hr
      replace h : Q (tX9_nextToken_0 (lX9_nextToken n) s ) := h
      unfold uX9_nextToken_0 at hr
      unfold tX9_nextToken_0 at h
      refine bX9_nextToken_0  ?_
      refine ⟨fun c => ?_, fun c => ?_⟩
      · replace hr := hr.1 c
        replace h := q1p c h
        first | exact ih.2.1  _ Q hr h | contradiction
      · replace hr := hr.2 c
        replace h := q1n c h
        refine ⟨hr.1, ?_⟩
        replace hr := hr.2
        refine ⟨fun c => ?_, fun c => ?_⟩
        · replace hr := hr.1 c
          replace h := q1p c h
          first | exact ih.2.1  _ Q hr h | contradiction
        · replace hr := hr.2 c
          replace h := q1n c h
          first | exact ih.1  _ Q hr h | contradiction
    · intro  s Q hr h
      replace hr : uX9_nextToken_39 (qX9_nextToken n) s  := hr
      replace h : Q (tX9_nextToken_39 (lX9_nextToken n) s ) := h
      unfold uX9_nextToken_39 at hr
      unfold tX9_nextToken_39 at h
      refine bX9_nextToken_39  ?_
      refine ⟨fun c => ?_, fun c => ?_⟩
      · replace hr := hr.1 c
        replace h := q1p c h
        first | exact ih.2.2  _ Q hr h | contradiction
      · replace hr := hr.2 c
        replace h := q1n c h
        refine ⟨fun c => ?_, fun c => ?_⟩
        · replace hr := hr.1 c
          replace h := q1p c h
          refine ⟨hr.1, ?_⟩
          replace hr := hr.2
          refine ⟨fun c => ?_, fun c => ?_⟩
          · replace hr := hr.1 c
            replace h := q1n c h
            refine ⟨hr, ?_⟩
            first | exact h | contradiction
          · replace hr := hr.2 c
            replace h := q1p c h
            refine ⟨fun c => ?_, fun c => ?_⟩
            · replace h := q1p c h
              intro s2 e9
              try rw [← e9] at h
              try dsimp only at h
              first | exact h | contradiction
            · replace hr := hr c
              replace h := q1n c h
              refine ⟨hr, ?_⟩
              first | exact h | contradiction
        · replace hr := hr.2 c
          replace h := q1n c h
          first | exact ih.2.2  _ Q hr h | contradiction
    · intro  s Q hr h
      replace hr : uX9_nextToken_68 (qX9_nextToken n) s  := hr
      replace h : Q (tX9_nextToken_68 (lX9_nextToken n) s ) := h
      unfold uX9_nextToken_68 at hr
      unfold tX9_nextToken_68 at h
      refine bX9_nextToken_68  ?_
      first | exact h | contradiction
set_option maxRecDepth 1000000 in
theorem pX9_nextToken  {s : SM} {Q : SM → Prop} (hr : rX9_nextToken s ) (h : Q (mX9_nextToken s )) : KV MX9_nextToken 2 [.ref 3] s Q := by
  replace h : Q (fX9_nextToken s ) := h
  unfold rX9_nextToken at hr
  unfold fX9_nextToken at h
  refine bX9_nextToken  ?_
  first | exact (gX9_nextToken  FU).1  _ Q hr h | contradiction
set_option maxRecDepth 1000000 in
theorem bX0_readSide_30 {k0 : Nat} (hk0 : k0 ∈ BX) {s : SM} {Q : Int32 → SM → Prop} (h : vp_in (gI s k0 0) 40 ∧ (∀ s2, s2 = (pI s (k0 + 3) ((gI s k0 0)).toNatClampNeg (if (vX9_says s (109342978500980 : Int64)) = 0 then (1 : Int32) else (0 : Int32))) → Q (1 : Int32) s2)) : BI MX0_readSide 3 30 [(0, .ref k0), (1, .ref 3)] s Q := by
  refine JT_aload_n (q := 0) dX0_readSide_30 rfl rfl ?_
  refine JS_getR (x := (k0 + 3)) dX0_readSide_31 flX0_18 (bxB hk0) (bx2 hk0) (bxN hk0) (Or.inr ⟨_, ct_0_3⟩) (bxR3 hk0) ?_
  refine JT_aload_n (q := 0) dX0_readSide_34 rfl rfl ?_
  refine JS_getI dX0_readSide_35 flX0_33 (bxB hk0) (bx2 hk0) (bxN hk0) (Or.inl ct_0_0) ?_
  refine JT_aload_n (q := 1) dX0_readSide_38 rfl rfl ?_
  refine JT_ldc2 dX0_readSide_39 kwX0_114 ?_
  refine JS_callVI (M' := MX9_says) (d' := 0) (As := [.long (109342978500980 : Int64)]) (rest := [.int (gI s k0 0), .ref (k0 + 3)]) (P := (fun zv9 wm9 => (vX9_says s (109342978500980 : Int64)) = zv9 ∧ s = wm9)) dX0_readSide_42 cvX0_69 okX9_says rfl (Nat.le_of_ble_eq_true rfl) BS_3 (Nat.le_of_ble_eq_true rfl) (Nat.le_of_ble_eq_true rfl) hci_9 (Nat.le_of_ble_eq_true rfl) (Nat.le_of_ble_eq_true rfl) (pX9_says  ((109342978500980 : Int64))  ⟨rfl, rfl⟩) (fun zv9 wm9 hq9 => ?_)
  obtain ⟨rfl, rfl⟩ := hq9
  have hj3 : ∀ v : Int32, v = (if (vX9_says s (109342978500980 : Int64)) = 0 then (1 : Int32) else (0 : Int32)) → JT MX0_readSide 3 0 0 53 [(0, .ref k0), (1, .ref 3)] [.int v, .int (gI s k0 0), .ref (k0 + 3)] (std s) (KQ Q) := by
    intro v hv
    subst hv
    obtain ⟨o1, h⟩ := h
    refine JS_iast dX0_readSide_53 (bxB3 hk0) (bx2k hk0 _) (bxNk hk0 (Nat.le_of_ble_eq_true rfl)) o1 ?_
    obtain ⟨s2, hs2⟩ : ∃ z, z = (pI s (k0 + 3) ((gI s k0 0)).toNatClampNeg (if (vX9_says s (109342978500980 : Int64)) = 0 then (1 : Int32) else (0 : Int32))) := ⟨_, rfl⟩
    replace h := h s2 hs2
    rw [← hs2]
    refine JT_iconst (v := 1) dX0_readSide_54 ic_1 ?_
    exact JS_iret dX0_readSide_55 rfl (n01 (Or.inr rfl)) h
  refine JT_if_eq (tgt := 52) dX0_readSide_45 (by decide) (fun hc4 => ?_) (fun hc4 => ?_)
  · refine JT_iconst (v := 1) dX0_readSide_52 ic_1 ?_
    exact hj3 _ (by rw [if_pos hc4])
  · refine JT_iconst (v := 0) dX0_readSide_48 ic_0 ?_
    refine JT_goto (tgt := 53) dX0_readSide_49 (by decide) ?_
    exact hj3 _ (by rw [if_neg hc4])
set_option maxRecDepth 1000000 in
theorem bX0_readSide {k0 : Nat} (hk0 : k0 ∈ BX) {s : SM} {Q : Int32 → SM → Prop} (h : rX9_nextToken s  ∧ ((¬ (vX9_says (mX9_nextToken s ) (109342978500980 : Int64)) = 0 → BI MX0_readSide 3 30 [(0, .ref k0), (1, .ref 3)] (mX9_nextToken s ) Q) ∧ ((vX9_says (mX9_nextToken s ) (109342978500980 : Int64)) = 0 → ((¬ (vX9_says (mX9_nextToken s ) (1684365940 : Int64)) = 0 → BI MX0_readSide 3 30 [(0, .ref k0), (1, .ref 3)] (mX9_nextToken s ) Q) ∧ ((vX9_says (mX9_nextToken s ) (1684365940 : Int64)) = 0 → Q (vX9_refuse (mX9_nextToken s ) (1 : Int32)) (mX9_refuse (mX9_nextToken s ) (1 : Int32))))))) : KI MX0_readSide 3 [.ref k0, .ref 3] s Q := by
  show BI MX0_readSide 3 0 [(0, .ref k0), (1, .ref 3)] s Q
  refine JT_aload_n (q := 1) dX0_readSide_0 rfl rfl ?_
  obtain ⟨o6, h⟩ := h
  refine JS_callVV (M' := MX9_nextToken) (d' := 2) (As := []) (rest := []) (P := (fun wm9 => (mX9_nextToken s ) = wm9)) dX0_readSide_1 cvX0_42 okX9_nextToken rfl (Nat.le_of_ble_eq_true rfl) BS_3 (Nat.le_of_ble_eq_true rfl) (Nat.le_of_ble_eq_true rfl) hci_9 (Nat.le_of_ble_eq_true rfl) (Nat.le_of_ble_eq_true rfl) (pX9_nextToken   o6 rfl) (fun wm9 hq9 => ?_)
  subst hq9
  refine JT_aload_n (q := 1) dX0_readSide_4 rfl rfl ?_
  refine JT_ldc2 dX0_readSide_5 kwX0_114 ?_
  refine JS_callVI (M' := MX9_says) (d' := 0) (As := [.long (109342978500980 : Int64)]) (rest := []) (P := (fun zv9 wm9 => (vX9_says (mX9_nextToken s ) (109342978500980 : Int64)) = zv9 ∧ (mX9_nextToken s ) = wm9)) dX0_readSide_8 cvX0_69 okX9_says rfl (Nat.le_of_ble_eq_true rfl) BS_3 (Nat.le_of_ble_eq_true rfl) (Nat.le_of_ble_eq_true rfl) hci_9 (Nat.le_of_ble_eq_true rfl) (Nat.le_of_ble_eq_true rfl) (pX9_says  ((109342978500980 : Int64))  ⟨rfl, rfl⟩) (fun zv9 wm9 hq9 => ?_)
  obtain ⟨rfl, rfl⟩ := hq9
  refine JT_if_ne (tgt := 30) dX0_readSide_11 (by decide) (fun hc4 => ?_) (fun hc4 => ?_)
  · have h := h.1 hc4
    exact JT_sub [0, 1] rfl h
  · have h := h.2 hc4
    refine JT_aload_n (q := 1) dX0_readSide_14 rfl rfl ?_
    refine JT_ldc2 dX0_readSide_15 kwX0_116 ?_
    refine JS_callVI (M' := MX9_says) (d' := 0) (As := [.long (1684365940 : Int64)]) (rest := []) (P := (fun zv9 wm9 => (vX9_says (mX9_nextToken s ) (1684365940 : Int64)) = zv9 ∧ (mX9_nextToken s ) = wm9)) dX0_readSide_18 cvX0_69 okX9_says rfl (Nat.le_of_ble_eq_true rfl) BS_3 (Nat.le_of_ble_eq_true rfl) (Nat.le_of_ble_eq_true rfl) hci_9 (Nat.le_of_ble_eq_true rfl) (Nat.le_of_ble_eq_true rfl) (pX9_says  ((1684365940 : Int64))  ⟨rfl, rfl⟩) (fun zv9 wm9 hq9 => ?_)
    obtain ⟨rfl, rfl⟩ := hq9
    refine JT_if_ne (tgt := 30) dX0_readSide_21 (by decide) (fun hc2 => ?_) (fun hc2 => ?_)
    · have h := h.1 hc2
      exact JT_sub [0, 1] rfl h
    · have h := h.2 hc2
      refine JT_aload_n (q := 1) dX0_readSide_24 rfl rfl ?_
      refine JT_iconst (v := 1) dX0_readSide_25 ic_1 ?_
      refine JS_callVI (M' := MX9_refuse) (d' := 0) (As := [.int (1 : Int32)]) (rest := []) (P := (fun zv9 wm9 => (vX9_refuse (mX9_nextToken s ) (1 : Int32)) = zv9 ∧ (mX9_refuse (mX9_nextToken s ) (1 : Int32)) = wm9)) dX0_readSide_26 cvX0_56 okX9_refuse rfl (Nat.le_of_ble_eq_true rfl) BS_3 (Nat.le_of_ble_eq_true rfl) (Nat.le_of_ble_eq_true rfl) hci_9 (Nat.le_of_ble_eq_true rfl) (Nat.le_of_ble_eq_true rfl) (pX9_refuse  ((1 : Int32))  ⟨rfl, rfl⟩) (fun zv9 wm9 hq9 => ?_)
      obtain ⟨rfl, rfl⟩ := hq9
      exact JS_iret dX0_readSide_29 rfl (n01 (zX9_refuse (mX9_nextToken s ) (1 : Int32))) h
set_option maxRecDepth 1000000 in
theorem gX0_readSide {k0 : Nat} (hk0 : k0 ∈ BX) : ∀ n : Nat, (∀  (s : SM) (Q : Int32 → SM → Prop), ((qX0_readSide n) s k0) → Q ((lX0_readSide n) s k0).1 ((lX0_readSide n) s k0).2 → BI MX0_readSide 3 30 [(0, .ref k0), (1, .ref 3)] s Q) := by
  intro n
  induction n with
  | zero => exact fun _ _ hq _ => absurd hq id
  | succ n ih =>
    intro  s Q hr h
    replace hr : uX0_readSide_30 (qX0_readSide n) s k0 := hr
    replace h : Q (tX0_readSide_30 (lX0_readSide n) s k0).1 (tX0_readSide_30 (lX0_readSide n) s k0).2 := h
    unfold uX0_readSide_30 at hr
    unfold tX0_readSide_30 at h
    refine bX0_readSide_30 hk0 ?_
    refine ⟨hr, ?_⟩
    intro s2 e9
    try rw [← e9] at h
    try dsimp only at h
    first | exact h | contradiction
set_option maxRecDepth 1000000 in
theorem pX0_readSide {k0 : Nat} (hk0 : k0 ∈ BX) {s : SM} {Q : Int32 → SM → Prop} (hr : rX0_readSide s k0) (h : Q (vX0_readSide s k0) (mX0_readSide s k0)) : KI MX0_readSide 3 [.ref k0, .ref 3] s Q := by
  replace h : Q (fX0_readSide s k0).1 (fX0_readSide s k0).2 := h
  unfold rX0_readSide at hr
  unfold fX0_readSide at h
  refine bX0_readSide hk0 ?_
  refine ⟨hr.1, ?_⟩
  replace hr := hr.2
  refine ⟨fun c => ?_, fun c => ?_⟩
  · replace hr := hr.1 c
    replace h := q3n c h
    first | exact (gX0_readSide hk0 FU)  _ Q hr h | contradiction
  · replace hr := hr.2 c
    replace h := q3p c h
    refine ⟨fun c => ?_, fun c => ?_⟩
    · replace hr := hr c
      replace h := q3n c h
      first | exact (gX0_readSide hk0 FU)  _ Q hr h | contradiction
    · replace h := q3p c h
      first | exact h | contradiction
set_option maxRecDepth 1000000 in
theorem bX11_body (a1 : Int32) (a2 : Int32) {s : SM} {Q : Option Int32 → SM → Prop} (h : ((¬ (vX6_hasBody s 5 a1) = 0 → ((a2 = 0 → vp_in a1 9 ∧ Q (some (gI s 7 (a1).toNatClampNeg)) s) ∧ (a2 = 1 → vp_in a1 9 ∧ Q (some (gI s 8 (a1).toNatClampNeg)) s) ∧ (a2 = 2 → Q (some (if (vX4_lives s 31 5 a1) = 0 then (0 : Int32) else (1 : Int32))) s) ∧ (a2 = 3 → vp_in a1 9 ∧ Q (some (gI s 38 (a1).toNatClampNeg)) s) ∧ (a2 = 4 → rX4_netOf s 31 5 a1 ∧ Q (some (vX4_netOf s 31 5 a1)) s) ∧ (a2 = 5 → rX4_marksOn s 31 5 a1 (99 : Int32) ∧ Q (some (vX4_marksOn s 31 5 a1 (99 : Int32))) s) ∧ (a2 = 6 → vp_in a1 9 ∧ Q (some (gI s 39 (a1).toNatClampNeg)) s) ∧ ((a2.toInt < 0 ∨ 6 < a2.toInt) → Q none s))) ∧ ((vX6_hasBody s 5 a1) = 0 → Q none s))) : KX MX11_body 3 [.ref 2, .int a1, .int a2] s Q := by
  show BXX MX11_body 3 0 [(0, .ref 2), (1, .int a1), (2, .int a2)] s Q
  refine JT_aload_n (q := 0) dX11_body_0 rfl rfl ?_
  refine JS_getR (x := 5) dX11_body_1 flX11_19 BS_2 (Nat.le_of_ble_eq_true rfl) (Nat.le_of_ble_eq_true rfl) (Or.inl ⟨_, ct_11_1⟩) RF_2_1 ?_
  refine JT_iload_n (q := 1) dX11_body_4 rfl rfl ?_
  refine JS_callVI (M' := MX6_hasBody) (d' := 0) (As := [.int a1]) (rest := []) (P := (fun zv9 wm9 => (vX6_hasBody s 5 a1) = zv9 ∧ s = wm9)) dX11_body_5 cvX11_172 okX6_hasBody rfl (Nat.le_of_ble_eq_true rfl) BS_5 (Nat.le_of_ble_eq_true rfl) (Nat.le_of_ble_eq_true rfl) hci_6 (Nat.le_of_ble_eq_true rfl) (Nat.le_of_ble_eq_true rfl) (pX6_hasBody hp_5 (a1)  ⟨rfl, rfl⟩) (fun zv9 wm9 hq9 => ?_)
  obtain ⟨rfl, rfl⟩ := hq9
  refine JT_if_ne (tgt := 19) dX11_body_8 (by decide) (fun hc12 => ?_) (fun hc12 => ?_)
  · have h := h.1 hc12
    refine JT_iload_n (q := 2) dX11_body_19 rfl rfl ?_
    by_cases ho1 : (a2).toInt < 0 ∨ 6 < (a2).toInt
    · have h := h.2.2.2.2.2.2.2 ho1
      refine JT_tableOut (tgt := 141) dX11_body_20 ho1 (by decide) ?_
      exact JS_throw ⟨dX11_body_141, dX11_body_144, dX11_body_145, dX11_body_148⟩ h
    · have hk11 : (a2).toInt = 0 ∨ (a2).toInt = 1 ∨ (a2).toInt = 2 ∨ (a2).toInt = 3 ∨ (a2).toInt = 4 ∨ (a2).toInt = 5 ∨ (a2).toInt = 6 := by omega
      rcases hk11 with hk11 | hk11 | hk11 | hk11 | hk11 | hk11 | hk11
      · have h := h.1 (i32_of_toInt hk11)
        refine JT_tableIn (tgt := 64) dX11_body_20 (by omega) (by omega) (by rw [hk11]; rfl) (by decide) ?_
        refine JT_aload_n (q := 0) dX11_body_64 rfl rfl ?_
        refine JS_getR (x := 5) dX11_body_65 flX11_19 BS_2 (Nat.le_of_ble_eq_true rfl) (Nat.le_of_ble_eq_true rfl) (Or.inl ⟨_, ct_11_1⟩) RF_2_1 ?_
        refine JS_getR (x := 7) dX11_body_68 flX11_179 BS_5 (Nat.le_of_ble_eq_true rfl) (Nat.le_of_ble_eq_true rfl) (Or.inr ⟨_, ct_6_1⟩) RF_5_1 ?_
        refine JT_iload_n (q := 1) dX11_body_71 rfl rfl ?_
        obtain ⟨o2, h⟩ := h
        refine JS_iald dX11_body_72 BS_7 (Nat.le_of_ble_eq_true rfl) (Nat.le_of_ble_eq_true rfl) o2 ?_
        exact JS_iretx dX11_body_73 rfl rfl h
      · have h := h.2.1 (i32_of_toInt hk11)
        refine JT_tableIn (tgt := 74) dX11_body_20 (by omega) (by omega) (by rw [hk11]; rfl) (by decide) ?_
        refine JT_aload_n (q := 0) dX11_body_74 rfl rfl ?_
        refine JS_getR (x := 5) dX11_body_75 flX11_19 BS_2 (Nat.le_of_ble_eq_true rfl) (Nat.le_of_ble_eq_true rfl) (Or.inl ⟨_, ct_11_1⟩) RF_2_1 ?_
        refine JS_getR (x := 8) dX11_body_78 flX11_182 BS_5 (Nat.le_of_ble_eq_true rfl) (Nat.le_of_ble_eq_true rfl) (Or.inr ⟨_, ct_6_2⟩) RF_5_2 ?_
        refine JT_iload_n (q := 1) dX11_body_81 rfl rfl ?_
        obtain ⟨o3, h⟩ := h
        refine JS_iald dX11_body_82 BS_8 (Nat.le_of_ble_eq_true rfl) (Nat.le_of_ble_eq_true rfl) o3 ?_
        exact JS_iretx dX11_body_83 rfl rfl h
      · have h := h.2.2.1 (i32_of_toInt hk11)
        refine JT_tableIn (tgt := 84) dX11_body_20 (by omega) (by omega) (by rw [hk11]; rfl) (by decide) ?_
        refine JT_aload_n (q := 0) dX11_body_84 rfl rfl ?_
        refine JS_getR (x := 31) dX11_body_85 flX11_41 BS_2 (Nat.le_of_ble_eq_true rfl) (Nat.le_of_ble_eq_true rfl) (Or.inl ⟨_, ct_11_5⟩) RF_2_5 ?_
        refine JT_iload_n (q := 1) dX11_body_88 rfl rfl ?_
        refine JS_callVI (M' := MX4_lives) (d' := 0) (As := [.int a1]) (rest := []) (P := (fun zv9 wm9 => (vX4_lives s 31 5 a1) = zv9 ∧ s = wm9)) dX11_body_89 cvX11_185 okX4_lives rfl (Nat.le_of_ble_eq_true rfl) BS_31 (Nat.le_of_ble_eq_true rfl) (Nat.le_of_ble_eq_true rfl) hci_4 (Nat.le_of_ble_eq_true rfl) (Nat.le_of_ble_eq_true rfl) (pX4_lives hL_31 (a1)  ⟨rfl, rfl⟩) (fun zv9 wm9 hq9 => ?_)
        obtain ⟨rfl, rfl⟩ := hq9
        have hj4 : ∀ v : Int32, v = (if (vX4_lives s 31 5 a1) = 0 then (0 : Int32) else (1 : Int32)) → JT MX11_body 3 0 0 100 [(0, .ref 2), (1, .int a1), (2, .int a2)] [.int v] (std s) (KQx MX11_body Q) := by
          intro v hv
          subst hv
          exact JS_iretx dX11_body_100 rfl rfl h
        refine JT_if_eq (tgt := 99) dX11_body_92 (by decide) (fun hc5 => ?_) (fun hc5 => ?_)
        · refine JT_iconst (v := 0) dX11_body_99 ic_0 ?_
          exact hj4 _ (by rw [if_pos hc5])
        · refine JT_iconst (v := 1) dX11_body_95 ic_1 ?_
          refine JT_goto (tgt := 100) dX11_body_96 (by decide) ?_
          exact hj4 _ (by rw [if_neg hc5])
      · have h := h.2.2.2.1 (i32_of_toInt hk11)
        refine JT_tableIn (tgt := 101) dX11_body_20 (by omega) (by omega) (by rw [hk11]; rfl) (by decide) ?_
        refine JT_aload_n (q := 0) dX11_body_101 rfl rfl ?_
        refine JS_getR (x := 31) dX11_body_102 flX11_41 BS_2 (Nat.le_of_ble_eq_true rfl) (Nat.le_of_ble_eq_true rfl) (Or.inl ⟨_, ct_11_5⟩) RF_2_5 ?_
        refine JS_getR (x := 38) dX11_body_105 flX11_188 BS_31 (Nat.le_of_ble_eq_true rfl) (Nat.le_of_ble_eq_true rfl) (Or.inr ⟨_, ct_4_6⟩) RF_31_6 ?_
        refine JT_iload_n (q := 1) dX11_body_108 rfl rfl ?_
        obtain ⟨o7, h⟩ := h
        refine JS_iald dX11_body_109 BS_38 (Nat.le_of_ble_eq_true rfl) (Nat.le_of_ble_eq_true rfl) o7 ?_
        exact JS_iretx dX11_body_110 rfl rfl h
      · have h := h.2.2.2.2.1 (i32_of_toInt hk11)
        refine JT_tableIn (tgt := 111) dX11_body_20 (by omega) (by omega) (by rw [hk11]; rfl) (by decide) ?_
        refine JT_aload_n (q := 0) dX11_body_111 rfl rfl ?_
        refine JS_getR (x := 31) dX11_body_112 flX11_41 BS_2 (Nat.le_of_ble_eq_true rfl) (Nat.le_of_ble_eq_true rfl) (Or.inl ⟨_, ct_11_5⟩) RF_2_5 ?_
        refine JT_iload_n (q := 1) dX11_body_115 rfl rfl ?_
        obtain ⟨o8, h⟩ := h
        refine JS_callVI (M' := MX4_netOf) (d' := 2) (As := [.int a1]) (rest := []) (P := (fun zv9 wm9 => (vX4_netOf s 31 5 a1) = zv9 ∧ s = wm9)) dX11_body_116 cvX11_191 okX4_netOf rfl (Nat.le_of_ble_eq_true rfl) BS_31 (Nat.le_of_ble_eq_true rfl) (Nat.le_of_ble_eq_true rfl) hci_4 (Nat.le_of_ble_eq_true rfl) (Nat.le_of_ble_eq_true rfl) (pX4_netOf hL_31 (a1) o8 ⟨rfl, rfl⟩) (fun zv9 wm9 hq9 => ?_)
        obtain ⟨rfl, rfl⟩ := hq9
        exact JS_iretx dX11_body_119 rfl rfl h
      · have h := h.2.2.2.2.2.1 (i32_of_toInt hk11)
        refine JT_tableIn (tgt := 120) dX11_body_20 (by omega) (by omega) (by rw [hk11]; rfl) (by decide) ?_
        refine JT_aload_n (q := 0) dX11_body_120 rfl rfl ?_
        refine JS_getR (x := 31) dX11_body_121 flX11_41 BS_2 (Nat.le_of_ble_eq_true rfl) (Nat.le_of_ble_eq_true rfl) (Or.inl ⟨_, ct_11_5⟩) RF_2_5 ?_
        refine JT_iload_n (q := 1) dX11_body_124 rfl rfl ?_
        refine JT_bipush (v := 99) dX11_body_125 bp_99 ?_
        obtain ⟨o9, h⟩ := h
        refine JS_callVI (M' := MX4_marksOn) (d' := 0) (As := [.int a1, .int (99 : Int32)]) (rest := []) (P := (fun zv9 wm9 => (vX4_marksOn s 31 5 a1 (99 : Int32)) = zv9 ∧ s = wm9)) dX11_body_127 cvX11_195 okX4_marksOn rfl (Nat.le_of_ble_eq_true rfl) BS_31 (Nat.le_of_ble_eq_true rfl) (Nat.le_of_ble_eq_true rfl) hci_4 (Nat.le_of_ble_eq_true rfl) (Nat.le_of_ble_eq_true rfl) (pX4_marksOn hL_31 (a1) ((99 : Int32)) o9 ⟨rfl, rfl⟩) (fun zv9 wm9 hq9 => ?_)
        obtain ⟨rfl, rfl⟩ := hq9
        exact JS_iretx dX11_body_130 rfl rfl h
      · have h := h.2.2.2.2.2.2.1 (i32_of_toInt hk11)
        refine JT_tableIn (tgt := 131) dX11_body_20 (by omega) (by omega) (by rw [hk11]; rfl) (by decide) ?_
        refine JT_aload_n (q := 0) dX11_body_131 rfl rfl ?_
        refine JS_getR (x := 31) dX11_body_132 flX11_41 BS_2 (Nat.le_of_ble_eq_true rfl) (Nat.le_of_ble_eq_true rfl) (Or.inl ⟨_, ct_11_5⟩) RF_2_5 ?_
        refine JS_getR (x := 39) dX11_body_135 flX11_199 BS_31 (Nat.le_of_ble_eq_true rfl) (Nat.le_of_ble_eq_true rfl) (Or.inr ⟨_, ct_4_7⟩) RF_31_7 ?_
        refine JT_iload_n (q := 1) dX11_body_138 rfl rfl ?_
        obtain ⟨o10, h⟩ := h
        refine JS_iald dX11_body_139 BS_39 (Nat.le_of_ble_eq_true rfl) (Nat.le_of_ble_eq_true rfl) o10 ?_
        exact JS_iretx dX11_body_140 rfl rfl h
  · have h := h.2 hc12
    exact JS_throw ⟨dX11_body_11, dX11_body_14, dX11_body_15, dX11_body_18⟩ h
set_option maxRecDepth 1000000 in
theorem pX11_body (a1 : Int32) (a2 : Int32) {s : SM} {Q : Option Int32 → SM → Prop} (hr : rX11_body s a1 a2) (h : Q (vX11_body s a1 a2) s) : KX MX11_body 3 [.ref 2, .int a1, .int a2] s Q := by
  refine bX11_body a1 a2 ?_
  unfold rX11_body at hr
  unfold vX11_body at h
  refine ⟨fun c => ?_, fun c => ?_⟩
  · replace hr := hr c
    replace h := qln c h
    refine ⟨fun c => ?_, fun c => ?_, fun c => ?_, fun c => ?_, fun c => ?_, fun c => ?_, fun c => ?_, fun c => ?_⟩
    · replace hr := hr.1 c
      replace h := qlp c h
      refine ⟨hr, ?_⟩
      first | exact h | contradiction
    · replace hr := hr.2.1 c
      have n0 : ¬ a2 = (0 : Int32) := by rw [c]; decide
      replace h := qln n0 h
      replace h := qlp c h
      refine ⟨hr, ?_⟩
      first | exact h | contradiction
    · have n0 : ¬ a2 = (0 : Int32) := by rw [c]; decide
      replace h := qln n0 h
      have n1 : ¬ a2 = (1 : Int32) := by rw [c]; decide
      replace h := qln n1 h
      replace h := qlp c h
      first | exact h | contradiction
    · replace hr := hr.2.2.1 c
      have n0 : ¬ a2 = (0 : Int32) := by rw [c]; decide
      replace h := qln n0 h
      have n1 : ¬ a2 = (1 : Int32) := by rw [c]; decide
      replace h := qln n1 h
      have n2 : ¬ a2 = (2 : Int32) := by rw [c]; decide
      replace h := qln n2 h
      replace h := qlp c h
      refine ⟨hr, ?_⟩
      first | exact h | contradiction
    · replace hr := hr.2.2.2.1 c
      have n0 : ¬ a2 = (0 : Int32) := by rw [c]; decide
      replace h := qln n0 h
      have n1 : ¬ a2 = (1 : Int32) := by rw [c]; decide
      replace h := qln n1 h
      have n2 : ¬ a2 = (2 : Int32) := by rw [c]; decide
      replace h := qln n2 h
      have n3 : ¬ a2 = (3 : Int32) := by rw [c]; decide
      replace h := qln n3 h
      replace h := qlp c h
      refine ⟨hr, ?_⟩
      first | exact h | contradiction
    · replace hr := hr.2.2.2.2.1 c
      have n0 : ¬ a2 = (0 : Int32) := by rw [c]; decide
      replace h := qln n0 h
      have n1 : ¬ a2 = (1 : Int32) := by rw [c]; decide
      replace h := qln n1 h
      have n2 : ¬ a2 = (2 : Int32) := by rw [c]; decide
      replace h := qln n2 h
      have n3 : ¬ a2 = (3 : Int32) := by rw [c]; decide
      replace h := qln n3 h
      have n4 : ¬ a2 = (4 : Int32) := by rw [c]; decide
      replace h := qln n4 h
      replace h := qlp c h
      refine ⟨hr, ?_⟩
      first | exact h | contradiction
    · replace hr := hr.2.2.2.2.2 c
      have n0 : ¬ a2 = (0 : Int32) := by rw [c]; decide
      replace h := qln n0 h
      have n1 : ¬ a2 = (1 : Int32) := by rw [c]; decide
      replace h := qln n1 h
      have n2 : ¬ a2 = (2 : Int32) := by rw [c]; decide
      replace h := qln n2 h
      have n3 : ¬ a2 = (3 : Int32) := by rw [c]; decide
      replace h := qln n3 h
      have n4 : ¬ a2 = (4 : Int32) := by rw [c]; decide
      replace h := qln n4 h
      have n5 : ¬ a2 = (5 : Int32) := by rw [c]; decide
      replace h := qln n5 h
      replace h := qlp c h
      refine ⟨hr, ?_⟩
      first | exact h | contradiction
    · have n0 : ¬ a2 = (0 : Int32) := by intro e9; rw [e9] at c; revert c; decide
      replace h := qln n0 h
      have n1 : ¬ a2 = (1 : Int32) := by intro e9; rw [e9] at c; revert c; decide
      replace h := qln n1 h
      have n2 : ¬ a2 = (2 : Int32) := by intro e9; rw [e9] at c; revert c; decide
      replace h := qln n2 h
      have n3 : ¬ a2 = (3 : Int32) := by intro e9; rw [e9] at c; revert c; decide
      replace h := qln n3 h
      have n4 : ¬ a2 = (4 : Int32) := by intro e9; rw [e9] at c; revert c; decide
      replace h := qln n4 h
      have n5 : ¬ a2 = (5 : Int32) := by intro e9; rw [e9] at c; revert c; decide
      replace h := qln n5 h
      have n6 : ¬ a2 = (6 : Int32) := by intro e9; rw [e9] at c; revert c; decide
      replace h := qln n6 h
      first | exact h | contradiction
  · replace h := qlp c h
    first | exact h | contradiction
set_option maxRecDepth 1000000 in
theorem bX11_chain_31 (a1 : Int32) (a2 : Int32) (a3 : Int32) (a4 : Int32) {s : SM} {Q : Int32 → SM → Prop} (h : (((9 : Int32) ≤ a4 → Q (-1 : Int32) s) ∧ (¬ (9 : Int32) ≤ a4 → (((vX11_isIn s a2 a3) = 0 → rX4_lendersTo s 31 5 a3 ∧ BI MX11_chain 3 31 [(0, .ref 2), (1, .int a1), (2, .int a2), (3, .int (a3 ||| (vX4_lendersTo s 31 5 a3))), (4, .int (a4 + 1))] s Q) ∧ (¬ (vX11_isIn s a2 a3) = 0 → Q a4 s))))) : BI MX11_chain 3 31 [(0, .ref 2), (1, .int a1), (2, .int a2), (3, .int a3), (4, .int a4)] s Q := by
  refine JT_iload (q := 4) dX11_chain_31 rfl ?_
  refine JT_bipush (v := 9) dX11_chain_33 bp_9 ?_
  refine JT_icmp_ge (tgt := 66) dX11_chain_35 (by decide) (fun hc4 => ?_) (fun hc4 => ?_)
  · have h := h.1 hc4
    refine JT_iconst (v := -1) dX11_chain_66 ic_m1 ?_
    exact JS_iret dX11_chain_67 rfl rfl h
  · have h := h.2 hc4
    refine JT_iload_n (q := 2) dX11_chain_38 rfl rfl ?_
    refine JT_iload_n (q := 3) dX11_chain_39 rfl rfl ?_
    refine JS_callSI (M' := MX11_isIn) (d' := 0) (As := [.int a2, .int a3]) (rest := []) (P := (fun zv9 wm9 => (vX11_isIn s a2 a3) = zv9 ∧ s = wm9)) dX11_chain_40 cvX11_254 okX11_isIn rfl (Nat.le_of_ble_eq_true rfl) (Nat.le_of_ble_eq_true rfl) (Nat.le_of_ble_eq_true rfl) (pX11_isIn  (a2) (a3)  ⟨rfl, rfl⟩) (fun zv9 wm9 hq9 => ?_)
    obtain ⟨rfl, rfl⟩ := hq9
    refine JT_if_eq (tgt := 49) dX11_chain_43 (by decide) (fun hc2 => ?_) (fun hc2 => ?_)
    · have h := h.1 hc2
      refine JT_iload_n (q := 3) dX11_chain_49 rfl rfl ?_
      refine JT_aload_n (q := 0) dX11_chain_50 rfl rfl ?_
      refine JS_getR (x := 31) dX11_chain_51 flX11_41 BS_2 (Nat.le_of_ble_eq_true rfl) (Nat.le_of_ble_eq_true rfl) (Or.inl ⟨_, ct_11_5⟩) RF_2_5 ?_
      refine JT_iload_n (q := 3) dX11_chain_54 rfl rfl ?_
      obtain ⟨o1, h⟩ := h
      refine JS_callVI (M' := MX4_lendersTo) (d' := 2) (As := [.int a3]) (rest := [.int a3]) (P := (fun zv9 wm9 => (vX4_lendersTo s 31 5 a3) = zv9 ∧ s = wm9)) dX11_chain_55 cvX11_257 okX4_lendersTo rfl (Nat.le_of_ble_eq_true rfl) BS_31 (Nat.le_of_ble_eq_true rfl) (Nat.le_of_ble_eq_true rfl) hci_4 (Nat.le_of_ble_eq_true rfl) (Nat.le_of_ble_eq_true rfl) (pX4_lendersTo hL_31 (a3) o1 ⟨rfl, rfl⟩) (fun zv9 wm9 hq9 => ?_)
      obtain ⟨rfl, rfl⟩ := hq9
      refine JT_ior dX11_chain_58 ?_
      refine JT_istore_n (lv' := [(3, .int (a3 ||| (vX4_lendersTo s 31 5 a3))), (0, .ref 2), (1, .int a1), (2, .int a2), (4, .int a4)]) dX11_chain_59 rfl (Nat.le_of_ble_eq_true rfl) rfl ?_
      refine JT_iinc (q := 4) (v := (a4 + 1)) (lv' := [(4, .int (a4 + 1)), (3, .int (a3 ||| (vX4_lendersTo s 31 5 a3))), (0, .ref 2), (1, .int a1), (2, .int a2)]) dX11_chain_60 rfl (by rfl) (Nat.le_of_ble_eq_true rfl) rfl ?_
      refine JT_goto (tgt := 31) dX11_chain_63 (by decide) ?_
      exact JT_sub [2, 3, 4, 1, 0] rfl h
    · have h := h.2 hc2
      refine JT_iload (q := 4) dX11_chain_46 rfl ?_
      exact JS_iret dX11_chain_48 rfl rfl h
set_option maxRecDepth 1000000 in
theorem bX11_chain (a1 : Int32) (a2 : Int32) {s : SM} {Q : Int32 → SM → Prop} (h : (((vX6_hasBody s 5 a1) = 0 → Q (-1 : Int32) s) ∧ (¬ (vX6_hasBody s 5 a1) = 0 → ((¬ (vX6_hasBody s 5 a2) = 0 → BI MX11_chain 3 31 [(0, .ref 2), (1, .int a1), (2, .int a2), (3, .int ((1 : Int32) <<< (a1 &&& 31))), (4, .int (0 : Int32))] s Q) ∧ ((vX6_hasBody s 5 a2) = 0 → Q (-1 : Int32) s))))) : KI MX11_chain 3 [.ref 2, .int a1, .int a2] s Q := by
  show BI MX11_chain 3 0 [(0, .ref 2), (1, .int a1), (2, .int a2)] s Q
  refine JT_aload_n (q := 0) dX11_chain_0 rfl rfl ?_
  refine JS_getR (x := 5) dX11_chain_1 flX11_19 BS_2 (Nat.le_of_ble_eq_true rfl) (Nat.le_of_ble_eq_true rfl) (Or.inl ⟨_, ct_11_1⟩) RF_2_1 ?_
  refine JT_iload_n (q := 1) dX11_chain_4 rfl rfl ?_
  refine JS_callVI (M' := MX6_hasBody) (d' := 0) (As := [.int a1]) (rest := []) (P := (fun zv9 wm9 => (vX6_hasBody s 5 a1) = zv9 ∧ s = wm9)) dX11_chain_5 cvX11_172 okX6_hasBody rfl (Nat.le_of_ble_eq_true rfl) BS_5 (Nat.le_of_ble_eq_true rfl) (Nat.le_of_ble_eq_true rfl) hci_6 (Nat.le_of_ble_eq_true rfl) (Nat.le_of_ble_eq_true rfl) (pX6_hasBody hp_5 (a1)  ⟨rfl, rfl⟩) (fun zv9 wm9 hq9 => ?_)
  obtain ⟨rfl, rfl⟩ := hq9
  refine JT_if_eq (tgt := 22) dX11_chain_8 (by decide) (fun hc3 => ?_) (fun hc3 => ?_)
  · have h := h.1 hc3
    refine JT_iconst (v := -1) dX11_chain_22 ic_m1 ?_
    exact JS_iret dX11_chain_23 rfl rfl h
  · have h := h.2 hc3
    refine JT_aload_n (q := 0) dX11_chain_11 rfl rfl ?_
    refine JS_getR (x := 5) dX11_chain_12 flX11_19 BS_2 (Nat.le_of_ble_eq_true rfl) (Nat.le_of_ble_eq_true rfl) (Or.inl ⟨_, ct_11_1⟩) RF_2_1 ?_
    refine JT_iload_n (q := 2) dX11_chain_15 rfl rfl ?_
    refine JS_callVI (M' := MX6_hasBody) (d' := 0) (As := [.int a2]) (rest := []) (P := (fun zv9 wm9 => (vX6_hasBody s 5 a2) = zv9 ∧ s = wm9)) dX11_chain_16 cvX11_172 okX6_hasBody rfl (Nat.le_of_ble_eq_true rfl) BS_5 (Nat.le_of_ble_eq_true rfl) (Nat.le_of_ble_eq_true rfl) hci_6 (Nat.le_of_ble_eq_true rfl) (Nat.le_of_ble_eq_true rfl) (pX6_hasBody hp_5 (a2)  ⟨rfl, rfl⟩) (fun zv9 wm9 hq9 => ?_)
    obtain ⟨rfl, rfl⟩ := hq9
    refine JT_if_ne (tgt := 24) dX11_chain_19 (by decide) (fun hc1 => ?_) (fun hc1 => ?_)
    · have h := h.1 hc1
      refine JT_iconst (v := 1) dX11_chain_24 ic_1 ?_
      refine JT_iload_n (q := 1) dX11_chain_25 rfl rfl ?_
      refine JT_ishl dX11_chain_26 ?_
      refine JT_istore_n (lv' := [(3, .int ((1 : Int32) <<< (a1 &&& 31))), (0, .ref 2), (1, .int a1), (2, .int a2)]) dX11_chain_27 rfl (Nat.le_of_ble_eq_true rfl) rfl ?_
      refine JT_iconst (v := 0) dX11_chain_28 ic_0 ?_
      refine JT_istore (lv' := [(4, .int (0 : Int32)), (3, .int ((1 : Int32) <<< (a1 &&& 31))), (0, .ref 2), (1, .int a1), (2, .int a2)]) dX11_chain_29 (Nat.le_of_ble_eq_true rfl) rfl ?_
      exact JT_sub [2, 3, 4, 1, 0] rfl h
    · have h := h.2 hc1
      refine JT_iconst (v := -1) dX11_chain_22 ic_m1 ?_
      exact JS_iret dX11_chain_23 rfl rfl h
set_option maxRecDepth 1000000 in
theorem gX11_chain  : ∀ n : Nat, (∀ (a1 : Int32) (a2 : Int32) (a3 : Int32) (a4 : Int32) (s : SM) (Q : Int32 → SM → Prop), ((qX11_chain n) s a1 a2 a3 a4) → Q ((lX11_chain n) s a1 a2 a3 a4) s → BI MX11_chain 3 31 [(0, .ref 2), (1, .int a1), (2, .int a2), (3, .int a3), (4, .int a4)] s Q) := by
  intro n
  induction n with
  | zero => exact fun _ _ _ _ _ _ hq _ => absurd hq id
  | succ n ih =>
    intro a1 a2 a3 a4 s Q hr h
    replace hr : uX11_chain_31 (qX11_chain n) s a1 a2 a3 a4 := hr
    replace h : Q (tX11_chain_31 (lX11_chain n) s a1 a2 a3 a4) s := h
    unfold uX11_chain_31 at hr
    unfold tX11_chain_31 at h
    refine bX11_chain_31 a1 a2 a3 a4 ?_
    refine ⟨fun c => ?_, fun c => ?_⟩
    · replace h := qlp c h
      first | exact h | contradiction
    · replace hr := hr c
      replace h := qln c h
      refine ⟨fun c => ?_, fun c => ?_⟩
      · replace hr := hr c
        replace h := qlp c h
        refine ⟨hr.1, ?_⟩
        replace hr := hr.2
        first | exact ih a1 a2 (a3 ||| (vX4_lendersTo s 31 5 a3)) (a4 + 1) _ Q hr h | contradiction
      · replace h := qln c h
        first | exact h | contradiction
set_option maxRecDepth 1000000 in
theorem pX11_chain (a1 : Int32) (a2 : Int32) {s : SM} {Q : Int32 → SM → Prop} (hr : rX11_chain s a1 a2) (h : Q (vX11_chain s a1 a2) s) : KI MX11_chain 3 [.ref 2, .int a1, .int a2] s Q := by
  replace h : Q (fX11_chain s a1 a2) s := h
  unfold rX11_chain at hr
  unfold fX11_chain at h
  refine bX11_chain a1 a2 ?_
  refine ⟨fun c => ?_, fun c => ?_⟩
  · replace h := qlp c h
    first | exact h | contradiction
  · replace hr := hr c
    replace h := qln c h
    refine ⟨fun c => ?_, fun c => ?_⟩
    · replace hr := hr c
      replace h := qln c h
      first | exact (gX11_chain  FU) a1 a2 ((1 : Int32) <<< (a1 &&& 31)) (0 : Int32) _ Q hr h | contradiction
    · replace h := qlp c h
      first | exact h | contradiction
set_option maxRecDepth 1000000 in
theorem bX11_count (a1 : Int32) {s : SM} {Q : Int32 → SM → Prop} (h : ((a1 = 0 → Q (gI s 5 6) s) ∧ (a1 = 1 → Q (gI s 5 7) s) ∧ (a1 = 2 → Q (gI s 5 8) s) ∧ (a1 = 3 → Q (gI s 5 9) s) ∧ (a1 = 4 → Q (gI s 31 9) s) ∧ (a1 = 5 → rX4_openDeals s 31 5 ∧ Q (vX4_openDeals s 31 5) s) ∧ (a1 = 6 → Q (gI s 31 10) s) ∧ (a1 = 7 → Q (gI s 19 0) s) ∧ (a1 = 8 → Q (gI s 3 1) s) ∧ ((a1.toInt < 0 ∨ 8 < a1.toInt) → Q (-1 : Int32) s))) : KI MX11_count 3 [.ref 2, .int a1] s Q := by
  show BI MX11_count 3 0 [(0, .ref 2), (1, .int a1)] s Q
  refine JT_iload_n (q := 1) dX11_count_0 rfl rfl ?_
  by_cases ho1 : (a1).toInt < 0 ∨ 8 < (a1).toInt
  · have h := h.2.2.2.2.2.2.2.2.2 ho1
    refine JT_tableOut (tgt := 124) dX11_count_1 ho1 (by decide) ?_
    refine JT_iconst (v := -1) dX11_count_124 ic_m1 ?_
    exact JS_iret dX11_count_125 rfl rfl h
  · have hk3 : (a1).toInt = 0 ∨ (a1).toInt = 1 ∨ (a1).toInt = 2 ∨ (a1).toInt = 3 ∨ (a1).toInt = 4 ∨ (a1).toInt = 5 ∨ (a1).toInt = 6 ∨ (a1).toInt = 7 ∨ (a1).toInt = 8 := by omega
    rcases hk3 with hk3 | hk3 | hk3 | hk3 | hk3 | hk3 | hk3 | hk3 | hk3
    · have h := h.1 (i32_of_toInt hk3)
      refine JT_tableIn (tgt := 52) dX11_count_1 (by omega) (by omega) (by rw [hk3]; rfl) (by decide) ?_
      refine JT_aload_n (q := 0) dX11_count_52 rfl rfl ?_
      refine JS_getR (x := 5) dX11_count_53 flX11_19 BS_2 (Nat.le_of_ble_eq_true rfl) (Nat.le_of_ble_eq_true rfl) (Or.inl ⟨_, ct_11_1⟩) RF_2_1 ?_
      refine JS_getI dX11_count_56 flX11_150 BS_5 (Nat.le_of_ble_eq_true rfl) (Nat.le_of_ble_eq_true rfl) (Or.inl ct_6_6) ?_
      exact JS_iret dX11_count_59 rfl rfl h
    · have h := h.2.1 (i32_of_toInt hk3)
      refine JT_tableIn (tgt := 60) dX11_count_1 (by omega) (by omega) (by rw [hk3]; rfl) (by decide) ?_
      refine JT_aload_n (q := 0) dX11_count_60 rfl rfl ?_
      refine JS_getR (x := 5) dX11_count_61 flX11_19 BS_2 (Nat.le_of_ble_eq_true rfl) (Nat.le_of_ble_eq_true rfl) (Or.inl ⟨_, ct_11_1⟩) RF_2_1 ?_
      refine JS_getI dX11_count_64 flX11_153 BS_5 (Nat.le_of_ble_eq_true rfl) (Nat.le_of_ble_eq_true rfl) (Or.inl ct_6_7) ?_
      exact JS_iret dX11_count_67 rfl rfl h
    · have h := h.2.2.1 (i32_of_toInt hk3)
      refine JT_tableIn (tgt := 68) dX11_count_1 (by omega) (by omega) (by rw [hk3]; rfl) (by decide) ?_
      refine JT_aload_n (q := 0) dX11_count_68 rfl rfl ?_
      refine JS_getR (x := 5) dX11_count_69 flX11_19 BS_2 (Nat.le_of_ble_eq_true rfl) (Nat.le_of_ble_eq_true rfl) (Or.inl ⟨_, ct_11_1⟩) RF_2_1 ?_
      refine JS_getI dX11_count_72 flX11_156 BS_5 (Nat.le_of_ble_eq_true rfl) (Nat.le_of_ble_eq_true rfl) (Or.inl ct_6_8) ?_
      exact JS_iret dX11_count_75 rfl rfl h
    · have h := h.2.2.2.1 (i32_of_toInt hk3)
      refine JT_tableIn (tgt := 76) dX11_count_1 (by omega) (by omega) (by rw [hk3]; rfl) (by decide) ?_
      refine JT_aload_n (q := 0) dX11_count_76 rfl rfl ?_
      refine JS_getR (x := 5) dX11_count_77 flX11_19 BS_2 (Nat.le_of_ble_eq_true rfl) (Nat.le_of_ble_eq_true rfl) (Or.inl ⟨_, ct_11_1⟩) RF_2_1 ?_
      refine JS_getI dX11_count_80 flX11_159 BS_5 (Nat.le_of_ble_eq_true rfl) (Nat.le_of_ble_eq_true rfl) (Or.inl ct_6_9) ?_
      exact JS_iret dX11_count_83 rfl rfl h
    · have h := h.2.2.2.2.1 (i32_of_toInt hk3)
      refine JT_tableIn (tgt := 84) dX11_count_1 (by omega) (by omega) (by rw [hk3]; rfl) (by decide) ?_
      refine JT_aload_n (q := 0) dX11_count_84 rfl rfl ?_
      refine JS_getR (x := 31) dX11_count_85 flX11_41 BS_2 (Nat.le_of_ble_eq_true rfl) (Nat.le_of_ble_eq_true rfl) (Or.inl ⟨_, ct_11_5⟩) RF_2_5 ?_
      refine JS_getI dX11_count_88 flX11_162 BS_31 (Nat.le_of_ble_eq_true rfl) (Nat.le_of_ble_eq_true rfl) (Or.inl ct_4_9) ?_
      exact JS_iret dX11_count_91 rfl rfl h
    · have h := h.2.2.2.2.2.1 (i32_of_toInt hk3)
      refine JT_tableIn (tgt := 92) dX11_count_1 (by omega) (by omega) (by rw [hk3]; rfl) (by decide) ?_
      refine JT_aload_n (q := 0) dX11_count_92 rfl rfl ?_
      refine JS_getR (x := 31) dX11_count_93 flX11_41 BS_2 (Nat.le_of_ble_eq_true rfl) (Nat.le_of_ble_eq_true rfl) (Or.inl ⟨_, ct_11_5⟩) RF_2_5 ?_
      obtain ⟨o2, h⟩ := h
      refine JS_callVI (M' := MX4_openDeals) (d' := 2) (As := []) (rest := []) (P := (fun zv9 wm9 => (vX4_openDeals s 31 5) = zv9 ∧ s = wm9)) dX11_count_96 cvX11_165 okX4_openDeals rfl (Nat.le_of_ble_eq_true rfl) BS_31 (Nat.le_of_ble_eq_true rfl) (Nat.le_of_ble_eq_true rfl) hci_4 (Nat.le_of_ble_eq_true rfl) (Nat.le_of_ble_eq_true rfl) (pX4_openDeals hL_31  o2 ⟨rfl, rfl⟩) (fun zv9 wm9 hq9 => ?_)
      obtain ⟨rfl, rfl⟩ := hq9
      exact JS_iret dX11_count_99 rfl rfl h
    · have h := h.2.2.2.2.2.2.1 (i32_of_toInt hk3)
      refine JT_tableIn (tgt := 100) dX11_count_1 (by omega) (by omega) (by rw [hk3]; rfl) (by decide) ?_
      refine JT_aload_n (q := 0) dX11_count_100 rfl rfl ?_
      refine JS_getR (x := 31) dX11_count_101 flX11_41 BS_2 (Nat.le_of_ble_eq_true rfl) (Nat.le_of_ble_eq_true rfl) (Or.inl ⟨_, ct_11_5⟩) RF_2_5 ?_
      refine JS_getI dX11_count_104 flX11_169 BS_31 (Nat.le_of_ble_eq_true rfl) (Nat.le_of_ble_eq_true rfl) (Or.inl ct_4_10) ?_
      exact JS_iret dX11_count_107 rfl rfl h
    · have h := h.2.2.2.2.2.2.2.1 (i32_of_toInt hk3)
      refine JT_tableIn (tgt := 108) dX11_count_1 (by omega) (by omega) (by rw [hk3]; rfl) (by decide) ?_
      refine JT_aload_n (q := 0) dX11_count_108 rfl rfl ?_
      refine JS_getR (x := 19) dX11_count_109 flX11_29 BS_2 (Nat.le_of_ble_eq_true rfl) (Nat.le_of_ble_eq_true rfl) (Or.inl ⟨_, ct_11_3⟩) RF_2_3 ?_
      refine JS_getI dX11_count_112 flX11_134 BS_19 (Nat.le_of_ble_eq_true rfl) (Nat.le_of_ble_eq_true rfl) (Or.inl ct_0_0) ?_
      exact JS_iret dX11_count_115 rfl rfl h
    · have h := h.2.2.2.2.2.2.2.2.1 (i32_of_toInt hk3)
      refine JT_tableIn (tgt := 116) dX11_count_1 (by omega) (by omega) (by rw [hk3]; rfl) (by decide) ?_
      refine JT_aload_n (q := 0) dX11_count_116 rfl rfl ?_
      refine JS_getR (x := 3) dX11_count_117 flX11_10 BS_2 (Nat.le_of_ble_eq_true rfl) (Nat.le_of_ble_eq_true rfl) (Or.inl ⟨_, ct_11_0⟩) RF_2_0 ?_
      refine JS_getI dX11_count_120 flX11_104 BS_3 (Nat.le_of_ble_eq_true rfl) (Nat.le_of_ble_eq_true rfl) (Or.inl ct_9_1) ?_
      exact JS_iret dX11_count_123 rfl rfl h
set_option maxRecDepth 1000000 in
theorem pX11_count (a1 : Int32) {s : SM} {Q : Int32 → SM → Prop} (hr : rX11_count s a1) (h : Q (vX11_count s a1) s) : KI MX11_count 3 [.ref 2, .int a1] s Q := by
  refine bX11_count a1 ?_
  unfold rX11_count at hr
  unfold vX11_count at h
  refine ⟨fun c => ?_, fun c => ?_, fun c => ?_, fun c => ?_, fun c => ?_, fun c => ?_, fun c => ?_, fun c => ?_, fun c => ?_, fun c => ?_⟩
  · replace h := qlp c h
    first | exact h | contradiction
  · have n0 : ¬ a1 = (0 : Int32) := by rw [c]; decide
    replace h := qln n0 h
    replace h := qlp c h
    first | exact h | contradiction
  · have n0 : ¬ a1 = (0 : Int32) := by rw [c]; decide
    replace h := qln n0 h
    have n1 : ¬ a1 = (1 : Int32) := by rw [c]; decide
    replace h := qln n1 h
    replace h := qlp c h
    first | exact h | contradiction
  · have n0 : ¬ a1 = (0 : Int32) := by rw [c]; decide
    replace h := qln n0 h
    have n1 : ¬ a1 = (1 : Int32) := by rw [c]; decide
    replace h := qln n1 h
    have n2 : ¬ a1 = (2 : Int32) := by rw [c]; decide
    replace h := qln n2 h
    replace h := qlp c h
    first | exact h | contradiction
  · have n0 : ¬ a1 = (0 : Int32) := by rw [c]; decide
    replace h := qln n0 h
    have n1 : ¬ a1 = (1 : Int32) := by rw [c]; decide
    replace h := qln n1 h
    have n2 : ¬ a1 = (2 : Int32) := by rw [c]; decide
    replace h := qln n2 h
    have n3 : ¬ a1 = (3 : Int32) := by rw [c]; decide
    replace h := qln n3 h
    replace h := qlp c h
    first | exact h | contradiction
  · replace hr := hr c
    have n0 : ¬ a1 = (0 : Int32) := by rw [c]; decide
    replace h := qln n0 h
    have n1 : ¬ a1 = (1 : Int32) := by rw [c]; decide
    replace h := qln n1 h
    have n2 : ¬ a1 = (2 : Int32) := by rw [c]; decide
    replace h := qln n2 h
    have n3 : ¬ a1 = (3 : Int32) := by rw [c]; decide
    replace h := qln n3 h
    have n4 : ¬ a1 = (4 : Int32) := by rw [c]; decide
    replace h := qln n4 h
    replace h := qlp c h
    refine ⟨hr, ?_⟩
    first | exact h | contradiction
  · have n0 : ¬ a1 = (0 : Int32) := by rw [c]; decide
    replace h := qln n0 h
    have n1 : ¬ a1 = (1 : Int32) := by rw [c]; decide
    replace h := qln n1 h
    have n2 : ¬ a1 = (2 : Int32) := by rw [c]; decide
    replace h := qln n2 h
    have n3 : ¬ a1 = (3 : Int32) := by rw [c]; decide
    replace h := qln n3 h
    have n4 : ¬ a1 = (4 : Int32) := by rw [c]; decide
    replace h := qln n4 h
    have n5 : ¬ a1 = (5 : Int32) := by rw [c]; decide
    replace h := qln n5 h
    replace h := qlp c h
    first | exact h | contradiction
  · have n0 : ¬ a1 = (0 : Int32) := by rw [c]; decide
    replace h := qln n0 h
    have n1 : ¬ a1 = (1 : Int32) := by rw [c]; decide
    replace h := qln n1 h
    have n2 : ¬ a1 = (2 : Int32) := by rw [c]; decide
    replace h := qln n2 h
    have n3 : ¬ a1 = (3 : Int32) := by rw [c]; decide
    replace h := qln n3 h
    have n4 : ¬ a1 = (4 : Int32) := by rw [c]; decide
    replace h := qln n4 h
    have n5 : ¬ a1 = (5 : Int32) := by rw [c]; decide
    replace h := qln n5 h
    have n6 : ¬ a1 = (6 : Int32) := by rw [c]; decide
    replace h := qln n6 h
    replace h := qlp c h
    first | exact h | contradiction
  · have n0 : ¬ a1 = (0 : Int32) := by rw [c]; decide
    replace h := qln n0 h
    have n1 : ¬ a1 = (1 : Int32) := by rw [c]; decide
    replace h := qln n1 h
    have n2 : ¬ a1 = (2 : Int32) := by rw [c]; decide
    replace h := qln n2 h
    have n3 : ¬ a1 = (3 : Int32) := by rw [c]; decide
    replace h := qln n3 h
    have n4 : ¬ a1 = (4 : Int32) := by rw [c]; decide
    replace h := qln n4 h
    have n5 : ¬ a1 = (5 : Int32) := by rw [c]; decide
    replace h := qln n5 h
    have n6 : ¬ a1 = (6 : Int32) := by rw [c]; decide
    replace h := qln n6 h
    have n7 : ¬ a1 = (7 : Int32) := by rw [c]; decide
    replace h := qln n7 h
    replace h := qlp c h
    first | exact h | contradiction
  · have n0 : ¬ a1 = (0 : Int32) := by intro e9; rw [e9] at c; revert c; decide
    replace h := qln n0 h
    have n1 : ¬ a1 = (1 : Int32) := by intro e9; rw [e9] at c; revert c; decide
    replace h := qln n1 h
    have n2 : ¬ a1 = (2 : Int32) := by intro e9; rw [e9] at c; revert c; decide
    replace h := qln n2 h
    have n3 : ¬ a1 = (3 : Int32) := by intro e9; rw [e9] at c; revert c; decide
    replace h := qln n3 h
    have n4 : ¬ a1 = (4 : Int32) := by intro e9; rw [e9] at c; revert c; decide
    replace h := qln n4 h
    have n5 : ¬ a1 = (5 : Int32) := by intro e9; rw [e9] at c; revert c; decide
    replace h := qln n5 h
    have n6 : ¬ a1 = (6 : Int32) := by intro e9; rw [e9] at c; revert c; decide
    replace h := qln n6 h
    have n7 : ¬ a1 = (7 : Int32) := by intro e9; rw [e9] at c; revert c; decide
    replace h := qln n7 h
    have n8 : ¬ a1 = (8 : Int32) := by intro e9; rw [e9] at c; revert c; decide
    replace h := qln n8 h
    first | exact h | contradiction
set_option maxRecDepth 1000000 in
theorem bX11_dies (a1 : Int32) (a2 : Int32) {s : SM} {Q : Int32 → SM → Prop} (h : (((vX6_hasBody s 5 a1) = 0 → Q (-1 : Int32) s) ∧ (¬ (vX6_hasBody s 5 a1) = 0 → ((¬ (vX6_hasBody s 5 a2) = 0 → rX2_note s 31 5 ∧ rX4_openFor (mX2_note s 31 5) 31 5 a1 a2 ∧ rX4_tryBury (mX2_note s 31 5) 31 5 a1 a2 ∧ (((vX4_tryBury (mX2_note s 31 5) 31 5 a1 a2) = 0 → Q (vX4_openFor (mX2_note s 31 5) 31 5 a1 a2) (mX2_keepNoted (mX4_tryBury (mX2_note s 31 5) 31 5 a1 a2) )) ∧ (¬ (vX4_tryBury (mX2_note s 31 5) 31 5 a1 a2) = 0 → Q ((-10 : Int32) - (vX4_tryBury (mX2_note s 31 5) 31 5 a1 a2)) (mX4_tryBury (mX2_note s 31 5) 31 5 a1 a2)))) ∧ ((vX6_hasBody s 5 a2) = 0 → Q (-1 : Int32) s))))) : KI MX11_dies 3 [.ref 2, .int a1, .int a2] s Q := by
  show BI MX11_dies 3 0 [(0, .ref 2), (1, .int a1), (2, .int a2)] s Q
  refine JT_aload_n (q := 0) dX11_dies_0 rfl rfl ?_
  refine JS_getR (x := 5) dX11_dies_1 flX11_19 BS_2 (Nat.le_of_ble_eq_true rfl) (Nat.le_of_ble_eq_true rfl) (Or.inl ⟨_, ct_11_1⟩) RF_2_1 ?_
  refine JT_iload_n (q := 1) dX11_dies_4 rfl rfl ?_
  refine JS_callVI (M' := MX6_hasBody) (d' := 0) (As := [.int a1]) (rest := []) (P := (fun zv9 wm9 => (vX6_hasBody s 5 a1) = zv9 ∧ s = wm9)) dX11_dies_5 cvX11_172 okX6_hasBody rfl (Nat.le_of_ble_eq_true rfl) BS_5 (Nat.le_of_ble_eq_true rfl) (Nat.le_of_ble_eq_true rfl) hci_6 (Nat.le_of_ble_eq_true rfl) (Nat.le_of_ble_eq_true rfl) (pX6_hasBody hp_5 (a1)  ⟨rfl, rfl⟩) (fun zv9 wm9 hq9 => ?_)
  obtain ⟨rfl, rfl⟩ := hq9
  refine JT_if_eq (tgt := 22) dX11_dies_8 (by decide) (fun hc8 => ?_) (fun hc8 => ?_)
  · have h := h.1 hc8
    refine JT_iconst (v := -1) dX11_dies_22 ic_m1 ?_
    exact JS_iret dX11_dies_23 rfl rfl h
  · have h := h.2 hc8
    refine JT_aload_n (q := 0) dX11_dies_11 rfl rfl ?_
    refine JS_getR (x := 5) dX11_dies_12 flX11_19 BS_2 (Nat.le_of_ble_eq_true rfl) (Nat.le_of_ble_eq_true rfl) (Or.inl ⟨_, ct_11_1⟩) RF_2_1 ?_
    refine JT_iload_n (q := 2) dX11_dies_15 rfl rfl ?_
    refine JS_callVI (M' := MX6_hasBody) (d' := 0) (As := [.int a2]) (rest := []) (P := (fun zv9 wm9 => (vX6_hasBody s 5 a2) = zv9 ∧ s = wm9)) dX11_dies_16 cvX11_172 okX6_hasBody rfl (Nat.le_of_ble_eq_true rfl) BS_5 (Nat.le_of_ble_eq_true rfl) (Nat.le_of_ble_eq_true rfl) hci_6 (Nat.le_of_ble_eq_true rfl) (Nat.le_of_ble_eq_true rfl) (pX6_hasBody hp_5 (a2)  ⟨rfl, rfl⟩) (fun zv9 wm9 hq9 => ?_)
    obtain ⟨rfl, rfl⟩ := hq9
    refine JT_if_ne (tgt := 24) dX11_dies_19 (by decide) (fun hc6 => ?_) (fun hc6 => ?_)
    · have h := h.1 hc6
      refine JT_aload_n (q := 0) dX11_dies_24 rfl rfl ?_
      refine JS_getR (x := 55) dX11_dies_25 flX11_51 BS_2 (Nat.le_of_ble_eq_true rfl) (Nat.le_of_ble_eq_true rfl) (Or.inl ⟨_, ct_11_7⟩) RF_2_7 ?_
      refine JT_aload_n (q := 0) dX11_dies_28 rfl rfl ?_
      refine JS_getR (x := 31) dX11_dies_29 flX11_41 BS_2 (Nat.le_of_ble_eq_true rfl) (Nat.le_of_ble_eq_true rfl) (Or.inl ⟨_, ct_11_5⟩) RF_2_5 ?_
      obtain ⟨o5, h⟩ := h
      refine JS_callVV (M' := MX2_note) (d' := 2) (As := [.ref 31]) (rest := []) (P := (fun wm9 => (mX2_note s 31 5) = wm9)) dX11_dies_32 cvX11_300 okX2_note rfl (Nat.le_of_ble_eq_true rfl) BS_55 (Nat.le_of_ble_eq_true rfl) (Nat.le_of_ble_eq_true rfl) hci_2 (Nat.le_of_ble_eq_true rfl) (Nat.le_of_ble_eq_true rfl) (pX2_note hL_31  o5 rfl) (fun wm9 hq9 => ?_)
      subst hq9
      refine JT_aload_n (q := 0) dX11_dies_35 rfl rfl ?_
      refine JS_getR (x := 31) dX11_dies_36 flX11_41 BS_2 (Nat.le_of_ble_eq_true rfl) (Nat.le_of_ble_eq_true rfl) (Or.inl ⟨_, ct_11_5⟩) RF_2_5 ?_
      refine JT_iload_n (q := 1) dX11_dies_39 rfl rfl ?_
      refine JT_iload_n (q := 2) dX11_dies_40 rfl rfl ?_
      obtain ⟨o4, h⟩ := h
      refine JS_callVI (M' := MX4_openFor) (d' := 2) (As := [.int a1, .int a2]) (rest := []) (P := (fun zv9 wm9 => (vX4_openFor (mX2_note s 31 5) 31 5 a1 a2) = zv9 ∧ (mX2_note s 31 5) = wm9)) dX11_dies_41 cvX11_324 okX4_openFor rfl (Nat.le_of_ble_eq_true rfl) BS_31 (Nat.le_of_ble_eq_true rfl) (Nat.le_of_ble_eq_true rfl) hci_4 (Nat.le_of_ble_eq_true rfl) (Nat.le_of_ble_eq_true rfl) (pX4_openFor hL_31 (a1) (a2) o4 ⟨rfl, rfl⟩) (fun zv9 wm9 hq9 => ?_)
      obtain ⟨rfl, rfl⟩ := hq9
      refine JT_istore_n (lv' := [(3, .int (vX4_openFor (mX2_note s 31 5) 31 5 a1 a2)), (0, .ref 2), (1, .int a1), (2, .int a2)]) dX11_dies_44 rfl (Nat.le_of_ble_eq_true rfl) rfl ?_
      refine JT_aload_n (q := 1) dX11_dies_45 rfl rfl ?_
      refine JS_getR (x := 31) dX11_dies_46 flX11_41 BS_2 (Nat.le_of_ble_eq_true rfl) (Nat.le_of_ble_eq_true rfl) (Or.inl ⟨_, ct_11_5⟩) RF_2_5 ?_
      refine JT_iload_n (q := 2) dX11_dies_49 rfl rfl ?_
      refine JT_iload_n (q := 3) dX11_dies_50 rfl rfl ?_
      obtain ⟨o3, h⟩ := h
      refine JS_callVI (M' := MX4_tryBury) (d' := 2) (As := [.int a1, .int a2]) (rest := []) (P := (fun zv9 wm9 => (vX4_tryBury (mX2_note s 31 5) 31 5 a1 a2) = zv9 ∧ (mX4_tryBury (mX2_note s 31 5) 31 5 a1 a2) = wm9)) dX11_dies_51 cvX11_327 okX4_tryBury rfl (Nat.le_of_ble_eq_true rfl) BS_31 (Nat.le_of_ble_eq_true rfl) (Nat.le_of_ble_eq_true rfl) hci_4 (Nat.le_of_ble_eq_true rfl) (Nat.le_of_ble_eq_true rfl) (pX4_tryBury hL_31 (a1) (a2) o3 ⟨rfl, rfl⟩) (fun zv9 wm9 hq9 => ?_)
      obtain ⟨rfl, rfl⟩ := hq9
      refine JT_istore (lv' := [(4, .int (vX4_tryBury (mX2_note s 31 5) 31 5 a1 a2)), (3, .int (vX4_openFor (mX2_note s 31 5) 31 5 a1 a2)), (0, .ref 2), (1, .int a1), (2, .int a2)]) dX11_dies_54 (Nat.le_of_ble_eq_true rfl) rfl ?_
      refine JT_iload (q := 0) dX11_dies_56 rfl ?_
      refine JT_if_eq (tgt := 67) dX11_dies_58 (by decide) (fun hc2 => ?_) (fun hc2 => ?_)
      · have h := h.1 hc2
        refine JT_aload_n (q := 2) dX11_dies_67 rfl rfl ?_
        refine JS_getR (x := 55) dX11_dies_68 flX11_51 BS_2 (Nat.le_of_ble_eq_true rfl) (Nat.le_of_ble_eq_true rfl) (Or.inl ⟨_, ct_11_7⟩) RF_2_7 ?_
        refine JS_callVV (M' := MX2_keepNoted) (d' := 1) (As := []) (rest := []) (P := (fun wm9 => (mX2_keepNoted (mX4_tryBury (mX2_note s 31 5) 31 5 a1 a2) ) = wm9)) dX11_dies_71 cvX11_308 okX2_keepNoted rfl (Nat.le_of_ble_eq_true rfl) BS_55 (Nat.le_of_ble_eq_true rfl) (Nat.le_of_ble_eq_true rfl) hci_2 (Nat.le_of_ble_eq_true rfl) (Nat.le_of_ble_eq_true rfl) (pX2_keepNoted    rfl) (fun wm9 hq9 => ?_)
        subst hq9
        refine JT_iload_n (q := 1) dX11_dies_74 rfl rfl ?_
        exact JS_iret dX11_dies_75 rfl rfl h
      · have h := h.2 hc2
        refine JT_bipush (v := -10) dX11_dies_61 bp_m10 ?_
        refine JT_iload (q := 0) dX11_dies_63 rfl ?_
        refine JT_isub dX11_dies_65 ?_
        exact JS_iret dX11_dies_66 rfl rfl h
    · have h := h.2 hc6
      refine JT_iconst (v := -1) dX11_dies_22 ic_m1 ?_
      exact JS_iret dX11_dies_23 rfl rfl h
set_option maxRecDepth 1000000 in
theorem pX11_dies (a1 : Int32) (a2 : Int32) {s : SM} {Q : Int32 → SM → Prop} (hr : rX11_dies s a1 a2) (h : Q (vX11_dies s a1 a2) (mX11_dies s a1 a2)) : KI MX11_dies 3 [.ref 2, .int a1, .int a2] s Q := by
  refine bX11_dies a1 a2 ?_
  unfold rX11_dies at hr
  unfold vX11_dies mX11_dies at h
  refine ⟨fun c => ?_, fun c => ?_⟩
  · replace h := q2p c h
    first | exact h | contradiction
  · replace hr := hr c
    replace h := q2n c h
    refine ⟨fun c => ?_, fun c => ?_⟩
    · replace hr := hr c
      replace h := q2n c h
      refine ⟨hr.1, ?_⟩
      replace hr := hr.2
      refine ⟨hr.1, ?_⟩
      replace hr := hr.2
      refine ⟨hr, ?_⟩
      refine ⟨fun c => ?_, fun c => ?_⟩
      · replace h := q2p c h
        first | exact h | contradiction
      · replace h := q2n c h
        first | exact h | contradiction
    · replace h := q2p c h
      first | exact h | contradiction
set_option maxRecDepth 1000000 in
theorem bX11_greatest_8 (a1 : Int32) (a2 : Int32) {s : SM} {Q : Int32 → SM → Prop} (h : (((gI s 31 9) ≤ a2 → Q (-1 : Int32) s) ∧ (¬ (gI s 31 9) ≤ a2 → rX4_isOpen s 31 5 a2 ∧ (((vX4_isOpen s 31 5 a2) = 0 → BI MX11_greatest 3 8 [(0, .ref 2), (1, .int a1), (2, .int (a2 + 1))] s Q) ∧ (¬ (vX4_isOpen s 31 5 a2) = 0 → rX4_openAhead s 31 5 a2 ∧ ((¬ (vX4_openAhead s 31 5 a2) = a1 → BI MX11_greatest 3 8 [(0, .ref 2), (1, .int a1), (2, .int (a2 + 1))] s Q) ∧ ((vX4_openAhead s 31 5 a2) = a1 → Q a2 s))))))) : BI MX11_greatest 3 8 [(0, .ref 2), (1, .int a1), (2, .int a2)] s Q := by
  refine JT_iload_n (q := 2) dX11_greatest_8 rfl rfl ?_
  refine JT_aload_n (q := 0) dX11_greatest_9 rfl rfl ?_
  refine JS_getR (x := 31) dX11_greatest_10 flX11_41 BS_2 (Nat.le_of_ble_eq_true rfl) (Nat.le_of_ble_eq_true rfl) (Or.inl ⟨_, ct_11_5⟩) RF_2_5 ?_
  refine JS_getI dX11_greatest_13 flX11_162 BS_31 (Nat.le_of_ble_eq_true rfl) (Nat.le_of_ble_eq_true rfl) (Or.inl ct_4_9) ?_
  refine JT_icmp_ge (tgt := 50) dX11_greatest_16 (by decide) (fun hc5 => ?_) (fun hc5 => ?_)
  · have h := h.1 hc5
    refine JT_iconst (v := -1) dX11_greatest_50 ic_m1 ?_
    exact JS_iret dX11_greatest_51 rfl rfl h
  · have h := h.2 hc5
    refine JT_aload_n (q := 0) dX11_greatest_19 rfl rfl ?_
    refine JS_getR (x := 31) dX11_greatest_20 flX11_41 BS_2 (Nat.le_of_ble_eq_true rfl) (Nat.le_of_ble_eq_true rfl) (Or.inl ⟨_, ct_11_5⟩) RF_2_5 ?_
    refine JT_iload_n (q := 2) dX11_greatest_23 rfl rfl ?_
    obtain ⟨o4, h⟩ := h
    refine JS_callVI (M' := MX4_isOpen) (d' := 1) (As := [.int a2]) (rest := []) (P := (fun zv9 wm9 => (vX4_isOpen s 31 5 a2) = zv9 ∧ s = wm9)) dX11_greatest_24 cvX11_251 okX4_isOpen rfl (Nat.le_of_ble_eq_true rfl) BS_31 (Nat.le_of_ble_eq_true rfl) (Nat.le_of_ble_eq_true rfl) hci_4 (Nat.le_of_ble_eq_true rfl) (Nat.le_of_ble_eq_true rfl) (pX4_isOpen hL_31 (a2) o4 ⟨rfl, rfl⟩) (fun zv9 wm9 hq9 => ?_)
    obtain ⟨rfl, rfl⟩ := hq9
    refine JT_if_eq (tgt := 44) dX11_greatest_27 (by decide) (fun hc3 => ?_) (fun hc3 => ?_)
    · have h := h.1 hc3
      refine JT_iinc (q := 2) (v := (a2 + 1)) (lv' := [(2, .int (a2 + 1)), (0, .ref 2), (1, .int a1)]) dX11_greatest_44 rfl (by rfl) (Nat.le_of_ble_eq_true rfl) rfl ?_
      refine JT_goto (tgt := 8) dX11_greatest_47 (by decide) ?_
      exact JT_sub [1, 2, 0] rfl h
    · have h := h.2 hc3
      refine JT_aload_n (q := 0) dX11_greatest_30 rfl rfl ?_
      refine JS_getR (x := 31) dX11_greatest_31 flX11_41 BS_2 (Nat.le_of_ble_eq_true rfl) (Nat.le_of_ble_eq_true rfl) (Or.inl ⟨_, ct_11_5⟩) RF_2_5 ?_
      refine JT_iload_n (q := 2) dX11_greatest_34 rfl rfl ?_
      obtain ⟨o2, h⟩ := h
      refine JS_callVI (M' := MX4_openAhead) (d' := 2) (As := [.int a2]) (rest := []) (P := (fun zv9 wm9 => (vX4_openAhead s 31 5 a2) = zv9 ∧ s = wm9)) dX11_greatest_35 cvX11_267 okX4_openAhead rfl (Nat.le_of_ble_eq_true rfl) BS_31 (Nat.le_of_ble_eq_true rfl) (Nat.le_of_ble_eq_true rfl) hci_4 (Nat.le_of_ble_eq_true rfl) (Nat.le_of_ble_eq_true rfl) (pX4_openAhead hL_31 (a2) o2 ⟨rfl, rfl⟩) (fun zv9 wm9 hq9 => ?_)
      obtain ⟨rfl, rfl⟩ := hq9
      refine JT_iload_n (q := 1) dX11_greatest_38 rfl rfl ?_
      refine JT_icmp_ne (tgt := 44) dX11_greatest_39 (by decide) (fun hc1 => ?_) (fun hc1 => ?_)
      · have h := h.1 hc1
        refine JT_iinc (q := 2) (v := (a2 + 1)) (lv' := [(2, .int (a2 + 1)), (0, .ref 2), (1, .int a1)]) dX11_greatest_44 rfl (by rfl) (Nat.le_of_ble_eq_true rfl) rfl ?_
        refine JT_goto (tgt := 8) dX11_greatest_47 (by decide) ?_
        exact JT_sub [1, 2, 0] rfl h
      · have h := h.2 hc1
        refine JT_iload_n (q := 2) dX11_greatest_42 rfl rfl ?_
        exact JS_iret dX11_greatest_43 rfl rfl h
set_option maxRecDepth 1000000 in
theorem bX11_greatest (a1 : Int32) {s : SM} {Q : Int32 → SM → Prop} (h : ((0 ≤ a1 → BI MX11_greatest 3 8 [(0, .ref 2), (1, .int a1), (2, .int (0 : Int32))] s Q) ∧ (¬ 0 ≤ a1 → Q (-1 : Int32) s))) : KI MX11_greatest 3 [.ref 2, .int a1] s Q := by
  show BI MX11_greatest 3 0 [(0, .ref 2), (1, .int a1)] s Q
  refine JT_iload_n (q := 1) dX11_greatest_0 rfl rfl ?_
  refine JT_if_ge (tgt := 6) dX11_greatest_1 (by decide) (fun hc1 => ?_) (fun hc1 => ?_)
  · have h := h.1 hc1
    refine JT_iconst (v := 0) dX11_greatest_6 ic_0 ?_
    refine JT_istore_n (lv' := [(2, .int (0 : Int32)), (0, .ref 2), (1, .int a1)]) dX11_greatest_7 rfl (Nat.le_of_ble_eq_true rfl) rfl ?_
    exact JT_sub [1, 2, 0] rfl h
  · have h := h.2 hc1
    refine JT_iconst (v := -1) dX11_greatest_4 ic_m1 ?_
    exact JS_iret dX11_greatest_5 rfl rfl h
set_option maxRecDepth 1000000 in
theorem gX11_greatest  : ∀ n : Nat, (∀ (a1 : Int32) (a2 : Int32) (s : SM) (Q : Int32 → SM → Prop), ((qX11_greatest n) s a1 a2) → Q ((lX11_greatest n) s a1 a2) s → BI MX11_greatest 3 8 [(0, .ref 2), (1, .int a1), (2, .int a2)] s Q) := by
  intro n
  induction n with
  | zero => exact fun _ _ _ _ hq _ => absurd hq id
  | succ n ih =>
    intro a1 a2 s Q hr h
    replace hr : uX11_greatest_8 (qX11_greatest n) s a1 a2 := hr
    replace h : Q (tX11_greatest_8 (lX11_greatest n) s a1 a2) s := h
    unfold uX11_greatest_8 at hr
    unfold tX11_greatest_8 at h
    refine bX11_greatest_8 a1 a2 ?_
    refine ⟨fun c => ?_, fun c => ?_⟩
    · replace h := qlp c h
      first | exact h | contradiction
    · replace hr := hr c
      replace h := qln c h
      refine ⟨hr.1, ?_⟩
      replace hr := hr.2
      refine ⟨fun c => ?_, fun c => ?_⟩
      · replace hr := hr.1 c
        replace h := qlp c h
        first | exact ih a1 (a2 + 1) _ Q hr h | contradiction
      · replace hr := hr.2 c
        replace h := qln c h
        refine ⟨hr.1, ?_⟩
        replace hr := hr.2
        refine ⟨fun c => ?_, fun c => ?_⟩
        · replace hr := hr c
          replace h := qln c h
          first | exact ih a1 (a2 + 1) _ Q hr h | contradiction
        · replace h := qlp c h
          first | exact h | contradiction
set_option maxRecDepth 1000000 in
theorem pX11_greatest (a1 : Int32) {s : SM} {Q : Int32 → SM → Prop} (hr : rX11_greatest s a1) (h : Q (vX11_greatest s a1) s) : KI MX11_greatest 3 [.ref 2, .int a1] s Q := by
  replace h : Q (fX11_greatest s a1) s := h
  unfold rX11_greatest at hr
  unfold fX11_greatest at h
  refine bX11_greatest a1 ?_
  refine ⟨fun c => ?_, fun c => ?_⟩
  · replace hr := hr c
    replace h := qlp c h
    first | exact (gX11_greatest  FU) a1 (0 : Int32) _ Q hr h | contradiction
  · replace h := qln c h
    first | exact h | contradiction
set_option maxRecDepth 1000000 in
theorem bX11_image (a1 : Int32) {s : SM} {Q : Int32 → SM → Prop} (h : ((a1 < 0 → Q (0 : Int32) s) ∧ (¬ a1 < 0 → ((a1 < (2 : Int32) → vp_in a1 2 ∧ RF 165 (a1).toNatClampNeg = some (rfx 165 (a1).toNatClampNeg) ∧ ((rfx 165 (a1).toNatClampNeg), rfx (rfx 165 (a1).toNatClampNeg) 1, rfx (rfx 165 (a1).toNatClampNeg) 2, rfx (rfx 165 (a1).toNatClampNeg) 3) ∈ IX ∧ rX3_keep s (rfx 165 (a1).toNatClampNeg) (rfx (rfx 165 (a1).toNatClampNeg) 1) (rfx (rfx 165 (a1).toNatClampNeg) 2) (rfx (rfx 165 (a1).toNatClampNeg) 3) 5 31 5 19 ∧ (∀ s4, s4 = (mX3_keep s (rfx 165 (a1).toNatClampNeg) (rfx (rfx 165 (a1).toNatClampNeg) 1) (rfx (rfx 165 (a1).toNatClampNeg) 2) (rfx (rfx 165 (a1).toNatClampNeg) 3) 5 31 5 19) → Q (1 : Int32) s4)) ∧ (¬ a1 < (2 : Int32) → Q (0 : Int32) s))))) : KI MX11_image 3 [.ref 2, .int a1] s Q := by
  show BI MX11_image 3 0 [(0, .ref 2), (1, .int a1)] s Q
  refine JT_iload_n (q := 1) dX11_image_0 rfl rfl ?_
  refine JT_if_lt (tgt := 13) dX11_image_1 (by decide) (fun hc7 => ?_) (fun hc7 => ?_)
  · have h := h.1 hc7
    refine JT_iconst (v := 0) dX11_image_13 ic_0 ?_
    exact JS_iret dX11_image_14 rfl (n01 (Or.inl rfl)) h
  · have h := h.2 hc7
    refine JT_iload_n (q := 1) dX11_image_4 rfl rfl ?_
    refine JT_aload_n (q := 0) dX11_image_5 rfl rfl ?_
    refine JS_getR (x := 165) dX11_image_6 flX11_58 BS_2 (Nat.le_of_ble_eq_true rfl) (Nat.le_of_ble_eq_true rfl) (Or.inr ⟨_, ct_11_8⟩) RF_2_8 ?_
    refine JT_alen (v := 2) dX11_image_9 BS_165 (Nat.le_of_ble_eq_true rfl) (Nat.le_of_ble_eq_true rfl) (by decide) ?_
    refine JT_icmp_lt (tgt := 15) dX11_image_10 (by decide) (fun hc6 => ?_) (fun hc6 => ?_)
    · have h := h.1 hc6
      refine JT_aload_n (q := 0) dX11_image_15 rfl rfl ?_
      refine JS_getR (x := 165) dX11_image_16 flX11_58 BS_2 (Nat.le_of_ble_eq_true rfl) (Nat.le_of_ble_eq_true rfl) (Or.inr ⟨_, ct_11_8⟩) RF_2_8 ?_
      refine JT_iload_n (q := 1) dX11_image_19 rfl rfl ?_
      obtain ⟨o1, hr2, hn3, h⟩ := h
      refine JS_aald dX11_image_20 BS_165 (Nat.le_of_ble_eq_true rfl) (Nat.le_of_ble_eq_true rfl) o1 (by rw [RFd_arr (Or.inl rfl)]; exact hr2) ?_
      refine JT_aload_n (q := 0) dX11_image_21 rfl rfl ?_
      refine JS_getR (x := 5) dX11_image_22 flX11_19 BS_2 (Nat.le_of_ble_eq_true rfl) (Nat.le_of_ble_eq_true rfl) (Or.inl ⟨_, ct_11_1⟩) RF_2_1 ?_
      refine JT_aload_n (q := 0) dX11_image_25 rfl rfl ?_
      refine JS_getR (x := 31) dX11_image_26 flX11_41 BS_2 (Nat.le_of_ble_eq_true rfl) (Nat.le_of_ble_eq_true rfl) (Or.inl ⟨_, ct_11_5⟩) RF_2_5 ?_
      refine JT_aload_n (q := 0) dX11_image_29 rfl rfl ?_
      refine JS_getR (x := 19) dX11_image_30 flX11_29 BS_2 (Nat.le_of_ble_eq_true rfl) (Nat.le_of_ble_eq_true rfl) (Or.inl ⟨_, ct_11_3⟩) RF_2_3 ?_
      obtain ⟨o5, h⟩ := h
      refine JS_callVV (M' := MX3_keep) (d' := 2) (As := [.ref 5, .ref 31, .ref 19]) (rest := []) (P := (fun wm9 => (mX3_keep s (rfx 165 (a1).toNatClampNeg) (rfx (rfx 165 (a1).toNatClampNeg) 1) (rfx (rfx 165 (a1).toNatClampNeg) 2) (rfx (rfx 165 (a1).toNatClampNeg) 3) 5 31 5 19) = wm9)) dX11_image_33 cvX11_427 okX3_keep rfl (Nat.le_of_ble_eq_true rfl) (ixB hn3) (ix2 hn3) (ixN hn3) hci_3 (Nat.le_of_ble_eq_true rfl) (Nat.le_of_ble_eq_true rfl) (pX3_keep hn3 hp_5 hL_31 hk_19  o5 rfl) (fun wm9 hq9 => ?_)
      subst hq9
      obtain ⟨s4, hs4⟩ : ∃ z, z = (mX3_keep s (rfx 165 (a1).toNatClampNeg) (rfx (rfx 165 (a1).toNatClampNeg) 1) (rfx (rfx 165 (a1).toNatClampNeg) 2) (rfx (rfx 165 (a1).toNatClampNeg) 3) 5 31 5 19) := ⟨_, rfl⟩
      replace h := h s4 hs4
      rw [← hs4]
      refine JT_iconst (v := 1) dX11_image_36 ic_1 ?_
      exact JS_iret dX11_image_37 rfl (n01 (Or.inr rfl)) h
    · have h := h.2 hc6
      refine JT_iconst (v := 0) dX11_image_13 ic_0 ?_
      exact JS_iret dX11_image_14 rfl (n01 (Or.inl rfl)) h
set_option maxRecDepth 1000000 in
theorem zX11_image (s : SM) (a1 : Int32) : vX11_image s a1 = 0 ∨ vX11_image s a1 = 1 := (i01 (Or.inl rfl) (i01 (Or.inr rfl) (Or.inl rfl)))
set_option maxRecDepth 1000000 in
theorem pX11_image (a1 : Int32) {s : SM} {Q : Int32 → SM → Prop} (hr : rX11_image s a1) (h : Q (vX11_image s a1) (mX11_image s a1)) : KI MX11_image 3 [.ref 2, .int a1] s Q := by
  refine bX11_image a1 ?_
  unfold rX11_image at hr
  unfold vX11_image mX11_image at h
  refine ⟨fun c => ?_, fun c => ?_⟩
  · replace h := q2p c h
    first | exact h | contradiction
  · replace hr := hr c
    replace h := q2n c h
    refine ⟨fun c => ?_, fun c => ?_⟩
    · replace hr := hr c
      replace h := q2p c h
      refine ⟨hr.1, ?_⟩
      replace hr := hr.2
      refine ⟨hr.1, ?_⟩
      replace hr := hr.2
      refine ⟨hr.1, ?_⟩
      replace hr := hr.2
      refine ⟨hr, ?_⟩
      intro s4 e9
      try rw [← e9] at h
      try dsimp only at h
      first | exact h | contradiction
    · replace h := q2n c h
      first | exact h | contradiction
set_option maxRecDepth 1000000 in
theorem bX11_read (a1 : Int32) (a2 : Int32) {s : SM} {Q : Int32 → SM → Prop} (h : (((vX4_hasDeal s 31 5 a1) = 0 → Q (-1 : Int32) s) ∧ (¬ (vX4_hasDeal s 31 5 a1) = 0 → (((vX11_isSide s a2) = 0 → Q (-1 : Int32) s) ∧ (¬ (vX11_isSide s a2) = 0 → rX4_bearer s 31 5 a1 a2 ∧ ((¬ (vX4_bearer s 31 5 a1 a2) = (-1 : Int32) → rX4_isReadable s 31 5 a1 a2 ∧ Q (if (vX4_isReadable s 31 5 a1 a2) = 0 then (0 : Int32) else (1 : Int32)) s) ∧ ((vX4_bearer s 31 5 a1 a2) = (-1 : Int32) → Q (-1 : Int32) s))))))) : KI MX11_read 3 [.ref 2, .int a1, .int a2] s Q := by
  show BI MX11_read 3 0 [(0, .ref 2), (1, .int a1), (2, .int a2)] s Q
  refine JT_aload_n (q := 0) dX11_read_0 rfl rfl ?_
  refine JS_getR (x := 31) dX11_read_1 flX11_41 BS_2 (Nat.le_of_ble_eq_true rfl) (Nat.le_of_ble_eq_true rfl) (Or.inl ⟨_, ct_11_5⟩) RF_2_5 ?_
  refine JT_iload_n (q := 1) dX11_read_4 rfl rfl ?_
  refine JS_callVI (M' := MX4_hasDeal) (d' := 0) (As := [.int a1]) (rest := []) (P := (fun zv9 wm9 => (vX4_hasDeal s 31 5 a1) = zv9 ∧ s = wm9)) dX11_read_5 cvX11_211 okX4_hasDeal rfl (Nat.le_of_ble_eq_true rfl) BS_31 (Nat.le_of_ble_eq_true rfl) (Nat.le_of_ble_eq_true rfl) hci_4 (Nat.le_of_ble_eq_true rfl) (Nat.le_of_ble_eq_true rfl) (pX4_hasDeal hL_31 (a1)  ⟨rfl, rfl⟩) (fun zv9 wm9 hq9 => ?_)
  obtain ⟨rfl, rfl⟩ := hq9
  refine JT_if_eq (tgt := 31) dX11_read_8 (by decide) (fun hc8 => ?_) (fun hc8 => ?_)
  · have h := h.1 hc8
    refine JT_iconst (v := -1) dX11_read_31 ic_m1 ?_
    exact JS_iret dX11_read_32 rfl rfl h
  · have h := h.2 hc8
    refine JT_iload_n (q := 2) dX11_read_11 rfl rfl ?_
    refine JS_callSI (M' := MX11_isSide) (d' := 0) (As := [.int a2]) (rest := []) (P := (fun zv9 wm9 => (vX11_isSide s a2) = zv9 ∧ s = wm9)) dX11_read_12 cvX11_241 okX11_isSide rfl (Nat.le_of_ble_eq_true rfl) (Nat.le_of_ble_eq_true rfl) (Nat.le_of_ble_eq_true rfl) (pX11_isSide  (a2)  ⟨rfl, rfl⟩) (fun zv9 wm9 hq9 => ?_)
    obtain ⟨rfl, rfl⟩ := hq9
    refine JT_if_eq (tgt := 31) dX11_read_15 (by decide) (fun hc6 => ?_) (fun hc6 => ?_)
    · have h := h.1 hc6
      refine JT_iconst (v := -1) dX11_read_31 ic_m1 ?_
      exact JS_iret dX11_read_32 rfl rfl h
    · have h := h.2 hc6
      refine JT_aload_n (q := 0) dX11_read_18 rfl rfl ?_
      refine JS_getR (x := 31) dX11_read_19 flX11_41 BS_2 (Nat.le_of_ble_eq_true rfl) (Nat.le_of_ble_eq_true rfl) (Or.inl ⟨_, ct_11_5⟩) RF_2_5 ?_
      refine JT_iload_n (q := 1) dX11_read_22 rfl rfl ?_
      refine JT_iload_n (q := 2) dX11_read_23 rfl rfl ?_
      obtain ⟨o5, h⟩ := h
      refine JS_callVI (M' := MX4_bearer) (d' := 0) (As := [.int a1, .int a2]) (rest := []) (P := (fun zv9 wm9 => (vX4_bearer s 31 5 a1 a2) = zv9 ∧ s = wm9)) dX11_read_24 cvX11_232 okX4_bearer rfl (Nat.le_of_ble_eq_true rfl) BS_31 (Nat.le_of_ble_eq_true rfl) (Nat.le_of_ble_eq_true rfl) hci_4 (Nat.le_of_ble_eq_true rfl) (Nat.le_of_ble_eq_true rfl) (pX4_bearer hL_31 (a1) (a2) o5 ⟨rfl, rfl⟩) (fun zv9 wm9 hq9 => ?_)
      obtain ⟨rfl, rfl⟩ := hq9
      refine JT_iconst (v := -1) dX11_read_27 ic_m1 ?_
      refine JT_icmp_ne (tgt := 33) dX11_read_28 (by decide) (fun hc4 => ?_) (fun hc4 => ?_)
      · have h := h.1 hc4
        refine JT_aload_n (q := 0) dX11_read_33 rfl rfl ?_
        refine JS_getR (x := 31) dX11_read_34 flX11_41 BS_2 (Nat.le_of_ble_eq_true rfl) (Nat.le_of_ble_eq_true rfl) (Or.inl ⟨_, ct_11_5⟩) RF_2_5 ?_
        refine JT_iload_n (q := 1) dX11_read_37 rfl rfl ?_
        refine JT_iload_n (q := 2) dX11_read_38 rfl rfl ?_
        obtain ⟨o3, h⟩ := h
        refine JS_callVI (M' := MX4_isReadable) (d' := 2) (As := [.int a1, .int a2]) (rest := []) (P := (fun zv9 wm9 => (vX4_isReadable s 31 5 a1 a2) = zv9 ∧ s = wm9)) dX11_read_39 cvX11_244 okX4_isReadable rfl (Nat.le_of_ble_eq_true rfl) BS_31 (Nat.le_of_ble_eq_true rfl) (Nat.le_of_ble_eq_true rfl) hci_4 (Nat.le_of_ble_eq_true rfl) (Nat.le_of_ble_eq_true rfl) (pX4_isReadable hL_31 (a1) (a2) o3 ⟨rfl, rfl⟩) (fun zv9 wm9 hq9 => ?_)
        obtain ⟨rfl, rfl⟩ := hq9
        have hj1 : ∀ v : Int32, v = (if (vX4_isReadable s 31 5 a1 a2) = 0 then (0 : Int32) else (1 : Int32)) → JT MX11_read 3 0 0 50 [(0, .ref 2), (1, .int a1), (2, .int a2)] [.int v] (std s) (KQ Q) := by
          intro v hv
          subst hv
          exact JS_iret dX11_read_50 rfl rfl h
        refine JT_if_eq (tgt := 49) dX11_read_42 (by decide) (fun hc2 => ?_) (fun hc2 => ?_)
        · refine JT_iconst (v := 0) dX11_read_49 ic_0 ?_
          exact hj1 _ (by rw [if_pos hc2])
        · refine JT_iconst (v := 1) dX11_read_45 ic_1 ?_
          refine JT_goto (tgt := 50) dX11_read_46 (by decide) ?_
          exact hj1 _ (by rw [if_neg hc2])
      · have h := h.2 hc4
        refine JT_iconst (v := -1) dX11_read_31 ic_m1 ?_
        exact JS_iret dX11_read_32 rfl rfl h
set_option maxRecDepth 1000000 in
theorem pX11_read (a1 : Int32) (a2 : Int32) {s : SM} {Q : Int32 → SM → Prop} (hr : rX11_read s a1 a2) (h : Q (vX11_read s a1 a2) s) : KI MX11_read 3 [.ref 2, .int a1, .int a2] s Q := by
  refine bX11_read a1 a2 ?_
  unfold rX11_read at hr
  unfold vX11_read at h
  refine ⟨fun c => ?_, fun c => ?_⟩
  · replace h := qlp c h
    first | exact h | contradiction
  · replace hr := hr c
    replace h := qln c h
    refine ⟨fun c => ?_, fun c => ?_⟩
    · replace h := qlp c h
      first | exact h | contradiction
    · replace hr := hr c
      replace h := qln c h
      refine ⟨hr.1, ?_⟩
      replace hr := hr.2
      refine ⟨fun c => ?_, fun c => ?_⟩
      · replace hr := hr c
        replace h := qln c h
        refine ⟨hr, ?_⟩
        first | exact h | contradiction
      · replace h := qlp c h
        first | exact h | contradiction
set_option maxRecDepth 1000000 in
theorem bX11_restore (a1 : Int32) {s : SM} {Q : Int32 → SM → Prop} (h : ((a1 < 0 → Q (0 : Int32) s) ∧ (¬ a1 < 0 → (((2 : Int32) ≤ a1 → Q (0 : Int32) s) ∧ (¬ (2 : Int32) ≤ a1 → vp_in a1 2 ∧ RF 165 (a1).toNatClampNeg = some (rfx 165 (a1).toNatClampNeg) ∧ ((rfx 165 (a1).toNatClampNeg), rfx (rfx 165 (a1).toNatClampNeg) 1, rfx (rfx 165 (a1).toNatClampNeg) 2, rfx (rfx 165 (a1).toNatClampNeg) 3) ∈ IX ∧ ((¬ (gI s (rfx 165 (a1).toNatClampNeg) 0) = 0 → vp_in a1 2 ∧ RF 165 (a1).toNatClampNeg = some (rfx 165 (a1).toNatClampNeg) ∧ ((rfx 165 (a1).toNatClampNeg), rfx (rfx 165 (a1).toNatClampNeg) 1, rfx (rfx 165 (a1).toNatClampNeg) 2, rfx (rfx 165 (a1).toNatClampNeg) 3) ∈ IX ∧ rX3_bringBack s (rfx 165 (a1).toNatClampNeg) (rfx (rfx 165 (a1).toNatClampNeg) 1) (rfx (rfx 165 (a1).toNatClampNeg) 2) (rfx (rfx 165 (a1).toNatClampNeg) 3) 5 31 5 19 ∧ (∀ s7, s7 = (mX3_bringBack s (rfx 165 (a1).toNatClampNeg) (rfx (rfx 165 (a1).toNatClampNeg) 1) (rfx (rfx 165 (a1).toNatClampNeg) 2) (rfx (rfx 165 (a1).toNatClampNeg) 3) 5 31 5 19) → Q (1 : Int32) (mX2_forget s7 ))) ∧ ((gI s (rfx 165 (a1).toNatClampNeg) 0) = 0 → Q (0 : Int32) s))))))) : KI MX11_restore 3 [.ref 2, .int a1] s Q := by
  show BI MX11_restore 3 0 [(0, .ref 2), (1, .int a1)] s Q
  refine JT_iload_n (q := 1) dX11_restore_0 rfl rfl ?_
  refine JT_if_lt (tgt := 25) dX11_restore_1 (by decide) (fun hc12 => ?_) (fun hc12 => ?_)
  · have h := h.1 hc12
    refine JT_iconst (v := 0) dX11_restore_25 ic_0 ?_
    exact JS_iret dX11_restore_26 rfl (n01 (Or.inl rfl)) h
  · have h := h.2 hc12
    refine JT_iload_n (q := 1) dX11_restore_4 rfl rfl ?_
    refine JT_aload_n (q := 0) dX11_restore_5 rfl rfl ?_
    refine JS_getR (x := 165) dX11_restore_6 flX11_58 BS_2 (Nat.le_of_ble_eq_true rfl) (Nat.le_of_ble_eq_true rfl) (Or.inr ⟨_, ct_11_8⟩) RF_2_8 ?_
    refine JT_alen (v := 2) dX11_restore_9 BS_165 (Nat.le_of_ble_eq_true rfl) (Nat.le_of_ble_eq_true rfl) (by decide) ?_
    refine JT_icmp_ge (tgt := 25) dX11_restore_10 (by decide) (fun hc11 => ?_) (fun hc11 => ?_)
    · have h := h.1 hc11
      refine JT_iconst (v := 0) dX11_restore_25 ic_0 ?_
      exact JS_iret dX11_restore_26 rfl (n01 (Or.inl rfl)) h
    · have h := h.2 hc11
      refine JT_aload_n (q := 0) dX11_restore_13 rfl rfl ?_
      refine JS_getR (x := 165) dX11_restore_14 flX11_58 BS_2 (Nat.le_of_ble_eq_true rfl) (Nat.le_of_ble_eq_true rfl) (Or.inr ⟨_, ct_11_8⟩) RF_2_8 ?_
      refine JT_iload_n (q := 1) dX11_restore_17 rfl rfl ?_
      obtain ⟨o1, hr2, hn3, h⟩ := h
      refine JS_aald dX11_restore_18 BS_165 (Nat.le_of_ble_eq_true rfl) (Nat.le_of_ble_eq_true rfl) o1 (by rw [RFd_arr (Or.inl rfl)]; exact hr2) ?_
      refine JS_getI dX11_restore_19 flX11_431 (ixB hn3) (ix2 hn3) (ixN hn3) (Or.inr ct_3_0) ?_
      refine JT_if_ne (tgt := 27) dX11_restore_22 (by decide) (fun hc10 => ?_) (fun hc10 => ?_)
      · have h := h.1 hc10
        refine JT_aload_n (q := 0) dX11_restore_27 rfl rfl ?_
        refine JS_getR (x := 165) dX11_restore_28 flX11_58 BS_2 (Nat.le_of_ble_eq_true rfl) (Nat.le_of_ble_eq_true rfl) (Or.inr ⟨_, ct_11_8⟩) RF_2_8 ?_
        refine JT_iload_n (q := 1) dX11_restore_31 rfl rfl ?_
        obtain ⟨o4, hr5, hn6, h⟩ := h
        refine JS_aald dX11_restore_32 BS_165 (Nat.le_of_ble_eq_true rfl) (Nat.le_of_ble_eq_true rfl) o4 (by rw [RFd_arr (Or.inl rfl)]; exact hr5) ?_
        refine JT_aload_n (q := 0) dX11_restore_33 rfl rfl ?_
        refine JS_getR (x := 5) dX11_restore_34 flX11_19 BS_2 (Nat.le_of_ble_eq_true rfl) (Nat.le_of_ble_eq_true rfl) (Or.inl ⟨_, ct_11_1⟩) RF_2_1 ?_
        refine JT_aload_n (q := 0) dX11_restore_37 rfl rfl ?_
        refine JS_getR (x := 31) dX11_restore_38 flX11_41 BS_2 (Nat.le_of_ble_eq_true rfl) (Nat.le_of_ble_eq_true rfl) (Or.inl ⟨_, ct_11_5⟩) RF_2_5 ?_
        refine JT_aload_n (q := 0) dX11_restore_41 rfl rfl ?_
        refine JS_getR (x := 19) dX11_restore_42 flX11_29 BS_2 (Nat.le_of_ble_eq_true rfl) (Nat.le_of_ble_eq_true rfl) (Or.inl ⟨_, ct_11_3⟩) RF_2_3 ?_
        obtain ⟨o9, h⟩ := h
        refine JS_callVV (M' := MX3_bringBack) (d' := 2) (As := [.ref 5, .ref 31, .ref 19]) (rest := []) (P := (fun wm9 => (mX3_bringBack s (rfx 165 (a1).toNatClampNeg) (rfx (rfx 165 (a1).toNatClampNeg) 1) (rfx (rfx 165 (a1).toNatClampNeg) 2) (rfx (rfx 165 (a1).toNatClampNeg) 3) 5 31 5 19) = wm9)) dX11_restore_45 cvX11_434 okX3_bringBack rfl (Nat.le_of_ble_eq_true rfl) (ixB hn6) (ix2 hn6) (ixN hn6) hci_3 (Nat.le_of_ble_eq_true rfl) (Nat.le_of_ble_eq_true rfl) (pX3_bringBack hn6 hp_5 hL_31 hk_19  o9 rfl) (fun wm9 hq9 => ?_)
        subst hq9
        obtain ⟨s7, hs7⟩ : ∃ z, z = (mX3_bringBack s (rfx 165 (a1).toNatClampNeg) (rfx (rfx 165 (a1).toNatClampNeg) 1) (rfx (rfx 165 (a1).toNatClampNeg) 2) (rfx (rfx 165 (a1).toNatClampNeg) 3) 5 31 5 19) := ⟨_, rfl⟩
        replace h := h s7 hs7
        rw [← hs7]
        refine JT_aload_n (q := 0) dX11_restore_48 rfl rfl ?_
        refine JS_getR (x := 55) dX11_restore_49 flX11_51 BS_2 (Nat.le_of_ble_eq_true rfl) (Nat.le_of_ble_eq_true rfl) (Or.inl ⟨_, ct_11_7⟩) RF_2_7 ?_
        refine JS_callVV (M' := MX2_forget) (d' := 0) (As := []) (rest := []) (P := (fun wm9 => (mX2_forget s7 ) = wm9)) dX11_restore_52 cvX11_140 okX2_forget rfl (Nat.le_of_ble_eq_true rfl) BS_55 (Nat.le_of_ble_eq_true rfl) (Nat.le_of_ble_eq_true rfl) hci_2 (Nat.le_of_ble_eq_true rfl) (Nat.le_of_ble_eq_true rfl) (pX2_forget    rfl) (fun wm9 hq9 => ?_)
        subst hq9
        refine JT_iconst (v := 1) dX11_restore_55 ic_1 ?_
        exact JS_iret dX11_restore_56 rfl (n01 (Or.inr rfl)) h
      · have h := h.2 hc10
        refine JT_iconst (v := 0) dX11_restore_25 ic_0 ?_
        exact JS_iret dX11_restore_26 rfl (n01 (Or.inl rfl)) h
set_option maxRecDepth 1000000 in
theorem zX11_restore (s : SM) (a1 : Int32) : vX11_restore s a1 = 0 ∨ vX11_restore s a1 = 1 := (i01 (Or.inl rfl) (i01 (Or.inl rfl) (i01 (Or.inl rfl) (Or.inr rfl))))
set_option maxRecDepth 1000000 in
theorem pX11_restore (a1 : Int32) {s : SM} {Q : Int32 → SM → Prop} (hr : rX11_restore s a1) (h : Q (vX11_restore s a1) (mX11_restore s a1)) : KI MX11_restore 3 [.ref 2, .int a1] s Q := by
  refine bX11_restore a1 ?_
  unfold rX11_restore at hr
  unfold vX11_restore mX11_restore at h
  refine ⟨fun c => ?_, fun c => ?_⟩
  · replace h := q2p c h
    first | exact h | contradiction
  · replace hr := hr c
    replace h := q2n c h
    refine ⟨fun c => ?_, fun c => ?_⟩
    · replace h := q2p c h
      first | exact h | contradiction
    · replace hr := hr c
      replace h := q2n c h
      refine ⟨hr.1, ?_⟩
      replace hr := hr.2
      refine ⟨hr.1, ?_⟩
      replace hr := hr.2
      refine ⟨hr.1, ?_⟩
      replace hr := hr.2
      refine ⟨fun c => ?_, fun c => ?_⟩
      · replace hr := hr c
        replace h := q2n c h
        refine ⟨hr.1, ?_⟩
        replace hr := hr.2
        refine ⟨hr.1, ?_⟩
        replace hr := hr.2
        refine ⟨hr.1, ?_⟩
        replace hr := hr.2
        refine ⟨hr, ?_⟩
        intro s7 e9
        try rw [← e9] at h
        try dsimp only at h
        first | exact h | contradiction
      · replace h := q2p c h
        first | exact h | contradiction
set_option maxRecDepth 1000000 in
theorem bX11_skin_23 (a1 : Int32) (a2 : Int32) {s : SM} {Q : Int32 → SM → Prop} (h : (((gI s 31 9) ≤ a2 → Q (gI s 244 0) s) ∧ (¬ (gI s 31 9) ≤ a2 → BI MX11_skin 3 36 [(0, .ref 2), (1, .int a1), (2, .int a2), (3, .int (0 : Int32))] s Q))) : BI MX11_skin 3 23 [(0, .ref 2), (1, .int a1), (2, .int a2)] s Q := by
  refine JT_iload_n (q := 2) dX11_skin_23 rfl rfl ?_
  refine JT_aload_n (q := 0) dX11_skin_24 rfl rfl ?_
  refine JS_getR (x := 31) dX11_skin_25 flX11_41 BS_2 (Nat.le_of_ble_eq_true rfl) (Nat.le_of_ble_eq_true rfl) (Or.inl ⟨_, ct_11_5⟩) RF_2_5 ?_
  refine JS_getI dX11_skin_28 flX11_162 BS_31 (Nat.le_of_ble_eq_true rfl) (Nat.le_of_ble_eq_true rfl) (Or.inl ct_4_9) ?_
  refine JT_icmp_ge (tgt := 72) dX11_skin_31 (by decide) (fun hc1 => ?_) (fun hc1 => ?_)
  · have h := h.1 hc1
    refine JT_aload_n (q := 0) dX11_skin_72 rfl rfl ?_
    refine JS_getR (x := 244) dX11_skin_73 flX11_93 BS_2 (Nat.le_of_ble_eq_true rfl) (Nat.le_of_ble_eq_true rfl) (Or.inl ⟨_, ct_11_13⟩) RF_2_13 ?_
    refine JS_getI dX11_skin_76 flX11_270 BS_244 (Nat.le_of_ble_eq_true rfl) (Nat.le_of_ble_eq_true rfl) (Or.inl ct_10_0) ?_
    exact JS_iret dX11_skin_79 rfl rfl h
  · have h := h.2 hc1
    refine JT_iconst (v := 0) dX11_skin_34 ic_0 ?_
    refine JT_istore_n (lv' := [(3, .int (0 : Int32)), (0, .ref 2), (1, .int a1), (2, .int a2)]) dX11_skin_35 rfl (Nat.le_of_ble_eq_true rfl) rfl ?_
    exact JT_sub [1, 2, 3, 0] rfl h
set_option maxRecDepth 1000000 in
theorem bX11_skin_36 (a1 : Int32) (a2 : Int32) (a3 : Int32) {s : SM} {Q : Int32 → SM → Prop} (h : (((1 : Int32) < a3 → BI MX11_skin 3 23 [(0, .ref 2), (1, .int a1), (2, .int (a2 + 1))] s Q) ∧ (¬ (1 : Int32) < a3 → rX4_bearer s 31 5 a2 a3 ∧ ((¬ (vX4_bearer s 31 5 a2 a3) = a1 → BI MX11_skin 3 36 [(0, .ref 2), (1, .int a1), (2, .int a2), (3, .int (a3 + 1))] s Q) ∧ ((vX4_bearer s 31 5 a2 a3) = a1 → rX11_addMark s a2 a3 ∧ BI MX11_skin 3 36 [(0, .ref 2), (1, .int a1), (2, .int a2), (3, .int (a3 + 1))] (mX11_addMark s a2 a3) Q))))) : BI MX11_skin 3 36 [(0, .ref 2), (1, .int a1), (2, .int a2), (3, .int a3)] s Q := by
  refine JT_iload_n (q := 3) dX11_skin_36 rfl rfl ?_
  refine JT_iconst (v := 1) dX11_skin_37 ic_1 ?_
  refine JT_icmp_gt (tgt := 66) dX11_skin_38 (by decide) (fun hc4 => ?_) (fun hc4 => ?_)
  · have h := h.1 hc4
    refine JT_iinc (q := 2) (v := (a2 + 1)) (lv' := [(2, .int (a2 + 1)), (0, .ref 2), (1, .int a1), (3, .int a3)]) dX11_skin_66 rfl (by rfl) (Nat.le_of_ble_eq_true rfl) rfl ?_
    refine JT_goto (tgt := 23) dX11_skin_69 (by decide) ?_
    exact JT_sub [1, 2, 0] rfl h
  · have h := h.2 hc4
    refine JT_aload_n (q := 0) dX11_skin_41 rfl rfl ?_
    refine JS_getR (x := 31) dX11_skin_42 flX11_41 BS_2 (Nat.le_of_ble_eq_true rfl) (Nat.le_of_ble_eq_true rfl) (Or.inl ⟨_, ct_11_5⟩) RF_2_5 ?_
    refine JT_iload_n (q := 2) dX11_skin_45 rfl rfl ?_
    refine JT_iload_n (q := 3) dX11_skin_46 rfl rfl ?_
    obtain ⟨o3, h⟩ := h
    refine JS_callVI (M' := MX4_bearer) (d' := 0) (As := [.int a2, .int a3]) (rest := []) (P := (fun zv9 wm9 => (vX4_bearer s 31 5 a2 a3) = zv9 ∧ s = wm9)) dX11_skin_47 cvX11_232 okX4_bearer rfl (Nat.le_of_ble_eq_true rfl) BS_31 (Nat.le_of_ble_eq_true rfl) (Nat.le_of_ble_eq_true rfl) hci_4 (Nat.le_of_ble_eq_true rfl) (Nat.le_of_ble_eq_true rfl) (pX4_bearer hL_31 (a2) (a3) o3 ⟨rfl, rfl⟩) (fun zv9 wm9 hq9 => ?_)
    obtain ⟨rfl, rfl⟩ := hq9
    refine JT_iload_n (q := 1) dX11_skin_50 rfl rfl ?_
    refine JT_icmp_ne (tgt := 60) dX11_skin_51 (by decide) (fun hc2 => ?_) (fun hc2 => ?_)
    · have h := h.1 hc2
      refine JT_iinc (q := 3) (v := (a3 + 1)) (lv' := [(3, .int (a3 + 1)), (0, .ref 2), (1, .int a1), (2, .int a2)]) dX11_skin_60 rfl (by rfl) (Nat.le_of_ble_eq_true rfl) rfl ?_
      refine JT_goto (tgt := 36) dX11_skin_63 (by decide) ?_
      exact JT_sub [1, 2, 3, 0] rfl h
    · have h := h.2 hc2
      refine JT_aload_n (q := 0) dX11_skin_54 rfl rfl ?_
      refine JT_iload_n (q := 2) dX11_skin_55 rfl rfl ?_
      refine JT_iload_n (q := 3) dX11_skin_56 rfl rfl ?_
      obtain ⟨o1, h⟩ := h
      refine JS_callVV (M' := MX11_addMark) (d' := 2) (As := [.int a2, .int a3]) (rest := []) (P := (fun wm9 => (mX11_addMark s a2 a3) = wm9)) dX11_skin_57 cvX11_271 okX11_addMark rfl (Nat.le_of_ble_eq_true rfl) BS_2 (Nat.le_of_ble_eq_true rfl) (Nat.le_of_ble_eq_true rfl) hci_11 (Nat.le_of_ble_eq_true rfl) (Nat.le_of_ble_eq_true rfl) (pX11_addMark  (a2) (a3) o1 rfl) (fun wm9 hq9 => ?_)
      subst hq9
      refine JT_iinc (q := 3) (v := (a3 + 1)) (lv' := [(3, .int (a3 + 1)), (0, .ref 2), (1, .int a1), (2, .int a2)]) dX11_skin_60 rfl (by rfl) (Nat.le_of_ble_eq_true rfl) rfl ?_
      refine JT_goto (tgt := 36) dX11_skin_63 (by decide) ?_
      exact JT_sub [1, 2, 3, 0] rfl h
set_option maxRecDepth 1000000 in
theorem bX11_skin (a1 : Int32) {s : SM} {Q : Int32 → SM → Prop} (h : ((¬ (vX6_hasBody s 5 a1) = 0 → BI MX11_skin 3 23 [(0, .ref 2), (1, .int a1), (2, .int (0 : Int32))] (pI s 244 0 (0 : Int32)) Q) ∧ ((vX6_hasBody s 5 a1) = 0 → Q (-1 : Int32) s))) : KI MX11_skin 3 [.ref 2, .int a1] s Q := by
  show BI MX11_skin 3 0 [(0, .ref 2), (1, .int a1)] s Q
  refine JT_aload_n (q := 0) dX11_skin_0 rfl rfl ?_
  refine JS_getR (x := 5) dX11_skin_1 flX11_19 BS_2 (Nat.le_of_ble_eq_true rfl) (Nat.le_of_ble_eq_true rfl) (Or.inl ⟨_, ct_11_1⟩) RF_2_1 ?_
  refine JT_iload_n (q := 1) dX11_skin_4 rfl rfl ?_
  refine JS_callVI (M' := MX6_hasBody) (d' := 0) (As := [.int a1]) (rest := []) (P := (fun zv9 wm9 => (vX6_hasBody s 5 a1) = zv9 ∧ s = wm9)) dX11_skin_5 cvX11_172 okX6_hasBody rfl (Nat.le_of_ble_eq_true rfl) BS_5 (Nat.le_of_ble_eq_true rfl) (Nat.le_of_ble_eq_true rfl) hci_6 (Nat.le_of_ble_eq_true rfl) (Nat.le_of_ble_eq_true rfl) (pX6_hasBody hp_5 (a1)  ⟨rfl, rfl⟩) (fun zv9 wm9 hq9 => ?_)
  obtain ⟨rfl, rfl⟩ := hq9
  refine JT_if_ne (tgt := 13) dX11_skin_8 (by decide) (fun hc1 => ?_) (fun hc1 => ?_)
  · have h := h.1 hc1
    refine JT_aload_n (q := 0) dX11_skin_13 rfl rfl ?_
    refine JS_getR (x := 244) dX11_skin_14 flX11_93 BS_2 (Nat.le_of_ble_eq_true rfl) (Nat.le_of_ble_eq_true rfl) (Or.inl ⟨_, ct_11_13⟩) RF_2_13 ?_
    refine JT_iconst (v := 0) dX11_skin_17 ic_0 ?_
    refine JS_putI dX11_skin_18 flX11_270 BS_244 (Nat.le_of_ble_eq_true rfl) (Nat.le_of_ble_eq_true rfl) ct_10_0 ?_
    refine JT_iconst (v := 0) dX11_skin_21 ic_0 ?_
    refine JT_istore_n (lv' := [(2, .int (0 : Int32)), (0, .ref 2), (1, .int a1)]) dX11_skin_22 rfl (Nat.le_of_ble_eq_true rfl) rfl ?_
    exact JT_sub [1, 2, 0] rfl h
  · have h := h.2 hc1
    refine JT_iconst (v := -1) dX11_skin_11 ic_m1 ?_
    exact JS_iret dX11_skin_12 rfl rfl h
set_option maxRecDepth 1000000 in
theorem gX11_skin  : ∀ n : Nat, (∀ (a1 : Int32) (a2 : Int32) (s : SM) (Q : Int32 → SM → Prop), ((qX11_skin n).1 s a1 a2) → Q ((lX11_skin n).1 s a1 a2).1 ((lX11_skin n).1 s a1 a2).2 → BI MX11_skin 3 23 [(0, .ref 2), (1, .int a1), (2, .int a2)] s Q) ∧ (∀ (a1 : Int32) (a2 : Int32) (a3 : Int32) (s : SM) (Q : Int32 → SM → Prop), ((qX11_skin n).2 s a1 a2 a3) → Q ((lX11_skin n).2 s a1 a2 a3).1 ((lX11_skin n).2 s a1 a2 a3).2 → BI MX11_skin 3 36 [(0, .ref 2), (1, .int a1), (2, .int a2), (3, .int a3)] s Q) := by
  intro n
  induction n with
  | zero => exact ⟨fun _ _ _ _ hq _ => absurd hq id, fun _ _ _ _ _ hq _ => absurd hq id⟩
  | succ n ih =>
    refine ⟨?_, ?_⟩
    · intro a1 a2 s Q hr h
      replace hr : uX11_skin_23 (qX11_skin n) s a1 a2 := hr
      replace h : Q (tX11_skin_23 (lX11_skin n) s a1 a2).1 (tX11_skin_23 (lX11_skin n) s a1 a2).2 := h
      unfold uX11_skin_23 at hr
      unfold tX11_skin_23 at h
      refine bX11_skin_23 a1 a2 ?_
      refine ⟨fun c => ?_, fun c => ?_⟩
      · replace h := q3p c h
        first | exact h | contradiction
      · replace hr := hr c
        replace h := q3n c h
        first | exact ih.2 a1 a2 (0 : Int32) _ Q hr h | contradiction
    · intro a1 a2 a3 s Q hr h
      replace hr : uX11_skin_36 (qX11_skin n) s a1 a2 a3 := hr
      replace h : Q (tX11_skin_36 (lX11_skin n) s a1 a2 a3).1 (tX11_skin_36 (lX11_skin n) s a1 a2 a3).2 := h
      unfold uX11_skin_36 at hr
      unfold tX11_skin_36 at h
      refine bX11_skin_36 a1 a2 a3 ?_
      refine ⟨fun c => ?_, fun c => ?_⟩
      · replace hr := hr.1 c
        replace h := q3p c h
        first | exact ih.1 a1 (a2 + 1) _ Q hr h | contradiction
      · replace hr := hr.2 c
        replace h := q3n c h
        refine ⟨hr.1, ?_⟩
        replace hr := hr.2
        refine ⟨fun c => ?_, fun c => ?_⟩
        · replace hr := hr.1 c
          replace h := q3n c h
          first | exact ih.2 a1 a2 (a3 + 1) _ Q hr h | contradiction
        · replace hr := hr.2 c
          replace h := q3p c h
          refine ⟨hr.1, ?_⟩
          replace hr := hr.2
          first | exact ih.2 a1 a2 (a3 + 1) _ Q hr h | contradiction
set_option maxRecDepth 1000000 in
theorem pX11_skin (a1 : Int32) {s : SM} {Q : Int32 → SM → Prop} (hr : rX11_skin s a1) (h : Q (vX11_skin s a1) (mX11_skin s a1)) : KI MX11_skin 3 [.ref 2, .int a1] s Q := by
  replace h : Q (fX11_skin s a1).1 (fX11_skin s a1).2 := h
  unfold rX11_skin at hr
  unfold fX11_skin at h
  refine bX11_skin a1 ?_
  refine ⟨fun c => ?_, fun c => ?_⟩
  · replace hr := hr c
    replace h := q3n c h
    first | exact (gX11_skin  FU).1 a1 (0 : Int32) _ Q hr h | contradiction
  · replace h := q3p c h
    first | exact h | contradiction
set_option maxRecDepth 1000000 in
theorem bX11_undo  {s : SM} {Q : Int32 → SM → Prop} (h : rX2_takeBack s 31 5 ∧ Q (vX2_takeBack s 31 5) (mX2_takeBack s 31 5)) : KI MX11_undo 3 [.ref 2] s Q := by
  show BI MX11_undo 3 0 [(0, .ref 2)] s Q
  refine JT_aload_n (q := 0) dX11_undo_0 rfl rfl ?_
  refine JS_getR (x := 55) dX11_undo_1 flX11_51 BS_2 (Nat.le_of_ble_eq_true rfl) (Nat.le_of_ble_eq_true rfl) (Or.inl ⟨_, ct_11_7⟩) RF_2_7 ?_
  refine JT_aload_n (q := 0) dX11_undo_4 rfl rfl ?_
  refine JS_getR (x := 31) dX11_undo_5 flX11_41 BS_2 (Nat.le_of_ble_eq_true rfl) (Nat.le_of_ble_eq_true rfl) (Or.inl ⟨_, ct_11_5⟩) RF_2_5 ?_
  obtain ⟨o1, h⟩ := h
  refine JS_callVI (M' := MX2_takeBack) (d' := 2) (As := [.ref 31]) (rest := []) (P := (fun zv9 wm9 => (vX2_takeBack s 31 5) = zv9 ∧ (mX2_takeBack s 31 5) = wm9)) dX11_undo_8 cvX11_333 okX2_takeBack rfl (Nat.le_of_ble_eq_true rfl) BS_55 (Nat.le_of_ble_eq_true rfl) (Nat.le_of_ble_eq_true rfl) hci_2 (Nat.le_of_ble_eq_true rfl) (Nat.le_of_ble_eq_true rfl) (pX2_takeBack hL_31  o1 ⟨rfl, rfl⟩) (fun zv9 wm9 hq9 => ?_)
  obtain ⟨rfl, rfl⟩ := hq9
  exact JS_iret dX11_undo_11 rfl rfl h
set_option maxRecDepth 1000000 in
theorem pX11_undo  {s : SM} {Q : Int32 → SM → Prop} (hr : rX11_undo s ) (h : Q (vX11_undo s ) (mX11_undo s )) : KI MX11_undo 3 [.ref 2] s Q := by
  refine bX11_undo  ?_
  unfold rX11_undo at hr
  unfold vX11_undo mX11_undo at h
  refine ⟨hr, ?_⟩
  first | exact h | contradiction
set_option maxRecDepth 1000000 in
theorem bX11_year  {s : SM} {Q : Int32 → SM → Prop} (h : rX2_note s 31 5 ∧ (((vX4_tryYear (mX2_note s 31 5) 31 5) = 0 → Q (gI (mX2_keepNoted (mX4_tryYear (mX2_note s 31 5) 31 5) ) 31 10) (mX2_keepNoted (mX4_tryYear (mX2_note s 31 5) 31 5) )) ∧ (¬ (vX4_tryYear (mX2_note s 31 5) 31 5) = 0 → Q (-1 : Int32) (mX4_tryYear (mX2_note s 31 5) 31 5)))) : KI MX11_year 3 [.ref 2] s Q := by
  show BI MX11_year 3 0 [(0, .ref 2)] s Q
  refine JT_aload_n (q := 0) dX11_year_0 rfl rfl ?_
  refine JS_getR (x := 55) dX11_year_1 flX11_51 BS_2 (Nat.le_of_ble_eq_true rfl) (Nat.le_of_ble_eq_true rfl) (Or.inl ⟨_, ct_11_7⟩) RF_2_7 ?_
  refine JT_aload_n (q := 0) dX11_year_4 rfl rfl ?_
  refine JS_getR (x := 31) dX11_year_5 flX11_41 BS_2 (Nat.le_of_ble_eq_true rfl) (Nat.le_of_ble_eq_true rfl) (Or.inl ⟨_, ct_11_5⟩) RF_2_5 ?_
  obtain ⟨o4, h⟩ := h
  refine JS_callVV (M' := MX2_note) (d' := 2) (As := [.ref 31]) (rest := []) (P := (fun wm9 => (mX2_note s 31 5) = wm9)) dX11_year_8 cvX11_300 okX2_note rfl (Nat.le_of_ble_eq_true rfl) BS_55 (Nat.le_of_ble_eq_true rfl) (Nat.le_of_ble_eq_true rfl) hci_2 (Nat.le_of_ble_eq_true rfl) (Nat.le_of_ble_eq_true rfl) (pX2_note hL_31  o4 rfl) (fun wm9 hq9 => ?_)
  subst hq9
  refine JT_aload_n (q := 0) dX11_year_11 rfl rfl ?_
  refine JS_getR (x := 31) dX11_year_12 flX11_41 BS_2 (Nat.le_of_ble_eq_true rfl) (Nat.le_of_ble_eq_true rfl) (Or.inl ⟨_, ct_11_5⟩) RF_2_5 ?_
  refine JS_callVI (M' := MX4_tryYear) (d' := 0) (As := []) (rest := []) (P := (fun zv9 wm9 => (vX4_tryYear (mX2_note s 31 5) 31 5) = zv9 ∧ (mX4_tryYear (mX2_note s 31 5) 31 5) = wm9)) dX11_year_15 cvX11_330 okX4_tryYear rfl (Nat.le_of_ble_eq_true rfl) BS_31 (Nat.le_of_ble_eq_true rfl) (Nat.le_of_ble_eq_true rfl) hci_4 (Nat.le_of_ble_eq_true rfl) (Nat.le_of_ble_eq_true rfl) (pX4_tryYear hL_31   ⟨rfl, rfl⟩) (fun zv9 wm9 hq9 => ?_)
  obtain ⟨rfl, rfl⟩ := hq9
  refine JT_if_eq (tgt := 23) dX11_year_18 (by decide) (fun hc2 => ?_) (fun hc2 => ?_)
  · have h := h.1 hc2
    refine JT_aload_n (q := 0) dX11_year_23 rfl rfl ?_
    refine JS_getR (x := 55) dX11_year_24 flX11_51 BS_2 (Nat.le_of_ble_eq_true rfl) (Nat.le_of_ble_eq_true rfl) (Or.inl ⟨_, ct_11_7⟩) RF_2_7 ?_
    refine JS_callVV (M' := MX2_keepNoted) (d' := 1) (As := []) (rest := []) (P := (fun wm9 => (mX2_keepNoted (mX4_tryYear (mX2_note s 31 5) 31 5) ) = wm9)) dX11_year_27 cvX11_308 okX2_keepNoted rfl (Nat.le_of_ble_eq_true rfl) BS_55 (Nat.le_of_ble_eq_true rfl) (Nat.le_of_ble_eq_true rfl) hci_2 (Nat.le_of_ble_eq_true rfl) (Nat.le_of_ble_eq_true rfl) (pX2_keepNoted    rfl) (fun wm9 hq9 => ?_)
    subst hq9
    refine JT_aload_n (q := 0) dX11_year_30 rfl rfl ?_
    refine JS_getR (x := 31) dX11_year_31 flX11_41 BS_2 (Nat.le_of_ble_eq_true rfl) (Nat.le_of_ble_eq_true rfl) (Or.inl ⟨_, ct_11_5⟩) RF_2_5 ?_
    refine JS_getI dX11_year_34 flX11_169 BS_31 (Nat.le_of_ble_eq_true rfl) (Nat.le_of_ble_eq_true rfl) (Or.inl ct_4_10) ?_
    exact JS_iret dX11_year_37 rfl rfl h
  · have h := h.2 hc2
    refine JT_iconst (v := -1) dX11_year_21 ic_m1 ?_
    exact JS_iret dX11_year_22 rfl rfl h
set_option maxRecDepth 1000000 in
theorem pX11_year  {s : SM} {Q : Int32 → SM → Prop} (hr : rX11_year s ) (h : Q (vX11_year s ) (mX11_year s )) : KI MX11_year 3 [.ref 2] s Q := by
  refine bX11_year  ?_
  unfold rX11_year at hr
  unfold vX11_year mX11_year at h
  refine ⟨hr, ?_⟩
  refine ⟨fun c => ?_, fun c => ?_⟩
  · replace h := q2p c h
    first | exact h | contradiction
  · replace h := q2n c h
    first | exact h | contradiction
set_option maxRecDepth 1000000 in
theorem bX12_arePacked_2 (a1 : Int32) (a2 : Int32) (a3 : Int32) {s : SM} {Q : Int32 → SM → Prop} (h : (((gI s 250 ((0 : Int32)).toNatClampNeg) ≤ a3 → BI MX12_arePacked 3 42 [(0, .ref 248), (1, .int a1), (2, .int a2), (3, .int (0 : Int32))] s Q) ∧ (¬ (gI s 250 ((0 : Int32)).toNatClampNeg) ≤ a3 → rX12_leftOf s a3 ∧ vp_in a3 9 ∧ BI MX12_arePacked 3 2 [(0, .ref 248), (1, .int a1), (2, .int a2), (3, .int (a3 + 1))] (pI s 269 (a3).toNatClampNeg ((vX12_leftOf s a3) + (if a3 = a1 then a2 else (0 : Int32)))) Q))) : BI MX12_arePacked 3 2 [(0, .ref 248), (1, .int a1), (2, .int a2), (3, .int a3)] s Q := by
  refine JT_iload_n (q := 3) dX12_arePacked_2 rfl rfl ?_
  refine JT_aload_n (q := 0) dX12_arePacked_3 rfl rfl ?_
  refine JS_getR (x := 250) dX12_arePacked_4 flX12_33 BS_248 (Nat.le_of_ble_eq_true rfl) (Nat.le_of_ble_eq_true rfl) (Or.inr ⟨_, ct_12_6⟩) RF_248_6 ?_
  refine JT_iconst (v := 0) dX12_arePacked_7 ic_0 ?_
  refine JS_iald dX12_arePacked_8 BS_250 (Nat.le_of_ble_eq_true rfl) (Nat.le_of_ble_eq_true rfl) (by unfold vp_in; decide) ?_
  refine JT_icmp_ge (tgt := 40) dX12_arePacked_9 (by decide) (fun hc5 => ?_) (fun hc5 => ?_)
  · have h := h.1 hc5
    refine JT_iconst (v := 0) dX12_arePacked_40 ic_0 ?_
    refine JT_istore_n (lv' := [(3, .int (0 : Int32)), (0, .ref 248), (1, .int a1), (2, .int a2)]) dX12_arePacked_41 rfl (Nat.le_of_ble_eq_true rfl) rfl ?_
    exact JT_sub [1, 2, 3, 0] rfl h
  · have h := h.2 hc5
    refine JT_aload_n (q := 0) dX12_arePacked_12 rfl rfl ?_
    refine JS_getR (x := 269) dX12_arePacked_13 flX12_92 BS_248 (Nat.le_of_ble_eq_true rfl) (Nat.le_of_ble_eq_true rfl) (Or.inr ⟨_, ct_12_44⟩) RF_248_44 ?_
    refine JT_iload_n (q := 3) dX12_arePacked_16 rfl rfl ?_
    refine JT_aload_n (q := 0) dX12_arePacked_17 rfl rfl ?_
    refine JT_iload_n (q := 3) dX12_arePacked_18 rfl rfl ?_
    obtain ⟨o4, h⟩ := h
    refine JS_callVI (M' := MX12_leftOf) (d' := 2) (As := [.int a3]) (rest := [.int a3, .ref 269]) (P := (fun zv9 wm9 => (vX12_leftOf s a3) = zv9 ∧ s = wm9)) dX12_arePacked_19 cvX12_297 okX12_leftOf rfl (Nat.le_of_ble_eq_true rfl) BS_248 (Nat.le_of_ble_eq_true rfl) (Nat.le_of_ble_eq_true rfl) hci_12 (Nat.le_of_ble_eq_true rfl) (Nat.le_of_ble_eq_true rfl) (pX12_leftOf  (a3) o4 ⟨rfl, rfl⟩) (fun zv9 wm9 hq9 => ?_)
    obtain ⟨rfl, rfl⟩ := hq9
    refine JT_iload_n (q := 3) dX12_arePacked_22 rfl rfl ?_
    refine JT_iload_n (q := 1) dX12_arePacked_23 rfl rfl ?_
    have hj2 : ∀ v : Int32, v = (if a3 = a1 then a2 else (0 : Int32)) → JT MX12_arePacked 3 0 0 32 [(0, .ref 248), (1, .int a1), (2, .int a2), (3, .int a3)] [.int v, .int (vX12_leftOf s a3), .int a3, .ref 269] (std s) (KQ Q) := by
      intro v hv
      subst hv
      refine JT_iadd dX12_arePacked_32 ?_
      obtain ⟨o1, h⟩ := h
      refine JS_iast dX12_arePacked_33 BS_269 (Nat.le_of_ble_eq_true rfl) (Nat.le_of_ble_eq_true rfl) o1 ?_
      refine JT_iinc (q := 3) (v := (a3 + 1)) (lv' := [(3, .int (a3 + 1)), (0, .ref 248), (1, .int a1), (2, .int a2)]) dX12_arePacked_34 rfl (by rfl) (Nat.le_of_ble_eq_true rfl) rfl ?_
      refine JT_goto (tgt := 2) dX12_arePacked_37 (by decide) ?_
      exact JT_sub [1, 2, 3, 0] rfl h
    refine JT_icmp_ne (tgt := 31) dX12_arePacked_24 (by decide) (fun hc3 => ?_) (fun hc3 => ?_)
    · refine JT_iconst (v := 0) dX12_arePacked_31 ic_0 ?_
      exact hj2 _ (by rw [if_neg hc3])
    · refine JT_iload_n (q := 2) dX12_arePacked_27 rfl rfl ?_
      refine JT_goto (tgt := 32) dX12_arePacked_28 (by decide) ?_
      exact hj2 _ (by rw [if_pos hc3])
set_option maxRecDepth 1000000 in
theorem bX12_arePacked_42 (a1 : Int32) (a2 : Int32) (a3 : Int32) {s : SM} {Q : Int32 → SM → Prop} (h : (((gI s 248 45) ≤ a3 → BI MX12_arePacked 3 78 [(0, .ref 248), (1, .int a1), (2, .int a2), (3, .int (0 : Int32))] s Q) ∧ (¬ (gI s 248 45) ≤ a3 → vp_in a3 6 ∧ (((4 : Int32) ≤ (gI s 266 (a3).toNatClampNeg) → BI MX12_arePacked 3 42 [(0, .ref 248), (1, .int a1), (2, .int a2), (3, .int (a3 + 1))] s Q) ∧ (¬ (4 : Int32) ≤ (gI s 266 (a3).toNatClampNeg) → rX12_packs s a3 ∧ ((¬ (vX12_packs s a3) = 0 → BI MX12_arePacked 3 42 [(0, .ref 248), (1, .int a1), (2, .int a2), (3, .int (a3 + 1))] (mX12_packs s a3) Q) ∧ ((vX12_packs s a3) = 0 → Q (0 : Int32) (mX12_packs s a3)))))))) : BI MX12_arePacked 3 42 [(0, .ref 248), (1, .int a1), (2, .int a2), (3, .int a3)] s Q := by
  refine JT_iload_n (q := 3) dX12_arePacked_42 rfl rfl ?_
  refine JT_aload_n (q := 0) dX12_arePacked_43 rfl rfl ?_
  refine JS_getI dX12_arePacked_44 flX12_419 BS_248 (Nat.le_of_ble_eq_true rfl) (Nat.le_of_ble_eq_true rfl) (Or.inl ct_12_45) ?_
  refine JT_icmp_ge (tgt := 76) dX12_arePacked_47 (by decide) (fun hc5 => ?_) (fun hc5 => ?_)
  · have h := h.1 hc5
    refine JT_iconst (v := 0) dX12_arePacked_76 ic_0 ?_
    refine JT_istore_n (lv' := [(3, .int (0 : Int32)), (0, .ref 248), (1, .int a1), (2, .int a2)]) dX12_arePacked_77 rfl (Nat.le_of_ble_eq_true rfl) rfl ?_
    exact JT_sub [1, 2, 3, 0] rfl h
  · have h := h.2 hc5
    refine JT_aload_n (q := 0) dX12_arePacked_50 rfl rfl ?_
    refine JS_getR (x := 266) dX12_arePacked_51 flX12_83 BS_248 (Nat.le_of_ble_eq_true rfl) (Nat.le_of_ble_eq_true rfl) (Or.inr ⟨_, ct_12_41⟩) RF_248_41 ?_
    refine JT_iload_n (q := 3) dX12_arePacked_54 rfl rfl ?_
    obtain ⟨o1, h⟩ := h
    refine JS_iald dX12_arePacked_55 BS_266 (Nat.le_of_ble_eq_true rfl) (Nat.le_of_ble_eq_true rfl) o1 ?_
    refine JT_iconst (v := 4) dX12_arePacked_56 ic_4 ?_
    refine JT_icmp_ge (tgt := 70) dX12_arePacked_57 (by decide) (fun hc4 => ?_) (fun hc4 => ?_)
    · have h := h.1 hc4
      refine JT_iinc (q := 3) (v := (a3 + 1)) (lv' := [(3, .int (a3 + 1)), (0, .ref 248), (1, .int a1), (2, .int a2)]) dX12_arePacked_70 rfl (by rfl) (Nat.le_of_ble_eq_true rfl) rfl ?_
      refine JT_goto (tgt := 42) dX12_arePacked_73 (by decide) ?_
      exact JT_sub [1, 2, 3, 0] rfl h
    · have h := h.2 hc4
      refine JT_aload_n (q := 0) dX12_arePacked_60 rfl rfl ?_
      refine JT_iload_n (q := 3) dX12_arePacked_61 rfl rfl ?_
      obtain ⟨o3, h⟩ := h
      refine JS_callVI (M' := MX12_packs) (d' := 2) (As := [.int a3]) (rest := []) (P := (fun zv9 wm9 => (vX12_packs s a3) = zv9 ∧ (mX12_packs s a3) = wm9)) dX12_arePacked_62 cvX12_422 okX12_packs rfl (Nat.le_of_ble_eq_true rfl) BS_248 (Nat.le_of_ble_eq_true rfl) (Nat.le_of_ble_eq_true rfl) hci_12 (Nat.le_of_ble_eq_true rfl) (Nat.le_of_ble_eq_true rfl) (pX12_packs  (a3) o3 ⟨rfl, rfl⟩) (fun zv9 wm9 hq9 => ?_)
      obtain ⟨rfl, rfl⟩ := hq9
      refine JT_if_ne (tgt := 70) dX12_arePacked_65 (by decide) (fun hc2 => ?_) (fun hc2 => ?_)
      · have h := h.1 hc2
        refine JT_iinc (q := 3) (v := (a3 + 1)) (lv' := [(3, .int (a3 + 1)), (0, .ref 248), (1, .int a1), (2, .int a2)]) dX12_arePacked_70 rfl (by rfl) (Nat.le_of_ble_eq_true rfl) rfl ?_
        refine JT_goto (tgt := 42) dX12_arePacked_73 (by decide) ?_
        exact JT_sub [1, 2, 3, 0] rfl h
      · have h := h.2 hc2
        refine JT_iconst (v := 0) dX12_arePacked_68 ic_0 ?_
        exact JS_iret dX12_arePacked_69 rfl (n01 (Or.inl rfl)) h
set_option maxRecDepth 1000000 in
theorem bX12_arePacked_78 (a1 : Int32) (a2 : Int32) (a3 : Int32) {s : SM} {Q : Int32 → SM → Prop} (h : (((gI s 250 ((0 : Int32)).toNatClampNeg) ≤ a3 → Q (1 : Int32) s) ∧ (¬ (gI s 250 ((0 : Int32)).toNatClampNeg) ≤ a3 → vp_in a3 9 ∧ ((0 ≤ (gI s 269 (a3).toNatClampNeg) → BI MX12_arePacked 3 78 [(0, .ref 248), (1, .int a1), (2, .int a2), (3, .int (a3 + 1))] s Q) ∧ (¬ 0 ≤ (gI s 269 (a3).toNatClampNeg) → vp_in a3 9 ∧ rX12_leftOf s a3 ∧ ((((vX12_leftOf s a3) + (if a3 = a1 then a2 else (0 : Int32))) ≤ (gI s 269 (a3).toNatClampNeg) → BI MX12_arePacked 3 78 [(0, .ref 248), (1, .int a1), (2, .int a2), (3, .int (a3 + 1))] s Q) ∧ (¬ ((vX12_leftOf s a3) + (if a3 = a1 then a2 else (0 : Int32))) ≤ (gI s 269 (a3).toNatClampNeg) → Q (0 : Int32) s))))))) : BI MX12_arePacked 3 78 [(0, .ref 248), (1, .int a1), (2, .int a2), (3, .int a3)] s Q := by
  refine JT_iload_n (q := 3) dX12_arePacked_78 rfl rfl ?_
  refine JT_aload_n (q := 0) dX12_arePacked_79 rfl rfl ?_
  refine JS_getR (x := 250) dX12_arePacked_80 flX12_33 BS_248 (Nat.le_of_ble_eq_true rfl) (Nat.le_of_ble_eq_true rfl) (Or.inr ⟨_, ct_12_6⟩) RF_248_6 ?_
  refine JT_iconst (v := 0) dX12_arePacked_83 ic_0 ?_
  refine JS_iald dX12_arePacked_84 BS_250 (Nat.le_of_ble_eq_true rfl) (Nat.le_of_ble_eq_true rfl) (by unfold vp_in; decide) ?_
  refine JT_icmp_ge (tgt := 130) dX12_arePacked_85 (by decide) (fun hc8 => ?_) (fun hc8 => ?_)
  · have h := h.1 hc8
    refine JT_iconst (v := 1) dX12_arePacked_130 ic_1 ?_
    exact JS_iret dX12_arePacked_131 rfl (n01 (Or.inr rfl)) h
  · have h := h.2 hc8
    refine JT_aload_n (q := 0) dX12_arePacked_88 rfl rfl ?_
    refine JS_getR (x := 269) dX12_arePacked_89 flX12_92 BS_248 (Nat.le_of_ble_eq_true rfl) (Nat.le_of_ble_eq_true rfl) (Or.inr ⟨_, ct_12_44⟩) RF_248_44 ?_
    refine JT_iload_n (q := 3) dX12_arePacked_92 rfl rfl ?_
    obtain ⟨o1, h⟩ := h
    refine JS_iald dX12_arePacked_93 BS_269 (Nat.le_of_ble_eq_true rfl) (Nat.le_of_ble_eq_true rfl) o1 ?_
    refine JT_if_ge (tgt := 124) dX12_arePacked_94 (by decide) (fun hc7 => ?_) (fun hc7 => ?_)
    · have h := h.1 hc7
      refine JT_iinc (q := 3) (v := (a3 + 1)) (lv' := [(3, .int (a3 + 1)), (0, .ref 248), (1, .int a1), (2, .int a2)]) dX12_arePacked_124 rfl (by rfl) (Nat.le_of_ble_eq_true rfl) rfl ?_
      refine JT_goto (tgt := 78) dX12_arePacked_127 (by decide) ?_
      exact JT_sub [1, 2, 3, 0] rfl h
    · have h := h.2 hc7
      refine JT_aload_n (q := 0) dX12_arePacked_97 rfl rfl ?_
      refine JS_getR (x := 269) dX12_arePacked_98 flX12_92 BS_248 (Nat.le_of_ble_eq_true rfl) (Nat.le_of_ble_eq_true rfl) (Or.inr ⟨_, ct_12_44⟩) RF_248_44 ?_
      refine JT_iload_n (q := 3) dX12_arePacked_101 rfl rfl ?_
      obtain ⟨o2, h⟩ := h
      refine JS_iald dX12_arePacked_102 BS_269 (Nat.le_of_ble_eq_true rfl) (Nat.le_of_ble_eq_true rfl) o2 ?_
      refine JT_aload_n (q := 0) dX12_arePacked_103 rfl rfl ?_
      refine JT_iload_n (q := 3) dX12_arePacked_104 rfl rfl ?_
      obtain ⟨o6, h⟩ := h
      refine JS_callVI (M' := MX12_leftOf) (d' := 2) (As := [.int a3]) (rest := [.int (gI s 269 (a3).toNatClampNeg)]) (P := (fun zv9 wm9 => (vX12_leftOf s a3) = zv9 ∧ s = wm9)) dX12_arePacked_105 cvX12_297 okX12_leftOf rfl (Nat.le_of_ble_eq_true rfl) BS_248 (Nat.le_of_ble_eq_true rfl) (Nat.le_of_ble_eq_true rfl) hci_12 (Nat.le_of_ble_eq_true rfl) (Nat.le_of_ble_eq_true rfl) (pX12_leftOf  (a3) o6 ⟨rfl, rfl⟩) (fun zv9 wm9 hq9 => ?_)
      obtain ⟨rfl, rfl⟩ := hq9
      refine JT_iload_n (q := 3) dX12_arePacked_108 rfl rfl ?_
      refine JT_iload_n (q := 1) dX12_arePacked_109 rfl rfl ?_
      have hj4 : ∀ v : Int32, v = (if a3 = a1 then a2 else (0 : Int32)) → JT MX12_arePacked 3 0 0 118 [(0, .ref 248), (1, .int a1), (2, .int a2), (3, .int a3)] [.int v, .int (vX12_leftOf s a3), .int (gI s 269 (a3).toNatClampNeg)] (std s) (KQ Q) := by
        intro v hv
        subst hv
        refine JT_iadd dX12_arePacked_118 ?_
        refine JT_icmp_ge (tgt := 124) dX12_arePacked_119 (by decide) (fun hc3 => ?_) (fun hc3 => ?_)
        · have h := h.1 hc3
          refine JT_iinc (q := 3) (v := (a3 + 1)) (lv' := [(3, .int (a3 + 1)), (0, .ref 248), (1, .int a1), (2, .int a2)]) dX12_arePacked_124 rfl (by rfl) (Nat.le_of_ble_eq_true rfl) rfl ?_
          refine JT_goto (tgt := 78) dX12_arePacked_127 (by decide) ?_
          exact JT_sub [1, 2, 3, 0] rfl h
        · have h := h.2 hc3
          refine JT_iconst (v := 0) dX12_arePacked_122 ic_0 ?_
          exact JS_iret dX12_arePacked_123 rfl (n01 (Or.inl rfl)) h
      refine JT_icmp_ne (tgt := 117) dX12_arePacked_110 (by decide) (fun hc5 => ?_) (fun hc5 => ?_)
      · refine JT_iconst (v := 0) dX12_arePacked_117 ic_0 ?_
        exact hj4 _ (by rw [if_neg hc5])
      · refine JT_iload_n (q := 2) dX12_arePacked_113 rfl rfl ?_
        refine JT_goto (tgt := 118) dX12_arePacked_114 (by decide) ?_
        exact hj4 _ (by rw [if_pos hc5])
set_option maxRecDepth 1000000 in
theorem bX12_arePacked (a1 : Int32) (a2 : Int32) {s : SM} {Q : Int32 → SM → Prop} (h : BI MX12_arePacked 3 2 [(0, .ref 248), (1, .int a1), (2, .int a2), (3, .int (0 : Int32))] s Q) : KI MX12_arePacked 3 [.ref 248, .int a1, .int a2] s Q := by
  show BI MX12_arePacked 3 0 [(0, .ref 248), (1, .int a1), (2, .int a2)] s Q
  refine JT_iconst (v := 0) dX12_arePacked_0 ic_0 ?_
  refine JT_istore_n (lv' := [(3, .int (0 : Int32)), (0, .ref 248), (1, .int a1), (2, .int a2)]) dX12_arePacked_1 rfl (Nat.le_of_ble_eq_true rfl) rfl ?_
  exact JT_sub [1, 2, 3, 0] rfl h
set_option maxRecDepth 1000000 in
theorem gX12_arePacked  : ∀ n : Nat, (∀ (a1 : Int32) (a2 : Int32) (a3 : Int32) (s : SM) (Q : Int32 → SM → Prop), ((qX12_arePacked n).1 s a1 a2 a3) → Q ((lX12_arePacked n).1 s a1 a2 a3).1 ((lX12_arePacked n).1 s a1 a2 a3).2 → BI MX12_arePacked 3 2 [(0, .ref 248), (1, .int a1), (2, .int a2), (3, .int a3)] s Q) ∧ (∀ (a1 : Int32) (a2 : Int32) (a3 : Int32) (s : SM) (Q : Int32 → SM → Prop), ((qX12_arePacked n).2.1 s a1 a2 a3) → Q ((lX12_arePacked n).2.1 s a1 a2 a3).1 ((lX12_arePacked n).2.1 s a1 a2 a3).2 → BI MX12_arePacked 3 42 [(0, .ref 248), (1, .int a1), (2, .int a2), (3, .int a3)] s Q) ∧ (∀ (a1 : Int32) (a2 : Int32) (a3 : Int32) (s : SM) (Q : Int32 → SM → Prop), ((qX12_arePacked n).2.2 s a1 a2 a3) → Q ((lX12_arePacked n).2.2 s a1 a2 a3).1 ((lX12_arePacked n).2.2 s a1 a2 a3).2 → BI MX12_arePacked 3 78 [(0, .ref 248), (1, .int a1), (2, .int a2), (3, .int a3)] s Q) := by
  intro n
  induction n with
  | zero => exact ⟨fun _ _ _ _ _ hq _ => absurd hq id, fun _ _ _ _ _ hq _ => absurd hq id, fun _ _ _ _ _ hq _ => absurd hq id⟩
  | succ n ih =>
    refine ⟨?_, ?_, ?_⟩
    · intro a1 a2 a3 s Q hr h
      replace hr : uX12_arePacked_2 (qX12_arePacked n) s a1 a2 a3 := hr
      replace h : Q (tX12_arePacked_2 (lX12_arePacked n) s a1 a2 a3).1 (tX12_arePacked_2 (lX12_arePacked n) s a1 a2 a3).2 := h
      unfold uX12_arePacked_2 at hr
      unfold tX12_arePacked_2 at h
      refine bX12_arePacked_2 a1 a2 a3 ?_
      refine ⟨fun c => ?_, fun c => ?_⟩
      · replace hr := hr.1 c
        replace h := q3p c h
        first | exact ih.2.1 a1 a2 (0 : Int32) _ Q hr h | contradiction
      · replace hr := hr.2 c
        replace h := q3n c h
        refine ⟨hr.1, ?_⟩
        replace hr := hr.2
        refine ⟨hr.1, ?_⟩
        replace hr := hr.2
        first | exact ih.1 a1 a2 (a3 + 1) _ Q hr h | contradiction
    · intro a1 a2 a3 s Q hr h
      replace hr : uX12_arePacked_42 (qX12_arePacked n) s a1 a2 a3 := hr
      replace h : Q (tX12_arePacked_42 (lX12_arePacked n) s a1 a2 a3).1 (tX12_arePacked_42 (lX12_arePacked n) s a1 a2 a3).2 := h
      unfold uX12_arePacked_42 at hr
      unfold tX12_arePacked_42 at h
      refine bX12_arePacked_42 a1 a2 a3 ?_
      refine ⟨fun c => ?_, fun c => ?_⟩
      · replace hr := hr.1 c
        replace h := q3p c h
        first | exact ih.2.2 a1 a2 (0 : Int32) _ Q hr h | contradiction
      · replace hr := hr.2 c
        replace h := q3n c h
        refine ⟨hr.1, ?_⟩
        replace hr := hr.2
        refine ⟨fun c => ?_, fun c => ?_⟩
        · replace hr := hr.1 c
          replace h := q3p c h
          first | exact ih.2.1 a1 a2 (a3 + 1) _ Q hr h | contradiction
        · replace hr := hr.2 c
          replace h := q3n c h
          refine ⟨hr.1, ?_⟩
          replace hr := hr.2
          refine ⟨fun c => ?_, fun c => ?_⟩
          · replace hr := hr c
            replace h := q3n c h
            first | exact ih.2.1 a1 a2 (a3 + 1) _ Q hr h | contradiction
          · replace h := q3p c h
            first | exact h | contradiction
    · intro a1 a2 a3 s Q hr h
      replace hr : uX12_arePacked_78 (qX12_arePacked n) s a1 a2 a3 := hr
      replace h : Q (tX12_arePacked_78 (lX12_arePacked n) s a1 a2 a3).1 (tX12_arePacked_78 (lX12_arePacked n) s a1 a2 a3).2 := h
      unfold uX12_arePacked_78 at hr
      unfold tX12_arePacked_78 at h
      refine bX12_arePacked_78 a1 a2 a3 ?_
      refine ⟨fun c => ?_, fun c => ?_⟩
      · replace h := q3p c h
        first | exact h | contradiction
      · replace hr := hr c
        replace h := q3n c h
        refine ⟨hr.1, ?_⟩
        replace hr := hr.2
        refine ⟨fun c => ?_, fun c => ?_⟩
        · replace hr := hr.1 c
          replace h := q3p c h
          first | exact ih.2.2 a1 a2 (a3 + 1) _ Q hr h | contradiction
        · replace hr := hr.2 c
          replace h := q3n c h
          refine ⟨hr.1, ?_⟩
          replace hr := hr.2
          refine ⟨hr.1, ?_⟩
          replace hr := hr.2
          refine ⟨fun c => ?_, fun c => ?_⟩
          · replace hr := hr c
            replace h := q3p c h
            first | exact ih.2.2 a1 a2 (a3 + 1) _ Q hr h | contradiction
          · replace h := q3n c h
            first | exact h | contradiction
set_option maxRecDepth 1000000 in
theorem pX12_arePacked (a1 : Int32) (a2 : Int32) {s : SM} {Q : Int32 → SM → Prop} (hr : rX12_arePacked s a1 a2) (h : Q (vX12_arePacked s a1 a2) (mX12_arePacked s a1 a2)) : KI MX12_arePacked 3 [.ref 248, .int a1, .int a2] s Q := by
  replace h : Q (fX12_arePacked s a1 a2).1 (fX12_arePacked s a1 a2).2 := h
  unfold rX12_arePacked at hr
  unfold fX12_arePacked at h
  refine bX12_arePacked a1 a2 ?_
  first | exact (gX12_arePacked  FU).1 a1 a2 (0 : Int32) _ Q hr h | contradiction
set_option maxRecDepth 1000000 in
theorem bX12_bearerOf (a1 : Int32) (a2 : Int32) (a3 : Int32) {s : SM} {Q : Int32 → SM → Prop} (h : rX12_leftOf s a1 ∧ ((((vX12_leftOf s a1) - (if a1 = a3 then a2 else (0 : Int32))) < a2 → vp_in ((13 : Int32) + a1) 787 ∧ (((gI s 250 (((13 : Int32) + a1)).toNatClampNeg) < 0 → Q (-1 : Int32) s) ∧ (¬ (gI s 250 (((13 : Int32) + a1)).toNatClampNeg) < 0 → (((vX12_isLiving s (gI s 250 (((13 : Int32) + a1)).toNatClampNeg)) = 0 → Q (-1 : Int32) s) ∧ (¬ (vX12_isLiving s (gI s 250 (((13 : Int32) + a1)).toNatClampNeg)) = 0 → rX12_leftOf s (gI s 250 (((13 : Int32) + a1)).toNatClampNeg) ∧ Q (if ((vX12_leftOf s (gI s 250 (((13 : Int32) + a1)).toNatClampNeg)) - (if (gI s 250 (((13 : Int32) + a1)).toNatClampNeg) = a3 then a2 else (0 : Int32))) < a2 then (-1 : Int32) else (gI s 250 (((13 : Int32) + a1)).toNatClampNeg)) s))))) ∧ (¬ ((vX12_leftOf s a1) - (if a1 = a3 then a2 else (0 : Int32))) < a2 → Q a1 s))) : KI MX12_bearerOf 3 [.ref 248, .int a1, .int a2, .int a3] s Q := by
  show BI MX12_bearerOf 3 0 [(0, .ref 248), (1, .int a1), (2, .int a2), (3, .int a3)] s Q
  refine JT_aload_n (q := 0) dX12_bearerOf_0 rfl rfl ?_
  refine JT_iload_n (q := 1) dX12_bearerOf_1 rfl rfl ?_
  obtain ⟨o13, h⟩ := h
  refine JS_callVI (M' := MX12_leftOf) (d' := 2) (As := [.int a1]) (rest := []) (P := (fun zv9 wm9 => (vX12_leftOf s a1) = zv9 ∧ s = wm9)) dX12_bearerOf_2 cvX12_297 okX12_leftOf rfl (Nat.le_of_ble_eq_true rfl) BS_248 (Nat.le_of_ble_eq_true rfl) (Nat.le_of_ble_eq_true rfl) hci_12 (Nat.le_of_ble_eq_true rfl) (Nat.le_of_ble_eq_true rfl) (pX12_leftOf  (a1) o13 ⟨rfl, rfl⟩) (fun zv9 wm9 hq9 => ?_)
  obtain ⟨rfl, rfl⟩ := hq9
  refine JT_iload_n (q := 1) dX12_bearerOf_5 rfl rfl ?_
  refine JT_iload_n (q := 3) dX12_bearerOf_6 rfl rfl ?_
  have hj11 : ∀ v : Int32, v = (if a1 = a3 then a2 else (0 : Int32)) → JT MX12_bearerOf 3 0 0 15 [(0, .ref 248), (1, .int a1), (2, .int a2), (3, .int a3)] [.int v, .int (vX12_leftOf s a1)] (std s) (KQ Q) := by
    intro v hv
    subst hv
    refine JT_isub dX12_bearerOf_15 ?_
    refine JT_iload_n (q := 2) dX12_bearerOf_16 rfl rfl ?_
    refine JT_icmp_lt (tgt := 22) dX12_bearerOf_17 (by decide) (fun hc10 => ?_) (fun hc10 => ?_)
    · have h := h.1 hc10
      refine JT_aload_n (q := 0) dX12_bearerOf_22 rfl rfl ?_
      refine JS_getR (x := 250) dX12_bearerOf_23 flX12_33 BS_248 (Nat.le_of_ble_eq_true rfl) (Nat.le_of_ble_eq_true rfl) (Or.inr ⟨_, ct_12_6⟩) RF_248_6 ?_
      refine JT_bipush (v := 13) dX12_bearerOf_26 bp_13 ?_
      refine JT_iload_n (q := 1) dX12_bearerOf_28 rfl rfl ?_
      refine JT_iadd dX12_bearerOf_29 ?_
      obtain ⟨o1, h⟩ := h
      refine JS_iald dX12_bearerOf_30 BS_250 (Nat.le_of_ble_eq_true rfl) (Nat.le_of_ble_eq_true rfl) o1 ?_
      refine JT_istore (lv' := [(4, .int (gI s 250 (((13 : Int32) + a1)).toNatClampNeg)), (0, .ref 248), (1, .int a1), (2, .int a2), (3, .int a3)]) dX12_bearerOf_31 (Nat.le_of_ble_eq_true rfl) rfl ?_
      refine JT_iload (q := 0) dX12_bearerOf_33 rfl ?_
      refine JT_if_lt (tgt := 74) dX12_bearerOf_35 (by decide) (fun hc9 => ?_) (fun hc9 => ?_)
      · have h := h.1 hc9
        refine JT_iconst (v := -1) dX12_bearerOf_74 ic_m1 ?_
        exact JS_iret dX12_bearerOf_75 rfl rfl h
      · have h := h.2 hc9
        refine JT_aload_n (q := 1) dX12_bearerOf_38 rfl rfl ?_
        refine JT_iload (q := 0) dX12_bearerOf_39 rfl ?_
        refine JS_callVI (M' := MX12_isLiving) (d' := 1) (As := [.int (gI s 250 (((13 : Int32) + a1)).toNatClampNeg)]) (rest := []) (P := (fun zv9 wm9 => (vX12_isLiving s (gI s 250 (((13 : Int32) + a1)).toNatClampNeg)) = zv9 ∧ s = wm9)) dX12_bearerOf_41 cvX12_294 okX12_isLiving rfl (Nat.le_of_ble_eq_true rfl) BS_248 (Nat.le_of_ble_eq_true rfl) (Nat.le_of_ble_eq_true rfl) hci_12 (Nat.le_of_ble_eq_true rfl) (Nat.le_of_ble_eq_true rfl) (pX12_isLiving  ((gI s 250 (((13 : Int32) + a1)).toNatClampNeg))  ⟨rfl, rfl⟩) (fun zv9 wm9 hq9 => ?_)
        obtain ⟨rfl, rfl⟩ := hq9
        refine JT_if_eq (tgt := 74) dX12_bearerOf_44 (by decide) (fun hc7 => ?_) (fun hc7 => ?_)
        · have h := h.1 hc7
          refine JT_iconst (v := -1) dX12_bearerOf_74 ic_m1 ?_
          exact JS_iret dX12_bearerOf_75 rfl rfl h
        · have h := h.2 hc7
          refine JT_aload_n (q := 1) dX12_bearerOf_47 rfl rfl ?_
          refine JT_iload (q := 0) dX12_bearerOf_48 rfl ?_
          obtain ⟨o6, h⟩ := h
          refine JS_callVI (M' := MX12_leftOf) (d' := 2) (As := [.int (gI s 250 (((13 : Int32) + a1)).toNatClampNeg)]) (rest := []) (P := (fun zv9 wm9 => (vX12_leftOf s (gI s 250 (((13 : Int32) + a1)).toNatClampNeg)) = zv9 ∧ s = wm9)) dX12_bearerOf_50 cvX12_297 okX12_leftOf rfl (Nat.le_of_ble_eq_true rfl) BS_248 (Nat.le_of_ble_eq_true rfl) (Nat.le_of_ble_eq_true rfl) hci_12 (Nat.le_of_ble_eq_true rfl) (Nat.le_of_ble_eq_true rfl) (pX12_leftOf  ((gI s 250 (((13 : Int32) + a1)).toNatClampNeg)) o6 ⟨rfl, rfl⟩) (fun zv9 wm9 hq9 => ?_)
          obtain ⟨rfl, rfl⟩ := hq9
          refine JT_iload (q := 0) dX12_bearerOf_53 rfl ?_
          refine JT_iload_n (q := 4) dX12_bearerOf_55 rfl rfl ?_
          have hj4 : ∀ v : Int32, v = (if (gI s 250 (((13 : Int32) + a1)).toNatClampNeg) = a3 then a2 else (0 : Int32)) → JT MX12_bearerOf 3 0 0 64 [(4, .int (gI s 250 (((13 : Int32) + a1)).toNatClampNeg)), (0, .ref 248), (1, .int a1), (2, .int a2), (3, .int a3)] [.int v, .int (vX12_leftOf s (gI s 250 (((13 : Int32) + a1)).toNatClampNeg))] (std s) (KQ Q) := by
            intro v hv
            subst hv
            refine JT_isub dX12_bearerOf_64 ?_
            refine JT_iload_n (q := 3) dX12_bearerOf_65 rfl rfl ?_
            have hj2 : ∀ v : Int32, v = (if ((vX12_leftOf s (gI s 250 (((13 : Int32) + a1)).toNatClampNeg)) - (if (gI s 250 (((13 : Int32) + a1)).toNatClampNeg) = a3 then a2 else (0 : Int32))) < a2 then (-1 : Int32) else (gI s 250 (((13 : Int32) + a1)).toNatClampNeg)) → JT MX12_bearerOf 3 0 0 75 [(4, .int (gI s 250 (((13 : Int32) + a1)).toNatClampNeg)), (0, .ref 248), (1, .int a1), (2, .int a2), (3, .int a3)] [.int v] (std s) (KQ Q) := by
              intro v hv
              subst hv
              exact JS_iret dX12_bearerOf_75 rfl rfl h
            refine JT_icmp_lt (tgt := 74) dX12_bearerOf_66 (by decide) (fun hc3 => ?_) (fun hc3 => ?_)
            · refine JT_iconst (v := -1) dX12_bearerOf_74 ic_m1 ?_
              exact hj2 _ (by rw [if_pos hc3])
            · refine JT_iload (q := 0) dX12_bearerOf_69 rfl ?_
              refine JT_goto (tgt := 75) dX12_bearerOf_71 (by decide) ?_
              exact hj2 _ (by rw [if_neg hc3])
          refine JT_icmp_ne (tgt := 63) dX12_bearerOf_56 (by decide) (fun hc5 => ?_) (fun hc5 => ?_)
          · refine JT_iconst (v := 0) dX12_bearerOf_63 ic_0 ?_
            exact hj4 _ (by rw [if_neg hc5])
          · refine JT_iload_n (q := 3) dX12_bearerOf_59 rfl rfl ?_
            refine JT_goto (tgt := 64) dX12_bearerOf_60 (by decide) ?_
            exact hj4 _ (by rw [if_pos hc5])
    · have h := h.2 hc10
      refine JT_iload_n (q := 1) dX12_bearerOf_20 rfl rfl ?_
      exact JS_iret dX12_bearerOf_21 rfl rfl h
  refine JT_icmp_ne (tgt := 14) dX12_bearerOf_7 (by decide) (fun hc12 => ?_) (fun hc12 => ?_)
  · refine JT_iconst (v := 0) dX12_bearerOf_14 ic_0 ?_
    exact hj11 _ (by rw [if_neg hc12])
  · refine JT_iload_n (q := 2) dX12_bearerOf_10 rfl rfl ?_
    refine JT_goto (tgt := 15) dX12_bearerOf_11 (by decide) ?_
    exact hj11 _ (by rw [if_pos hc12])
set_option maxRecDepth 1000000 in
theorem pX12_bearerOf (a1 : Int32) (a2 : Int32) (a3 : Int32) {s : SM} {Q : Int32 → SM → Prop} (hr : rX12_bearerOf s a1 a2 a3) (h : Q (vX12_bearerOf s a1 a2 a3) s) : KI MX12_bearerOf 3 [.ref 248, .int a1, .int a2, .int a3] s Q := by
  refine bX12_bearerOf a1 a2 a3 ?_
  unfold rX12_bearerOf at hr
  unfold vX12_bearerOf at h
  refine ⟨hr.1, ?_⟩
  replace hr := hr.2
  refine ⟨fun c => ?_, fun c => ?_⟩
  · replace hr := hr c
    replace h := qlp c h
    refine ⟨hr.1, ?_⟩
    replace hr := hr.2
    refine ⟨fun c => ?_, fun c => ?_⟩
    · replace h := qlp c h
      first | exact h | contradiction
    · replace hr := hr c
      replace h := qln c h
      refine ⟨fun c => ?_, fun c => ?_⟩
      · replace h := qlp c h
        first | exact h | contradiction
      · replace hr := hr c
        replace h := qln c h
        refine ⟨hr, ?_⟩
        first | exact h | contradiction
  · replace h := qln c h
    first | exact h | contradiction
set_option maxRecDepth 1000000 in
theorem bX12_between_34 (a1 : Int32) (a2 : Int32) (a3 : Int32) (a4 : Int32) (a5 : Int32) {s : SM} {Q : Int32 → SM → Prop} (h : (((gI s 250 ((34 : Int32)).toNatClampNeg) ≤ a5 → Q (if a3 = (-1 : Int32) then a4 else (-1 : Int32)) s) ∧ (¬ (gI s 250 ((34 : Int32)).toNatClampNeg) ≤ a5 → rX12_isOpen s a5 ∧ (((vX12_isOpen s a5) = 0 → BI MX12_between 3 34 [(0, .ref 248), (1, .int a1), (2, .int a2), (3, .int a3), (4, .int a4), (5, .int (a5 + 1))] s Q) ∧ (¬ (vX12_isOpen s a5) = 0 → rX12_of s a5 (0 : Int32) ∧ ((¬ (vX12_of s a5 (0 : Int32)) = a1 → BI MX12_between 3 34 [(0, .ref 248), (1, .int a1), (2, .int a2), (3, .int a3), (4, .int a4), (5, .int (a5 + 1))] s Q) ∧ ((vX12_of s a5 (0 : Int32)) = a1 → rX12_of s a5 (1 : Int32) ∧ (((vX12_of s a5 (1 : Int32)) = a2 → ((¬ a4 = a3 → BI MX12_between 3 34 [(0, .ref 248), (1, .int a1), (2, .int a2), (3, .int a3), (4, .int (a4 + 1)), (5, .int (a5 + 1))] s Q) ∧ (a4 = a3 → Q a5 s))) ∧ (¬ (vX12_of s a5 (1 : Int32)) = a2 → BI MX12_between 3 34 [(0, .ref 248), (1, .int a1), (2, .int a2), (3, .int a3), (4, .int a4), (5, .int (a5 + 1))] s Q))))))))) : BI MX12_between 3 34 [(0, .ref 248), (1, .int a1), (2, .int a2), (3, .int a3), (4, .int a4), (5, .int a5)] s Q := by
  refine JT_iload (q := 5) dX12_between_34 rfl ?_
  refine JT_aload_n (q := 0) dX12_between_36 rfl rfl ?_
  refine JS_getR (x := 250) dX12_between_37 flX12_33 BS_248 (Nat.le_of_ble_eq_true rfl) (Nat.le_of_ble_eq_true rfl) (Or.inr ⟨_, ct_12_6⟩) RF_248_6 ?_
  refine JT_bipush (v := 34) dX12_between_40 bp_34 ?_
  refine JS_iald dX12_between_42 BS_250 (Nat.le_of_ble_eq_true rfl) (Nat.le_of_ble_eq_true rfl) (by unfold vp_in; decide) ?_
  refine JT_icmp_ge (tgt := 98) dX12_between_43 (by decide) (fun hc10 => ?_) (fun hc10 => ?_)
  · have h := h.1 hc10
    refine JT_iload_n (q := 3) dX12_between_98 rfl rfl ?_
    refine JT_iconst (v := -1) dX12_between_99 ic_m1 ?_
    have hj1 : ∀ v : Int32, v = (if a3 = (-1 : Int32) then a4 else (-1 : Int32)) → JT MX12_between 3 0 0 109 [(0, .ref 248), (1, .int a1), (2, .int a2), (3, .int a3), (4, .int a4), (5, .int a5)] [.int v] (std s) (KQ Q) := by
      intro v hv
      subst hv
      exact JS_iret dX12_between_109 rfl rfl h
    refine JT_icmp_ne (tgt := 108) dX12_between_100 (by decide) (fun hc2 => ?_) (fun hc2 => ?_)
    · refine JT_iconst (v := -1) dX12_between_108 ic_m1 ?_
      exact hj1 _ (by rw [if_neg hc2])
    · refine JT_iload (q := 4) dX12_between_103 rfl ?_
      refine JT_goto (tgt := 109) dX12_between_105 (by decide) ?_
      exact hj1 _ (by rw [if_pos hc2])
  · have h := h.2 hc10
    refine JT_aload_n (q := 0) dX12_between_46 rfl rfl ?_
    refine JT_iload (q := 5) dX12_between_47 rfl ?_
    obtain ⟨o9, h⟩ := h
    refine JS_callVI (M' := MX12_isOpen) (d' := 2) (As := [.int a5]) (rest := []) (P := (fun zv9 wm9 => (vX12_isOpen s a5) = zv9 ∧ s = wm9)) dX12_between_49 cvX12_278 okX12_isOpen rfl (Nat.le_of_ble_eq_true rfl) BS_248 (Nat.le_of_ble_eq_true rfl) (Nat.le_of_ble_eq_true rfl) hci_12 (Nat.le_of_ble_eq_true rfl) (Nat.le_of_ble_eq_true rfl) (pX12_isOpen  (a5) o9 ⟨rfl, rfl⟩) (fun zv9 wm9 hq9 => ?_)
    obtain ⟨rfl, rfl⟩ := hq9
    refine JT_if_eq (tgt := 92) dX12_between_52 (by decide) (fun hc8 => ?_) (fun hc8 => ?_)
    · have h := h.1 hc8
      refine JT_iinc (q := 5) (v := (a5 + 1)) (lv' := [(5, .int (a5 + 1)), (0, .ref 248), (1, .int a1), (2, .int a2), (3, .int a3), (4, .int a4)]) dX12_between_92 rfl (by rfl) (Nat.le_of_ble_eq_true rfl) rfl ?_
      refine JT_goto (tgt := 34) dX12_between_95 (by decide) ?_
      exact JT_sub [1, 2, 3, 4, 5, 0] rfl h
    · have h := h.2 hc8
      refine JT_aload_n (q := 0) dX12_between_55 rfl rfl ?_
      refine JT_iload (q := 5) dX12_between_56 rfl ?_
      refine JT_iconst (v := 0) dX12_between_58 ic_0 ?_
      obtain ⟨o7, h⟩ := h
      refine JS_callVI (M' := MX12_of) (d' := 0) (As := [.int a5, .int (0 : Int32)]) (rest := []) (P := (fun zv9 wm9 => (vX12_of s a5 (0 : Int32)) = zv9 ∧ s = wm9)) dX12_between_59 cvX12_265 okX12_of rfl (Nat.le_of_ble_eq_true rfl) BS_248 (Nat.le_of_ble_eq_true rfl) (Nat.le_of_ble_eq_true rfl) hci_12 (Nat.le_of_ble_eq_true rfl) (Nat.le_of_ble_eq_true rfl) (pX12_of  (a5) ((0 : Int32)) o7 ⟨rfl, rfl⟩) (fun zv9 wm9 hq9 => ?_)
      obtain ⟨rfl, rfl⟩ := hq9
      refine JT_iload_n (q := 1) dX12_between_62 rfl rfl ?_
      refine JT_icmp_ne (tgt := 92) dX12_between_63 (by decide) (fun hc6 => ?_) (fun hc6 => ?_)
      · have h := h.1 hc6
        refine JT_iinc (q := 5) (v := (a5 + 1)) (lv' := [(5, .int (a5 + 1)), (0, .ref 248), (1, .int a1), (2, .int a2), (3, .int a3), (4, .int a4)]) dX12_between_92 rfl (by rfl) (Nat.le_of_ble_eq_true rfl) rfl ?_
        refine JT_goto (tgt := 34) dX12_between_95 (by decide) ?_
        exact JT_sub [1, 2, 3, 4, 5, 0] rfl h
      · have h := h.2 hc6
        refine JT_aload_n (q := 0) dX12_between_66 rfl rfl ?_
        refine JT_iload (q := 5) dX12_between_67 rfl ?_
        refine JT_iconst (v := 1) dX12_between_69 ic_1 ?_
        obtain ⟨o5, h⟩ := h
        refine JS_callVI (M' := MX12_of) (d' := 0) (As := [.int a5, .int (1 : Int32)]) (rest := []) (P := (fun zv9 wm9 => (vX12_of s a5 (1 : Int32)) = zv9 ∧ s = wm9)) dX12_between_70 cvX12_265 okX12_of rfl (Nat.le_of_ble_eq_true rfl) BS_248 (Nat.le_of_ble_eq_true rfl) (Nat.le_of_ble_eq_true rfl) hci_12 (Nat.le_of_ble_eq_true rfl) (Nat.le_of_ble_eq_true rfl) (pX12_of  (a5) ((1 : Int32)) o5 ⟨rfl, rfl⟩) (fun zv9 wm9 hq9 => ?_)
        obtain ⟨rfl, rfl⟩ := hq9
        refine JT_iload_n (q := 2) dX12_between_73 rfl rfl ?_
        refine JT_icmp_eq (tgt := 80) dX12_between_74 (by decide) (fun hc4 => ?_) (fun hc4 => ?_)
        · have h := h.1 hc4
          refine JT_iload (q := 4) dX12_between_80 rfl ?_
          refine JT_iload_n (q := 3) dX12_between_82 rfl rfl ?_
          refine JT_icmp_ne (tgt := 89) dX12_between_83 (by decide) (fun hc3 => ?_) (fun hc3 => ?_)
          · have h := h.1 hc3
            refine JT_iinc (q := 4) (v := (a4 + 1)) (lv' := [(4, .int (a4 + 1)), (0, .ref 248), (1, .int a1), (2, .int a2), (3, .int a3), (5, .int a5)]) dX12_between_89 rfl (by rfl) (Nat.le_of_ble_eq_true rfl) rfl ?_
            refine JT_iinc (q := 5) (v := (a5 + 1)) (lv' := [(5, .int (a5 + 1)), (4, .int (a4 + 1)), (0, .ref 248), (1, .int a1), (2, .int a2), (3, .int a3)]) dX12_between_92 rfl (by rfl) (Nat.le_of_ble_eq_true rfl) rfl ?_
            refine JT_goto (tgt := 34) dX12_between_95 (by decide) ?_
            exact JT_sub [2, 3, 4, 5, 1, 0] rfl h
          · have h := h.2 hc3
            refine JT_iload (q := 5) dX12_between_86 rfl ?_
            exact JS_iret dX12_between_88 rfl rfl h
        · have h := h.2 hc4
          refine JT_goto (tgt := 92) dX12_between_77 (by decide) ?_
          refine JT_iinc (q := 5) (v := (a5 + 1)) (lv' := [(5, .int (a5 + 1)), (0, .ref 248), (1, .int a1), (2, .int a2), (3, .int a3), (4, .int a4)]) dX12_between_92 rfl (by rfl) (Nat.le_of_ble_eq_true rfl) rfl ?_
          refine JT_goto (tgt := 34) dX12_between_95 (by decide) ?_
          exact JT_sub [1, 2, 3, 4, 5, 0] rfl h
set_option maxRecDepth 1000000 in
theorem bX12_between (a1 : Int32) (a2 : Int32) (a3 : Int32) {s : SM} {Q : Int32 → SM → Prop} (h : (((vX12_isBody (pI s 248 0 (0 : Int32)) a1) = 0 → Q (-1 : Int32) (pI s 248 0 (0 : Int32))) ∧ (¬ (vX12_isBody (pI s 248 0 (0 : Int32)) a1) = 0 → (((vX12_isBody (pI s 248 0 (0 : Int32)) a2) = 0 → Q (-1 : Int32) (pI s 248 0 (0 : Int32))) ∧ (¬ (vX12_isBody (pI s 248 0 (0 : Int32)) a2) = 0 → (((-1 : Int32) ≤ a3 → BI MX12_between 3 34 [(0, .ref 248), (1, .int a1), (2, .int a2), (3, .int a3), (4, .int (0 : Int32)), (5, .int (0 : Int32))] (pI s 248 0 (0 : Int32)) Q) ∧ (¬ (-1 : Int32) ≤ a3 → Q (-1 : Int32) (pI s 248 0 (0 : Int32))))))))) : KI MX12_between 3 [.ref 248, .int a1, .int a2, .int a3] s Q := by
  show BI MX12_between 3 0 [(0, .ref 248), (1, .int a1), (2, .int a2), (3, .int a3)] s Q
  refine JT_aload_n (q := 0) dX12_between_0 rfl rfl ?_
  refine JT_iconst (v := 0) dX12_between_1 ic_0 ?_
  refine JS_putI dX12_between_2 flX12_1 BS_248 (Nat.le_of_ble_eq_true rfl) (Nat.le_of_ble_eq_true rfl) ct_12_0 ?_
  refine JT_aload_n (q := 0) dX12_between_5 rfl rfl ?_
  refine JT_iload_n (q := 1) dX12_between_6 rfl rfl ?_
  refine JS_callVI (M' := MX12_isBody) (d' := 1) (As := [.int a1]) (rest := []) (P := (fun zv9 wm9 => (vX12_isBody (pI s 248 0 (0 : Int32)) a1) = zv9 ∧ (pI s 248 0 (0 : Int32)) = wm9)) dX12_between_7 cvX12_287 okX12_isBody rfl (Nat.le_of_ble_eq_true rfl) BS_248 (Nat.le_of_ble_eq_true rfl) (Nat.le_of_ble_eq_true rfl) hci_12 (Nat.le_of_ble_eq_true rfl) (Nat.le_of_ble_eq_true rfl) (pX12_isBody  (a1)  ⟨rfl, rfl⟩) (fun zv9 wm9 hq9 => ?_)
  obtain ⟨rfl, rfl⟩ := hq9
  refine JT_if_eq (tgt := 26) dX12_between_10 (by decide) (fun hc4 => ?_) (fun hc4 => ?_)
  · have h := h.1 hc4
    refine JT_iconst (v := -1) dX12_between_26 ic_m1 ?_
    exact JS_iret dX12_between_27 rfl rfl h
  · have h := h.2 hc4
    refine JT_aload_n (q := 0) dX12_between_13 rfl rfl ?_
    refine JT_iload_n (q := 2) dX12_between_14 rfl rfl ?_
    refine JS_callVI (M' := MX12_isBody) (d' := 1) (As := [.int a2]) (rest := []) (P := (fun zv9 wm9 => (vX12_isBody (pI s 248 0 (0 : Int32)) a2) = zv9 ∧ (pI s 248 0 (0 : Int32)) = wm9)) dX12_between_15 cvX12_287 okX12_isBody rfl (Nat.le_of_ble_eq_true rfl) BS_248 (Nat.le_of_ble_eq_true rfl) (Nat.le_of_ble_eq_true rfl) hci_12 (Nat.le_of_ble_eq_true rfl) (Nat.le_of_ble_eq_true rfl) (pX12_isBody  (a2)  ⟨rfl, rfl⟩) (fun zv9 wm9 hq9 => ?_)
    obtain ⟨rfl, rfl⟩ := hq9
    refine JT_if_eq (tgt := 26) dX12_between_18 (by decide) (fun hc2 => ?_) (fun hc2 => ?_)
    · have h := h.1 hc2
      refine JT_iconst (v := -1) dX12_between_26 ic_m1 ?_
      exact JS_iret dX12_between_27 rfl rfl h
    · have h := h.2 hc2
      refine JT_iload_n (q := 3) dX12_between_21 rfl rfl ?_
      refine JT_iconst (v := -1) dX12_between_22 ic_m1 ?_
      refine JT_icmp_ge (tgt := 28) dX12_between_23 (by decide) (fun hc1 => ?_) (fun hc1 => ?_)
      · have h := h.1 hc1
        refine JT_iconst (v := 0) dX12_between_28 ic_0 ?_
        refine JT_istore (lv' := [(4, .int (0 : Int32)), (0, .ref 248), (1, .int a1), (2, .int a2), (3, .int a3)]) dX12_between_29 (Nat.le_of_ble_eq_true rfl) rfl ?_
        refine JT_iconst (v := 0) dX12_between_31 ic_0 ?_
        refine JT_istore (lv' := [(5, .int (0 : Int32)), (4, .int (0 : Int32)), (0, .ref 248), (1, .int a1), (2, .int a2), (3, .int a3)]) dX12_between_32 (Nat.le_of_ble_eq_true rfl) rfl ?_
        exact JT_sub [2, 3, 4, 5, 1, 0] rfl h
      · have h := h.2 hc1
        refine JT_iconst (v := -1) dX12_between_26 ic_m1 ?_
        exact JS_iret dX12_between_27 rfl rfl h
set_option maxRecDepth 1000000 in
theorem gX12_between  : ∀ n : Nat, (∀ (a1 : Int32) (a2 : Int32) (a3 : Int32) (a4 : Int32) (a5 : Int32) (s : SM) (Q : Int32 → SM → Prop), ((qX12_between n) s a1 a2 a3 a4 a5) → Q ((lX12_between n) s a1 a2 a3 a4 a5).1 ((lX12_between n) s a1 a2 a3 a4 a5).2 → BI MX12_between 3 34 [(0, .ref 248), (1, .int a1), (2, .int a2), (3, .int a3), (4, .int a4), (5, .int a5)] s Q) := by
  intro n
  induction n with
  | zero => exact fun _ _ _ _ _ _ _ hq _ => absurd hq id
  | succ n ih =>
    intro a1 a2 a3 a4 a5 s Q hr h
    replace hr : uX12_between_34 (qX12_between n) s a1 a2 a3 a4 a5 := hr
    replace h : Q (tX12_between_34 (lX12_between n) s a1 a2 a3 a4 a5).1 (tX12_between_34 (lX12_between n) s a1 a2 a3 a4 a5).2 := h
    unfold uX12_between_34 at hr
    unfold tX12_between_34 at h
    refine bX12_between_34 a1 a2 a3 a4 a5 ?_
    refine ⟨fun c => ?_, fun c => ?_⟩
    · replace h := q3p c h
      first | exact h | contradiction
    · replace hr := hr c
      replace h := q3n c h
      refine ⟨hr.1, ?_⟩
      replace hr := hr.2
      refine ⟨fun c => ?_, fun c => ?_⟩
      · replace hr := hr.1 c
        replace h := q3p c h
        first | exact ih a1 a2 a3 a4 (a5 + 1) _ Q hr h | contradiction
      · replace hr := hr.2 c
        replace h := q3n c h
        refine ⟨hr.1, ?_⟩
        replace hr := hr.2
        refine ⟨fun c => ?_, fun c => ?_⟩
        · replace hr := hr.1 c
          replace h := q3n c h
          first | exact ih a1 a2 a3 a4 (a5 + 1) _ Q hr h | contradiction
        · replace hr := hr.2 c
          replace h := q3p c h
          refine ⟨hr.1, ?_⟩
          replace hr := hr.2
          refine ⟨fun c => ?_, fun c => ?_⟩
          · replace hr := hr.1 c
            replace h := q3p c h
            refine ⟨fun c => ?_, fun c => ?_⟩
            · replace hr := hr c
              replace h := q3n c h
              first | exact ih a1 a2 a3 (a4 + 1) (a5 + 1) _ Q hr h | contradiction
            · replace h := q3p c h
              first | exact h | contradiction
          · replace hr := hr.2 c
            replace h := q3n c h
            first | exact ih a1 a2 a3 a4 (a5 + 1) _ Q hr h | contradiction
set_option maxRecDepth 1000000 in
theorem pX12_between (a1 : Int32) (a2 : Int32) (a3 : Int32) {s : SM} {Q : Int32 → SM → Prop} (hr : rX12_between s a1 a2 a3) (h : Q (vX12_between s a1 a2 a3) (mX12_between s a1 a2 a3)) : KI MX12_between 3 [.ref 248, .int a1, .int a2, .int a3] s Q := by
  replace h : Q (fX12_between s a1 a2 a3).1 (fX12_between s a1 a2 a3).2 := h
  unfold rX12_between at hr
  unfold fX12_between at h
  refine bX12_between a1 a2 a3 ?_
  refine ⟨fun c => ?_, fun c => ?_⟩
  · replace h := q3p c h
    first | exact h | contradiction
  · replace hr := hr c
    replace h := q3n c h
    refine ⟨fun c => ?_, fun c => ?_⟩
    · replace h := q3p c h
      first | exact h | contradiction
    · replace hr := hr c
      replace h := q3n c h
      refine ⟨fun c => ?_, fun c => ?_⟩
      · replace hr := hr c
        replace h := q3p c h
        first | exact (gX12_between  FU) a1 a2 a3 (0 : Int32) (0 : Int32) _ Q hr h | contradiction
      · replace h := q3n c h
        first | exact h | contradiction
