set_option maxRecDepth 1000000 in
theorem bX1_findNeeded_25 (a1 : Int32) (a2 : Int32) (a3 : Int32) {s : SM} {Q : SM → Prop} (h : (((gI s 233 6) ≤ a3 → vp_in a1 9 ∧ ((¬ (gI s 239 (a1).toNatClampNeg) = (-1 : Int32) → Q s) ∧ ((gI s 239 (a1).toNatClampNeg) = (-1 : Int32) → gD s 2 = some (gDx s 2) ∧ ((gDx s 2), rfx (gDx s 2) 8) ∈ LX ∧ (((vX4_lives s (gDx s 2) (rfx (gDx s 2) 8) a1) = 0 → Q s) ∧ (¬ (vX4_lives s (gDx s 2) (rfx (gDx s 2) 8) a1) = 0 → vp_in a1 9 ∧ (((gI s 238 (a1).toNatClampNeg) = 0 → Q s) ∧ (¬ (gI s 238 (a1).toNatClampNeg) = 0 → Q (pI s 233 10 (0 : Int32))))))))) ∧ (¬ (gI s 233 6) ≤ a3 → vp_in a3 4 ∧ gD s 2 = some (gDx s 2) ∧ ((gDx s 2), rfx (gDx s 2) 8) ∈ LX ∧ vp_in (gI s 234 (a3).toNatClampNeg) 60 ∧ (((gI s ((gDx s 2) + 1) ((gI s 234 (a3).toNatClampNeg)).toNatClampNeg) = a1 → BV MX1_findNeeded 3 69 [(0, .ref 233), (1, .int a1), (2, .int a2), (3, .int a3), (4, .int (gI s 234 (a3).toNatClampNeg))] s Q) ∧ (¬ (gI s ((gDx s 2) + 1) ((gI s 234 (a3).toNatClampNeg)).toNatClampNeg) = a1 → gD s 2 = some (gDx s 2) ∧ ((gDx s 2), rfx (gDx s 2) 8) ∈ LX ∧ vp_in (gI s 234 (a3).toNatClampNeg) 60 ∧ ((¬ (gI s ((gDx s 2) + 2) ((gI s 234 (a3).toNatClampNeg)).toNatClampNeg) = a1 → BV MX1_findNeeded 3 25 [(0, .ref 233), (1, .int a1), (2, .int a2), (3, .int (a3 + 1))] s Q) ∧ ((gI s ((gDx s 2) + 2) ((gI s 234 (a3).toNatClampNeg)).toNatClampNeg) = a1 → BV MX1_findNeeded 3 69 [(0, .ref 233), (1, .int a1), (2, .int a2), (3, .int a3), (4, .int (gI s 234 (a3).toNatClampNeg))] s Q))))))) : BV MX1_findNeeded 3 25 [(0, .ref 233), (1, .int a1), (2, .int a2), (3, .int a3)] s Q := by
  refine JT_iload_n (q := 3) dX1_findNeeded_25 rfl rfl ?_
  refine JT_aload_n (q := 0) dX1_findNeeded_26 rfl rfl ?_
  refine JS_getI dX1_findNeeded_27 flX1_67 BS_233 (Nat.le_of_ble_eq_true rfl) (Nat.le_of_ble_eq_true rfl) (Or.inl ct_1_6) ?_
  refine JT_icmp_ge (tgt := 127) dX1_findNeeded_30 (by decide) (fun hc18 => ?_) (fun hc18 => ?_)
  · have h := h.1 hc18
    refine JT_aload_n (q := 0) dX1_findNeeded_127 rfl rfl ?_
    refine JS_getR (x := 239) dX1_findNeeded_128 flX1_27 BS_233 (Nat.le_of_ble_eq_true rfl) (Nat.le_of_ble_eq_true rfl) (Or.inr ⟨_, ct_1_5⟩) RF_233_5 ?_
    refine JT_iload_n (q := 1) dX1_findNeeded_131 rfl rfl ?_
    obtain ⟨o1, h⟩ := h
    refine JS_iald dX1_findNeeded_132 BS_239 (Nat.le_of_ble_eq_true rfl) (Nat.le_of_ble_eq_true rfl) o1 ?_
    refine JT_iconst (v := -1) dX1_findNeeded_133 ic_m1 ?_
    refine JT_icmp_ne (tgt := 162) dX1_findNeeded_134 (by decide) (fun hc8 => ?_) (fun hc8 => ?_)
    · have h := h.1 hc8
      exact JS_vret dX1_findNeeded_162 rfl h
    · have h := h.2 hc8
      refine JT_aload_n (q := 0) dX1_findNeeded_137 rfl rfl ?_
      obtain ⟨hr2, hL3, h⟩ := h
      refine JS_getR (x := (gDx s 2)) dX1_findNeeded_138 flX1_30 BS_233 (Nat.le_of_ble_eq_true rfl) (Nat.le_of_ble_eq_true rfl) (Or.inl ⟨_, ct_1_11⟩) (RF_233_11.trans hr2) ?_
      refine JT_iload_n (q := 1) dX1_findNeeded_141 rfl rfl ?_
      refine JS_callVI (M' := MX4_lives) (d' := 0) (As := [.int a1]) (rest := []) (P := (fun zv9 wm9 => (vX4_lives s (gDx s 2) (rfx (gDx s 2) 8) a1) = zv9 ∧ s = wm9)) dX1_findNeeded_142 cvX1_90 okX4_lives rfl (Nat.le_of_ble_eq_true rfl) (lxB hL3) (lx2 hL3) (lxN hL3) hci_4 (Nat.le_of_ble_eq_true rfl) (Nat.le_of_ble_eq_true rfl) (pX4_lives hL3 (a1)  ⟨rfl, rfl⟩) (fun zv9 wm9 hq9 => ?_)
      obtain ⟨rfl, rfl⟩ := hq9
      refine JT_if_eq (tgt := 162) dX1_findNeeded_145 (by decide) (fun hc6 => ?_) (fun hc6 => ?_)
      · have h := h.1 hc6
        exact JS_vret dX1_findNeeded_162 rfl h
      · have h := h.2 hc6
        refine JT_aload_n (q := 0) dX1_findNeeded_148 rfl rfl ?_
        refine JS_getR (x := 238) dX1_findNeeded_149 flX1_24 BS_233 (Nat.le_of_ble_eq_true rfl) (Nat.le_of_ble_eq_true rfl) (Or.inr ⟨_, ct_1_4⟩) RF_233_4 ?_
        refine JT_iload_n (q := 1) dX1_findNeeded_152 rfl rfl ?_
        obtain ⟨o4, h⟩ := h
        refine JS_iald dX1_findNeeded_153 BS_238 (Nat.le_of_ble_eq_true rfl) (Nat.le_of_ble_eq_true rfl) o4 ?_
        refine JT_if_eq (tgt := 162) dX1_findNeeded_154 (by decide) (fun hc5 => ?_) (fun hc5 => ?_)
        · have h := h.1 hc5
          exact JS_vret dX1_findNeeded_162 rfl h
        · have h := h.2 hc5
          refine JT_aload_n (q := 0) dX1_findNeeded_157 rfl rfl ?_
          refine JT_iconst (v := 0) dX1_findNeeded_158 ic_0 ?_
          refine JS_putZ dX1_findNeeded_159 flX1_55 BS_233 (Nat.le_of_ble_eq_true rfl) (Nat.le_of_ble_eq_true rfl) ct_1_10 (Or.inl rfl) ?_
          exact JS_vret dX1_findNeeded_162 rfl h
  · have h := h.2 hc18
    refine JT_aload_n (q := 0) dX1_findNeeded_33 rfl rfl ?_
    refine JS_getR (x := 234) dX1_findNeeded_34 flX1_9 BS_233 (Nat.le_of_ble_eq_true rfl) (Nat.le_of_ble_eq_true rfl) (Or.inr ⟨_, ct_1_0⟩) RF_233_0 ?_
    refine JT_iload_n (q := 3) dX1_findNeeded_37 rfl rfl ?_
    obtain ⟨o9, h⟩ := h
    refine JS_iald dX1_findNeeded_38 BS_234 (Nat.le_of_ble_eq_true rfl) (Nat.le_of_ble_eq_true rfl) o9 ?_
    refine JT_istore (lv' := [(4, .int (gI s 234 (a3).toNatClampNeg)), (0, .ref 233), (1, .int a1), (2, .int a2), (3, .int a3)]) dX1_findNeeded_39 (Nat.le_of_ble_eq_true rfl) rfl ?_
    refine JT_aload_n (q := 1) dX1_findNeeded_41 rfl rfl ?_
    obtain ⟨hr10, hL11, h⟩ := h
    refine JS_getR (x := (gDx s 2)) dX1_findNeeded_42 flX1_30 BS_233 (Nat.le_of_ble_eq_true rfl) (Nat.le_of_ble_eq_true rfl) (Or.inl ⟨_, ct_1_11⟩) (RF_233_11.trans hr10) ?_
    refine JS_getR (x := ((gDx s 2) + 1)) dX1_findNeeded_45 flX1_81 (lxB hL11) (lx2 hL11) (lxN hL11) (Or.inr ⟨_, ct_4_0⟩) (lxR0 hL11) ?_
    refine JT_iload (q := 0) dX1_findNeeded_48 rfl ?_
    obtain ⟨o12, h⟩ := h
    refine JS_iald dX1_findNeeded_50 (lxB1 hL11) (lx2k hL11 _) (lxNk hL11 (Nat.le_of_ble_eq_true rfl)) o12 ?_
    refine JT_iload_n (q := 2) dX1_findNeeded_51 rfl rfl ?_
    refine JT_icmp_eq (tgt := 69) dX1_findNeeded_52 (by decide) (fun hc17 => ?_) (fun hc17 => ?_)
    · have h := h.1 hc17
      exact JT_sub [1, 2, 3, 4, 0] rfl h
    · have h := h.2 hc17
      refine JT_aload_n (q := 1) dX1_findNeeded_55 rfl rfl ?_
      obtain ⟨hr13, hL14, h⟩ := h
      refine JS_getR (x := (gDx s 2)) dX1_findNeeded_56 flX1_30 BS_233 (Nat.le_of_ble_eq_true rfl) (Nat.le_of_ble_eq_true rfl) (Or.inl ⟨_, ct_1_11⟩) (RF_233_11.trans hr13) ?_
      refine JS_getR (x := ((gDx s 2) + 2)) dX1_findNeeded_59 flX1_84 (lxB hL14) (lx2 hL14) (lxN hL14) (Or.inr ⟨_, ct_4_1⟩) (lxR1 hL14) ?_
      refine JT_iload (q := 0) dX1_findNeeded_62 rfl ?_
      obtain ⟨o15, h⟩ := h
      refine JS_iald dX1_findNeeded_64 (lxB2 hL14) (lx2k hL14 _) (lxNk hL14 (Nat.le_of_ble_eq_true rfl)) o15 ?_
      refine JT_iload_n (q := 2) dX1_findNeeded_65 rfl rfl ?_
      refine JT_icmp_ne (tgt := 121) dX1_findNeeded_66 (by decide) (fun hc16 => ?_) (fun hc16 => ?_)
      · have h := h.1 hc16
        refine JT_iinc (q := 4) (v := (a3 + 1)) (lv' := [(3, .int (a3 + 1)), (4, .int (gI s 234 (a3).toNatClampNeg)), (0, .ref 233), (1, .int a1), (2, .int a2)]) dX1_findNeeded_121 rfl (by rfl) (Nat.le_of_ble_eq_true rfl) rfl ?_
        refine JT_goto (tgt := 25) dX1_findNeeded_124 (by decide) ?_
        exact JT_sub [2, 3, 4, 0] rfl h
      · have h := h.2 hc16
        exact JT_sub [1, 2, 3, 4, 0] rfl h
set_option maxRecDepth 1000000 in
theorem bX1_findNeeded_69 (a1 : Int32) (a2 : Int32) (a3 : Int32) (a4 : Int32) {s : SM} {Q : SM → Prop} (h : vp_in a1 9 ∧ vp_in a1 9 ∧ gD (pI s 239 (a1).toNatClampNeg a3) 2 = some (gDx (pI s 239 (a1).toNatClampNeg a3) 2) ∧ ((gDx (pI s 239 (a1).toNatClampNeg a3) 2), rfx (gDx (pI s 239 (a1).toNatClampNeg a3) 2) 8) ∈ LX ∧ vp_in a4 60 ∧ ((¬ (gI (pI s 239 (a1).toNatClampNeg a3) ((gDx (pI s 239 (a1).toNatClampNeg a3) 2) + 1) (a4).toNatClampNeg) = a1 → gD (pI s 239 (a1).toNatClampNeg a3) 2 = some (gDx (pI s 239 (a1).toNatClampNeg a3) 2) ∧ ((gDx (pI s 239 (a1).toNatClampNeg a3) 2), rfx (gDx (pI s 239 (a1).toNatClampNeg a3) 2) 8) ∈ LX ∧ rX4_valueOf (pI s 239 (a1).toNatClampNeg a3) (gDx (pI s 239 (a1).toNatClampNeg a3) 2) (rfx (gDx (pI s 239 (a1).toNatClampNeg a3) 2) 8) a4 ∧ vp_in a1 9 ∧ (∀ s9, s9 = (pI (pI s 239 (a1).toNatClampNeg a3) 238 (a1).toNatClampNeg ((gI (pI s 239 (a1).toNatClampNeg a3) 238 (a1).toNatClampNeg) + (-(vX4_valueOf (pI s 239 (a1).toNatClampNeg a3) (gDx (pI s 239 (a1).toNatClampNeg a3) 2) (rfx (gDx (pI s 239 (a1).toNatClampNeg a3) 2) 8) a4)))) → BV MX1_findNeeded 3 25 [(0, .ref 233), (1, .int a1), (2, .int a2), (3, .int (a3 + 1))] s9 Q)) ∧ ((gI (pI s 239 (a1).toNatClampNeg a3) ((gDx (pI s 239 (a1).toNatClampNeg a3) 2) + 1) (a4).toNatClampNeg) = a1 → gD (pI s 239 (a1).toNatClampNeg a3) 2 = some (gDx (pI s 239 (a1).toNatClampNeg a3) 2) ∧ ((gDx (pI s 239 (a1).toNatClampNeg a3) 2), rfx (gDx (pI s 239 (a1).toNatClampNeg a3) 2) 8) ∈ LX ∧ rX4_valueOf (pI s 239 (a1).toNatClampNeg a3) (gDx (pI s 239 (a1).toNatClampNeg a3) 2) (rfx (gDx (pI s 239 (a1).toNatClampNeg a3) 2) 8) a4 ∧ vp_in a1 9 ∧ (∀ s14, s14 = (pI (pI s 239 (a1).toNatClampNeg a3) 238 (a1).toNatClampNeg ((gI (pI s 239 (a1).toNatClampNeg a3) 238 (a1).toNatClampNeg) + (vX4_valueOf (pI s 239 (a1).toNatClampNeg a3) (gDx (pI s 239 (a1).toNatClampNeg a3) 2) (rfx (gDx (pI s 239 (a1).toNatClampNeg a3) 2) 8) a4))) → BV MX1_findNeeded 3 25 [(0, .ref 233), (1, .int a1), (2, .int a2), (3, .int (a3 + 1))] s14 Q)))) : BV MX1_findNeeded 3 69 [(0, .ref 233), (1, .int a1), (2, .int a2), (3, .int a3), (4, .int a4)] s Q := by
  refine JT_aload_n (q := 0) dX1_findNeeded_69 rfl rfl ?_
  refine JS_getR (x := 239) dX1_findNeeded_70 flX1_27 BS_233 (Nat.le_of_ble_eq_true rfl) (Nat.le_of_ble_eq_true rfl) (Or.inr ⟨_, ct_1_5⟩) RF_233_5 ?_
  refine JT_iload_n (q := 1) dX1_findNeeded_73 rfl rfl ?_
  refine JT_iload_n (q := 3) dX1_findNeeded_74 rfl rfl ?_
  obtain ⟨o1, h⟩ := h
  refine JS_iast dX1_findNeeded_75 BS_239 (Nat.le_of_ble_eq_true rfl) (Nat.le_of_ble_eq_true rfl) o1 ?_
  refine JT_aload_n (q := 0) dX1_findNeeded_76 rfl rfl ?_
  refine JS_getR (x := 238) dX1_findNeeded_77 flX1_24 BS_233 (Nat.le_of_ble_eq_true rfl) (Nat.le_of_ble_eq_true rfl) (Or.inr ⟨_, ct_1_4⟩) RF_233_4 ?_
  refine JT_iload_n (q := 1) dX1_findNeeded_80 rfl rfl ?_
  refine JT_dup2 dX1_findNeeded_81 rfl rfl ?_
  obtain ⟨o2, h⟩ := h
  refine JS_iald dX1_findNeeded_82 BS_238 (Nat.le_of_ble_eq_true rfl) (Nat.le_of_ble_eq_true rfl) o2 ?_
  refine JT_aload_n (q := 0) dX1_findNeeded_83 rfl rfl ?_
  obtain ⟨hr3, hL4, h⟩ := h
  refine JS_getR (x := (gDx (pI s 239 (a1).toNatClampNeg a3) 2)) dX1_findNeeded_84 flX1_30 BS_233 (Nat.le_of_ble_eq_true rfl) (Nat.le_of_ble_eq_true rfl) (Or.inl ⟨_, ct_1_11⟩) (RF_233_11.trans hr3) ?_
  refine JS_getR (x := ((gDx (pI s 239 (a1).toNatClampNeg a3) 2) + 1)) dX1_findNeeded_87 flX1_81 (lxB hL4) (lx2 hL4) (lxN hL4) (Or.inr ⟨_, ct_4_0⟩) (lxR0 hL4) ?_
  refine JT_iload (q := 4) dX1_findNeeded_90 rfl ?_
  obtain ⟨o5, h⟩ := h
  refine JS_iald dX1_findNeeded_92 (lxB1 hL4) (lx2k hL4 _) (lxNk hL4 (Nat.le_of_ble_eq_true rfl)) o5 ?_
  refine JT_iload_n (q := 1) dX1_findNeeded_93 rfl rfl ?_
  refine JT_icmp_ne (tgt := 109) dX1_findNeeded_94 (by decide) (fun hc16 => ?_) (fun hc16 => ?_)
  · have h := h.1 hc16
    refine JT_aload_n (q := 0) dX1_findNeeded_109 rfl rfl ?_
    obtain ⟨hr6, hL7, h⟩ := h
    refine JS_getR (x := (gDx (pI s 239 (a1).toNatClampNeg a3) 2)) dX1_findNeeded_110 flX1_30 BS_233 (Nat.le_of_ble_eq_true rfl) (Nat.le_of_ble_eq_true rfl) (Or.inl ⟨_, ct_1_11⟩) (RF_233_11.trans hr6) ?_
    refine JT_iload (q := 4) dX1_findNeeded_113 rfl ?_
    obtain ⟨o10, h⟩ := h
    refine JS_callVI (M' := MX4_valueOf) (d' := 1) (As := [.int a4]) (rest := [.int (gI (pI s 239 (a1).toNatClampNeg a3) 238 (a1).toNatClampNeg), .int a1, .ref 238]) (P := (fun zv9 wm9 => (vX4_valueOf (pI s 239 (a1).toNatClampNeg a3) (gDx (pI s 239 (a1).toNatClampNeg a3) 2) (rfx (gDx (pI s 239 (a1).toNatClampNeg a3) 2) 8) a4) = zv9 ∧ (pI s 239 (a1).toNatClampNeg a3) = wm9)) dX1_findNeeded_115 cvX1_87 okX4_valueOf rfl (Nat.le_of_ble_eq_true rfl) (lxB hL7) (lx2 hL7) (lxN hL7) hci_4 (Nat.le_of_ble_eq_true rfl) (Nat.le_of_ble_eq_true rfl) (pX4_valueOf hL7 (a4) o10 ⟨rfl, rfl⟩) (fun zv9 wm9 hq9 => ?_)
    obtain ⟨rfl, rfl⟩ := hq9
    refine JT_ineg dX1_findNeeded_118 ?_
    refine JT_iadd dX1_findNeeded_119 ?_
    obtain ⟨o8, h⟩ := h
    refine JS_iast dX1_findNeeded_120 BS_238 (Nat.le_of_ble_eq_true rfl) (Nat.le_of_ble_eq_true rfl) o8 ?_
    obtain ⟨s9, hs9⟩ : ∃ z, z = (pI (pI s 239 (a1).toNatClampNeg a3) 238 (a1).toNatClampNeg ((gI (pI s 239 (a1).toNatClampNeg a3) 238 (a1).toNatClampNeg) + (-(vX4_valueOf (pI s 239 (a1).toNatClampNeg a3) (gDx (pI s 239 (a1).toNatClampNeg a3) 2) (rfx (gDx (pI s 239 (a1).toNatClampNeg a3) 2) 8) a4)))) := ⟨_, rfl⟩
    replace h := h s9 hs9
    rw [← hs9]
    refine JT_iinc (q := 3) (v := (a3 + 1)) (lv' := [(3, .int (a3 + 1)), (0, .ref 233), (1, .int a1), (2, .int a2), (4, .int a4)]) dX1_findNeeded_121 rfl (by rfl) (Nat.le_of_ble_eq_true rfl) rfl ?_
    refine JT_goto (tgt := 25) dX1_findNeeded_124 (by decide) ?_
    exact JT_sub [1, 2, 3, 0] rfl h
  · have h := h.2 hc16
    refine JT_aload_n (q := 0) dX1_findNeeded_97 rfl rfl ?_
    obtain ⟨hr11, hL12, h⟩ := h
    refine JS_getR (x := (gDx (pI s 239 (a1).toNatClampNeg a3) 2)) dX1_findNeeded_98 flX1_30 BS_233 (Nat.le_of_ble_eq_true rfl) (Nat.le_of_ble_eq_true rfl) (Or.inl ⟨_, ct_1_11⟩) (RF_233_11.trans hr11) ?_
    refine JT_iload (q := 4) dX1_findNeeded_101 rfl ?_
    obtain ⟨o15, h⟩ := h
    refine JS_callVI (M' := MX4_valueOf) (d' := 1) (As := [.int a4]) (rest := [.int (gI (pI s 239 (a1).toNatClampNeg a3) 238 (a1).toNatClampNeg), .int a1, .ref 238]) (P := (fun zv9 wm9 => (vX4_valueOf (pI s 239 (a1).toNatClampNeg a3) (gDx (pI s 239 (a1).toNatClampNeg a3) 2) (rfx (gDx (pI s 239 (a1).toNatClampNeg a3) 2) 8) a4) = zv9 ∧ (pI s 239 (a1).toNatClampNeg a3) = wm9)) dX1_findNeeded_103 cvX1_87 okX4_valueOf rfl (Nat.le_of_ble_eq_true rfl) (lxB hL12) (lx2 hL12) (lxN hL12) hci_4 (Nat.le_of_ble_eq_true rfl) (Nat.le_of_ble_eq_true rfl) (pX4_valueOf hL12 (a4) o15 ⟨rfl, rfl⟩) (fun zv9 wm9 hq9 => ?_)
    obtain ⟨rfl, rfl⟩ := hq9
    refine JT_goto (tgt := 119) dX1_findNeeded_106 (by decide) ?_
    refine JT_iadd dX1_findNeeded_119 ?_
    obtain ⟨o13, h⟩ := h
    refine JS_iast dX1_findNeeded_120 BS_238 (Nat.le_of_ble_eq_true rfl) (Nat.le_of_ble_eq_true rfl) o13 ?_
    obtain ⟨s14, hs14⟩ : ∃ z, z = (pI (pI s 239 (a1).toNatClampNeg a3) 238 (a1).toNatClampNeg ((gI (pI s 239 (a1).toNatClampNeg a3) 238 (a1).toNatClampNeg) + (vX4_valueOf (pI s 239 (a1).toNatClampNeg a3) (gDx (pI s 239 (a1).toNatClampNeg a3) 2) (rfx (gDx (pI s 239 (a1).toNatClampNeg a3) 2) 8) a4))) := ⟨_, rfl⟩
    replace h := h s14 hs14
    rw [← hs14]
    refine JT_iinc (q := 3) (v := (a3 + 1)) (lv' := [(3, .int (a3 + 1)), (0, .ref 233), (1, .int a1), (2, .int a2), (4, .int a4)]) dX1_findNeeded_121 rfl (by rfl) (Nat.le_of_ble_eq_true rfl) rfl ?_
    refine JT_goto (tgt := 25) dX1_findNeeded_124 (by decide) ?_
    exact JT_sub [1, 2, 3, 0] rfl h
set_option maxRecDepth 1000000 in
theorem bX1_findNeeded (a1 : Int32) (a2 : Int32) {s : SM} {Q : SM → Prop} (h : gD s 2 = some (gDx s 2) ∧ ((gDx s 2), rfx (gDx s 2) 8) ∈ LX ∧ rX4_netOf s (gDx s 2) (rfx (gDx s 2) 8) a1 ∧ vp_in a1 9 ∧ vp_in a1 9 ∧ (∀ s5, s5 = (pI (pI s 238 (a1).toNatClampNeg (a2 - (vX4_netOf s (gDx s 2) (rfx (gDx s 2) 8) a1))) 239 (a1).toNatClampNeg (-1 : Int32)) → BV MX1_findNeeded 3 25 [(0, .ref 233), (1, .int a1), (2, .int a2), (3, .int (0 : Int32))] s5 Q)) : KV MX1_findNeeded 3 [.ref 233, .int a1, .int a2] s Q := by
  show BV MX1_findNeeded 3 0 [(0, .ref 233), (1, .int a1), (2, .int a2)] s Q
  refine JT_aload_n (q := 0) dX1_findNeeded_0 rfl rfl ?_
  refine JS_getR (x := 238) dX1_findNeeded_1 flX1_24 BS_233 (Nat.le_of_ble_eq_true rfl) (Nat.le_of_ble_eq_true rfl) (Or.inr ⟨_, ct_1_4⟩) RF_233_4 ?_
  refine JT_iload_n (q := 1) dX1_findNeeded_4 rfl rfl ?_
  refine JT_iload_n (q := 2) dX1_findNeeded_5 rfl rfl ?_
  refine JT_aload_n (q := 0) dX1_findNeeded_6 rfl rfl ?_
  obtain ⟨hr1, hL2, h⟩ := h
  refine JS_getR (x := (gDx s 2)) dX1_findNeeded_7 flX1_30 BS_233 (Nat.le_of_ble_eq_true rfl) (Nat.le_of_ble_eq_true rfl) (Or.inl ⟨_, ct_1_11⟩) (RF_233_11.trans hr1) ?_
  refine JT_iload_n (q := 1) dX1_findNeeded_10 rfl rfl ?_
  obtain ⟨o6, h⟩ := h
  refine JS_callVI (M' := MX4_netOf) (d' := 2) (As := [.int a1]) (rest := [.int a2, .int a1, .ref 238]) (P := (fun zv9 wm9 => (vX4_netOf s (gDx s 2) (rfx (gDx s 2) 8) a1) = zv9 ∧ s = wm9)) dX1_findNeeded_11 cvX1_77 okX4_netOf rfl (Nat.le_of_ble_eq_true rfl) (lxB hL2) (lx2 hL2) (lxN hL2) hci_4 (Nat.le_of_ble_eq_true rfl) (Nat.le_of_ble_eq_true rfl) (pX4_netOf hL2 (a1) o6 ⟨rfl, rfl⟩) (fun zv9 wm9 hq9 => ?_)
  obtain ⟨rfl, rfl⟩ := hq9
  refine JT_isub dX1_findNeeded_14 ?_
  obtain ⟨o3, h⟩ := h
  refine JS_iast dX1_findNeeded_15 BS_238 (Nat.le_of_ble_eq_true rfl) (Nat.le_of_ble_eq_true rfl) o3 ?_
  refine JT_aload_n (q := 0) dX1_findNeeded_16 rfl rfl ?_
  refine JS_getR (x := 239) dX1_findNeeded_17 flX1_27 BS_233 (Nat.le_of_ble_eq_true rfl) (Nat.le_of_ble_eq_true rfl) (Or.inr ⟨_, ct_1_5⟩) RF_233_5 ?_
  refine JT_iload_n (q := 1) dX1_findNeeded_20 rfl rfl ?_
  refine JT_iconst (v := -1) dX1_findNeeded_21 ic_m1 ?_
  obtain ⟨o4, h⟩ := h
  refine JS_iast dX1_findNeeded_22 BS_239 (Nat.le_of_ble_eq_true rfl) (Nat.le_of_ble_eq_true rfl) o4 ?_
  obtain ⟨s5, hs5⟩ : ∃ z, z = (pI (pI s 238 (a1).toNatClampNeg (a2 - (vX4_netOf s (gDx s 2) (rfx (gDx s 2) 8) a1))) 239 (a1).toNatClampNeg (-1 : Int32)) := ⟨_, rfl⟩
  replace h := h s5 hs5
  rw [← hs5]
  refine JT_iconst (v := 0) dX1_findNeeded_23 ic_0 ?_
  refine JT_istore_n (lv' := [(3, .int (0 : Int32)), (0, .ref 233), (1, .int a1), (2, .int a2)]) dX1_findNeeded_24 rfl (Nat.le_of_ble_eq_true rfl) rfl ?_
  exact JT_sub [1, 2, 3, 0] rfl h
set_option maxRecDepth 1000000 in
theorem gX1_findNeeded  : ∀ n : Nat, (∀ (a1 : Int32) (a2 : Int32) (a3 : Int32) (s : SM) (Q : SM → Prop), ((qX1_findNeeded n).1 s a1 a2 a3) → Q ((lX1_findNeeded n).1 s a1 a2 a3) → BV MX1_findNeeded 3 25 [(0, .ref 233), (1, .int a1), (2, .int a2), (3, .int a3)] s Q) ∧ (∀ (a1 : Int32) (a2 : Int32) (a3 : Int32) (a4 : Int32) (s : SM) (Q : SM → Prop), ((qX1_findNeeded n).2 s a1 a2 a3 a4) → Q ((lX1_findNeeded n).2 s a1 a2 a3 a4) → BV MX1_findNeeded 3 69 [(0, .ref 233), (1, .int a1), (2, .int a2), (3, .int a3), (4, .int a4)] s Q) := by
  intro n
  induction n with
  | zero => exact ⟨fun _ _ _ _ _ hq _ => absurd hq id, fun _ _ _ _ _ _ hq _ => absurd hq id⟩
  | succ n ih =>
    refine ⟨?_, ?_⟩
    · intro a1 a2 a3 s Q hr h
      replace hr : uX1_findNeeded_25 (qX1_findNeeded n) s a1 a2 a3 := hr
      replace h : Q (tX1_findNeeded_25 (lX1_findNeeded n) s a1 a2 a3) := h
      unfold uX1_findNeeded_25 at hr
      unfold tX1_findNeeded_25 at h
      refine bX1_findNeeded_25 a1 a2 a3 ?_
      refine ⟨fun c => ?_, fun c => ?_⟩
      · replace hr := hr.1 c
        replace h := q1p c h
        refine ⟨hr.1, ?_⟩
        replace hr := hr.2
        refine ⟨fun c => ?_, fun c => ?_⟩
        · replace h := q1n c h
          first | exact h | contradiction
        · replace hr := hr c
          replace h := q1p c h
          refine ⟨hr.1, ?_⟩
          replace hr := hr.2
          refine ⟨hr.1, ?_⟩
          replace hr := hr.2
          refine ⟨fun c => ?_, fun c => ?_⟩
          · replace h := q1p c h
            first | exact h | contradiction
          · replace hr := hr c
            replace h := q1n c h
            refine ⟨hr, ?_⟩
            refine ⟨fun c => ?_, fun c => ?_⟩
            · replace h := q1p c h
              first | exact h | contradiction
            · replace h := q1n c h
              first | exact h | contradiction
      · replace hr := hr.2 c
        replace h := q1n c h
        refine ⟨hr.1, ?_⟩
        replace hr := hr.2
        refine ⟨hr.1, ?_⟩
        replace hr := hr.2
        refine ⟨hr.1, ?_⟩
        replace hr := hr.2
        refine ⟨hr.1, ?_⟩
        replace hr := hr.2
        refine ⟨fun c => ?_, fun c => ?_⟩
        · replace hr := hr.1 c
          replace h := q1p c h
          first | exact ih.2 a1 a2 a3 (gI s 234 (a3).toNatClampNeg) _ Q hr h | contradiction
        · replace hr := hr.2 c
          replace h := q1n c h
          refine ⟨hr.1, ?_⟩
          replace hr := hr.2
          refine ⟨hr.1, ?_⟩
          replace hr := hr.2
          refine ⟨hr.1, ?_⟩
          replace hr := hr.2
          refine ⟨fun c => ?_, fun c => ?_⟩
          · replace hr := hr.1 c
            replace h := q1n c h
            first | exact ih.1 a1 a2 (a3 + 1) _ Q hr h | contradiction
          · replace hr := hr.2 c
            replace h := q1p c h
            first | exact ih.2 a1 a2 a3 (gI s 234 (a3).toNatClampNeg) _ Q hr h | contradiction
    · intro a1 a2 a3 a4 s Q hr h
      replace hr : uX1_findNeeded_69 (qX1_findNeeded n) s a1 a2 a3 a4 := hr
      replace h : Q (tX1_findNeeded_69 (lX1_findNeeded n) s a1 a2 a3 a4) := h
      unfold uX1_findNeeded_69 at hr
      unfold tX1_findNeeded_69 at h
      refine bX1_findNeeded_69 a1 a2 a3 a4 ?_
      refine ⟨hr.1, ?_⟩
      replace hr := hr.2
      refine ⟨hr.1, ?_⟩
      replace hr := hr.2
      refine ⟨hr.1, ?_⟩
      replace hr := hr.2
      refine ⟨hr.1, ?_⟩
      replace hr := hr.2
      refine ⟨hr.1, ?_⟩
      replace hr := hr.2
      refine ⟨fun c => ?_, fun c => ?_⟩
      · replace hr := hr.1 c
        replace h := q1n c h
        refine ⟨hr.1, ?_⟩
        replace hr := hr.2
        refine ⟨hr.1, ?_⟩
        replace hr := hr.2
        refine ⟨hr.1, ?_⟩
        replace hr := hr.2
        refine ⟨hr.1, ?_⟩
        replace hr := hr.2
        intro s9 e9
        replace hr := hr s9 e9
        try rw [← e9] at h
        try dsimp only at h
        first | exact ih.1 a1 a2 (a3 + 1) _ Q hr h | contradiction
      · replace hr := hr.2 c
        replace h := q1p c h
        refine ⟨hr.1, ?_⟩
        replace hr := hr.2
        refine ⟨hr.1, ?_⟩
        replace hr := hr.2
        refine ⟨hr.1, ?_⟩
        replace hr := hr.2
        refine ⟨hr.1, ?_⟩
        replace hr := hr.2
        intro s14 e9
        replace hr := hr s14 e9
        try rw [← e9] at h
        try dsimp only at h
        first | exact ih.1 a1 a2 (a3 + 1) _ Q hr h | contradiction
set_option maxRecDepth 1000000 in
theorem pX1_findNeeded (a1 : Int32) (a2 : Int32) {s : SM} {Q : SM → Prop} (hr : rX1_findNeeded s a1 a2) (h : Q (mX1_findNeeded s a1 a2)) : KV MX1_findNeeded 3 [.ref 233, .int a1, .int a2] s Q := by
  replace h : Q (fX1_findNeeded s a1 a2) := h
  unfold rX1_findNeeded at hr
  unfold fX1_findNeeded at h
  refine bX1_findNeeded a1 a2 ?_
  refine ⟨hr.1, ?_⟩
  replace hr := hr.2
  refine ⟨hr.1, ?_⟩
  replace hr := hr.2
  refine ⟨hr.1, ?_⟩
  replace hr := hr.2
  refine ⟨hr.1, ?_⟩
  replace hr := hr.2
  refine ⟨hr.1, ?_⟩
  replace hr := hr.2
  intro s5 e9
  replace hr := hr s5 e9
  try rw [← e9] at h
  try dsimp only at h
  first | exact (gX1_findNeeded  FU).1 a1 a2 (0 : Int32) _ Q hr h | contradiction
set_option maxRecDepth 1000000 in
theorem bX4_isKnown {L0 P0 : Nat} (hL0 : (L0, P0) ∈ LX) (a1 : Int32) {s : SM} {Q : Int32 → SM → Prop} (h : rX4_isReadable s L0 P0 a1 (0 : Int32) ∧ rX4_isReadable s L0 P0 a1 (1 : Int32) ∧ vp_in a1 60 ∧ vp_in (gI s (L0 + 4) (a1).toNatClampNeg) 6 ∧ Q (if (gI s (P0 + 6) ((gI s (L0 + 4) (a1).toNatClampNeg)).toNatClampNeg) = (4 : Int32) then (if (vX4_isReadable s L0 P0 a1 (0 : Int32)) = 0 then (0 : Int32) else (if (vX4_isReadable s L0 P0 a1 (1 : Int32)) = 0 then (0 : Int32) else (1 : Int32))) else (if (vX4_isReadable s L0 P0 a1 (0 : Int32)) = 0 then (if (vX4_isReadable s L0 P0 a1 (1 : Int32)) = 0 then (0 : Int32) else (1 : Int32)) else (1 : Int32))) s) : KI MX4_isKnown 3 [.ref L0, .int a1] s Q := by
  show BI MX4_isKnown 3 0 [(0, .ref L0), (1, .int a1)] s Q
  refine JT_aload_n (q := 0) dX4_isKnown_0 rfl rfl ?_
  refine JT_iload_n (q := 1) dX4_isKnown_1 rfl rfl ?_
  refine JT_iconst (v := 0) dX4_isKnown_2 ic_0 ?_
  obtain ⟨o10, h⟩ := h
  refine JS_callVI (M' := MX4_isReadable) (d' := 2) (As := [.int a1, .int (0 : Int32)]) (rest := []) (P := (fun zv9 wm9 => (vX4_isReadable s L0 P0 a1 (0 : Int32)) = zv9 ∧ s = wm9)) dX4_isKnown_3 cvX4_88 okX4_isReadable rfl (Nat.le_of_ble_eq_true rfl) (lxB hL0) (lx2 hL0) (lxN hL0) hci_4 (Nat.le_of_ble_eq_true rfl) (Nat.le_of_ble_eq_true rfl) (pX4_isReadable hL0 (a1) ((0 : Int32)) o10 ⟨rfl, rfl⟩) (fun zv9 wm9 hq9 => ?_)
  obtain ⟨rfl, rfl⟩ := hq9
  refine JT_istore_n (lv' := [(2, .int (vX4_isReadable s L0 P0 a1 (0 : Int32))), (0, .ref L0), (1, .int a1)]) dX4_isKnown_6 rfl (Nat.le_of_ble_eq_true rfl) rfl ?_
  refine JT_aload_n (q := 1) dX4_isKnown_7 rfl rfl ?_
  refine JT_iload_n (q := 2) dX4_isKnown_8 rfl rfl ?_
  refine JT_iconst (v := 1) dX4_isKnown_9 ic_1 ?_
  obtain ⟨o9, h⟩ := h
  refine JS_callVI (M' := MX4_isReadable) (d' := 2) (As := [.int a1, .int (1 : Int32)]) (rest := []) (P := (fun zv9 wm9 => (vX4_isReadable s L0 P0 a1 (1 : Int32)) = zv9 ∧ s = wm9)) dX4_isKnown_10 cvX4_88 okX4_isReadable rfl (Nat.le_of_ble_eq_true rfl) (lxB hL0) (lx2 hL0) (lxN hL0) hci_4 (Nat.le_of_ble_eq_true rfl) (Nat.le_of_ble_eq_true rfl) (pX4_isReadable hL0 (a1) ((1 : Int32)) o9 ⟨rfl, rfl⟩) (fun zv9 wm9 hq9 => ?_)
  obtain ⟨rfl, rfl⟩ := hq9
  refine JT_istore_n (lv' := [(3, .int (vX4_isReadable s L0 P0 a1 (1 : Int32))), (2, .int (vX4_isReadable s L0 P0 a1 (0 : Int32))), (0, .ref L0), (1, .int a1)]) dX4_isKnown_13 rfl (Nat.le_of_ble_eq_true rfl) rfl ?_
  refine JT_aload_n (q := 2) dX4_isKnown_14 rfl rfl ?_
  refine JS_getR (x := P0) dX4_isKnown_15 flX4_45 (lxB hL0) (lx2 hL0) (lxN hL0) (Or.inl ⟨_, ct_4_8⟩) (lxR8 hL0) ?_
  refine JS_getR (x := (P0 + 6)) dX4_isKnown_18 flX4_91 (pxB (lxP hL0)) (px2 (lxP hL0)) (pxN (lxP hL0)) (Or.inr ⟨_, ct_6_5⟩) (pxR5 (lxP hL0)) ?_
  refine JT_aload_n (q := 2) dX4_isKnown_21 rfl rfl ?_
  refine JS_getR (x := (L0 + 4)) dX4_isKnown_22 flX4_21 (lxB hL0) (lx2 hL0) (lxN hL0) (Or.inr ⟨_, ct_4_3⟩) (lxR3 hL0) ?_
  refine JT_iload_n (q := 3) dX4_isKnown_25 rfl rfl ?_
  obtain ⟨o1, h⟩ := h
  refine JS_iald dX4_isKnown_26 (lxB4 hL0) (lx2k hL0 _) (lxNk hL0 (Nat.le_of_ble_eq_true rfl)) o1 ?_
  obtain ⟨o2, h⟩ := h
  refine JS_iald dX4_isKnown_27 (pxB6 (lxP hL0)) (px2k (lxP hL0) _) (pxNk (lxP hL0) (Nat.le_of_ble_eq_true rfl)) o2 ?_
  refine JT_iconst (v := 4) dX4_isKnown_28 ic_4 ?_
  have hj3 : ∀ v : Int32, v = (if (gI s (P0 + 6) ((gI s (L0 + 4) (a1).toNatClampNeg)).toNatClampNeg) = (4 : Int32) then (if (vX4_isReadable s L0 P0 a1 (0 : Int32)) = 0 then (0 : Int32) else (if (vX4_isReadable s L0 P0 a1 (1 : Int32)) = 0 then (0 : Int32) else (1 : Int32))) else (if (vX4_isReadable s L0 P0 a1 (0 : Int32)) = 0 then (if (vX4_isReadable s L0 P0 a1 (1 : Int32)) = 0 then (0 : Int32) else (1 : Int32)) else (1 : Int32))) → JT MX4_isKnown 3 0 0 61 [(3, .int (vX4_isReadable s L0 P0 a1 (1 : Int32))), (2, .int (vX4_isReadable s L0 P0 a1 (0 : Int32))), (0, .ref L0), (1, .int a1)] [.int v] (std s) (KQ Q) := by
    intro v hv
    subst hv
    exact JS_iret dX4_isKnown_61 rfl (n01 (i01 (i01 (Or.inl rfl) (i01 (Or.inl rfl) (Or.inr rfl))) (i01 (i01 (Or.inl rfl) (Or.inr rfl)) (Or.inr rfl)))) h
  refine JT_icmp_ne (tgt := 48) dX4_isKnown_29 (by decide) (fun hc4 => ?_) (fun hc4 => ?_)
  · refine JT_iload_n (q := 1) dX4_isKnown_48 rfl rfl ?_
    refine JT_if_ne (tgt := 56) dX4_isKnown_49 (by decide) (fun hc5 => ?_) (fun hc5 => ?_)
    · refine JT_iconst (v := 1) dX4_isKnown_56 ic_1 ?_
      refine JT_goto (tgt := 61) dX4_isKnown_57 (by decide) ?_
      exact hj3 _ (by rw [if_neg hc4, if_neg hc5])
    · refine JT_iload_n (q := 0) dX4_isKnown_52 rfl rfl ?_
      refine JT_if_eq (tgt := 60) dX4_isKnown_53 (by decide) (fun hc6 => ?_) (fun hc6 => ?_)
      · refine JT_iconst (v := 0) dX4_isKnown_60 ic_0 ?_
        exact hj3 _ (by rw [if_neg hc4, if_pos hc5, if_pos hc6])
      · refine JT_iconst (v := 1) dX4_isKnown_56 ic_1 ?_
        refine JT_goto (tgt := 61) dX4_isKnown_57 (by decide) ?_
        exact hj3 _ (by rw [if_neg hc4, if_pos hc5, if_neg hc6])
  · refine JT_iload_n (q := 1) dX4_isKnown_32 rfl rfl ?_
    refine JT_if_eq (tgt := 44) dX4_isKnown_33 (by decide) (fun hc7 => ?_) (fun hc7 => ?_)
    · refine JT_iconst (v := 0) dX4_isKnown_44 ic_0 ?_
      refine JT_goto (tgt := 61) dX4_isKnown_45 (by decide) ?_
      exact hj3 _ (by rw [if_pos hc4, if_pos hc7])
    · refine JT_iload_n (q := 0) dX4_isKnown_36 rfl rfl ?_
      refine JT_if_eq (tgt := 44) dX4_isKnown_37 (by decide) (fun hc8 => ?_) (fun hc8 => ?_)
      · refine JT_iconst (v := 0) dX4_isKnown_44 ic_0 ?_
        refine JT_goto (tgt := 61) dX4_isKnown_45 (by decide) ?_
        exact hj3 _ (by rw [if_pos hc4, if_neg hc7, if_pos hc8])
      · refine JT_iconst (v := 1) dX4_isKnown_40 ic_1 ?_
        refine JT_goto (tgt := 61) dX4_isKnown_41 (by decide) ?_
        exact hj3 _ (by rw [if_pos hc4, if_neg hc7, if_neg hc8])
set_option maxRecDepth 1000000 in
theorem zX4_isKnown (s : SM) (L0 P0 : Nat) (a1 : Int32) : vX4_isKnown s L0 P0 a1 = 0 ∨ vX4_isKnown s L0 P0 a1 = 1 := (i01 (i01 (Or.inl rfl) (i01 (Or.inl rfl) (Or.inr rfl))) (i01 (i01 (Or.inl rfl) (Or.inr rfl)) (Or.inr rfl)))
set_option maxRecDepth 1000000 in
theorem pX4_isKnown {L0 P0 : Nat} (hL0 : (L0, P0) ∈ LX) (a1 : Int32) {s : SM} {Q : Int32 → SM → Prop} (hr : rX4_isKnown s L0 P0 a1) (h : Q (vX4_isKnown s L0 P0 a1) s) : KI MX4_isKnown 3 [.ref L0, .int a1] s Q := by
  refine bX4_isKnown hL0 a1 ?_
  unfold rX4_isKnown at hr
  unfold vX4_isKnown at h
  refine ⟨hr.1, ?_⟩
  replace hr := hr.2
  refine ⟨hr.1, ?_⟩
  replace hr := hr.2
  refine ⟨hr.1, ?_⟩
  replace hr := hr.2
  refine ⟨hr, ?_⟩
  first | exact h | contradiction
set_option maxRecDepth 1000000 in
theorem bX4_isKnownBy {L0 P0 : Nat} (hL0 : (L0, P0) ∈ LX) (a1 : Int32) (a2 : Int32) {s : SM} {Q : Int32 → SM → Prop} (h : rX4_isToldBy s L0 P0 a1 (0 : Int32) a2 ∧ rX4_isToldBy s L0 P0 a1 (1 : Int32) a2 ∧ vp_in a1 60 ∧ vp_in (gI s (L0 + 4) (a1).toNatClampNeg) 6 ∧ Q (if (gI s (P0 + 6) ((gI s (L0 + 4) (a1).toNatClampNeg)).toNatClampNeg) = (4 : Int32) then (if (vX4_isToldBy s L0 P0 a1 (0 : Int32) a2) = 0 then (0 : Int32) else (if (vX4_isToldBy s L0 P0 a1 (1 : Int32) a2) = 0 then (0 : Int32) else (1 : Int32))) else (if (vX4_isToldBy s L0 P0 a1 (0 : Int32) a2) = 0 then (if (vX4_isToldBy s L0 P0 a1 (1 : Int32) a2) = 0 then (0 : Int32) else (1 : Int32)) else (1 : Int32))) s) : KI MX4_isKnownBy 3 [.ref L0, .int a1, .int a2] s Q := by
  show BI MX4_isKnownBy 3 0 [(0, .ref L0), (1, .int a1), (2, .int a2)] s Q
  refine JT_aload_n (q := 0) dX4_isKnownBy_0 rfl rfl ?_
  refine JT_iload_n (q := 1) dX4_isKnownBy_1 rfl rfl ?_
  refine JT_iconst (v := 0) dX4_isKnownBy_2 ic_0 ?_
  refine JT_iload_n (q := 2) dX4_isKnownBy_3 rfl rfl ?_
  obtain ⟨o10, h⟩ := h
  refine JS_callVI (M' := MX4_isToldBy) (d' := 2) (As := [.int a1, .int (0 : Int32), .int a2]) (rest := []) (P := (fun zv9 wm9 => (vX4_isToldBy s L0 P0 a1 (0 : Int32) a2) = zv9 ∧ s = wm9)) dX4_isKnownBy_4 cvX4_109 okX4_isToldBy rfl (Nat.le_of_ble_eq_true rfl) (lxB hL0) (lx2 hL0) (lxN hL0) hci_4 (Nat.le_of_ble_eq_true rfl) (Nat.le_of_ble_eq_true rfl) (pX4_isToldBy hL0 (a1) ((0 : Int32)) (a2) o10 ⟨rfl, rfl⟩) (fun zv9 wm9 hq9 => ?_)
  obtain ⟨rfl, rfl⟩ := hq9
  refine JT_istore_n (lv' := [(3, .int (vX4_isToldBy s L0 P0 a1 (0 : Int32) a2)), (0, .ref L0), (1, .int a1), (2, .int a2)]) dX4_isKnownBy_7 rfl (Nat.le_of_ble_eq_true rfl) rfl ?_
  refine JT_aload_n (q := 1) dX4_isKnownBy_8 rfl rfl ?_
  refine JT_iload_n (q := 2) dX4_isKnownBy_9 rfl rfl ?_
  refine JT_iconst (v := 1) dX4_isKnownBy_10 ic_1 ?_
  refine JT_iload_n (q := 3) dX4_isKnownBy_11 rfl rfl ?_
  obtain ⟨o9, h⟩ := h
  refine JS_callVI (M' := MX4_isToldBy) (d' := 2) (As := [.int a1, .int (1 : Int32), .int a2]) (rest := []) (P := (fun zv9 wm9 => (vX4_isToldBy s L0 P0 a1 (1 : Int32) a2) = zv9 ∧ s = wm9)) dX4_isKnownBy_12 cvX4_109 okX4_isToldBy rfl (Nat.le_of_ble_eq_true rfl) (lxB hL0) (lx2 hL0) (lxN hL0) hci_4 (Nat.le_of_ble_eq_true rfl) (Nat.le_of_ble_eq_true rfl) (pX4_isToldBy hL0 (a1) ((1 : Int32)) (a2) o9 ⟨rfl, rfl⟩) (fun zv9 wm9 hq9 => ?_)
  obtain ⟨rfl, rfl⟩ := hq9
  refine JT_istore (lv' := [(4, .int (vX4_isToldBy s L0 P0 a1 (1 : Int32) a2)), (3, .int (vX4_isToldBy s L0 P0 a1 (0 : Int32) a2)), (0, .ref L0), (1, .int a1), (2, .int a2)]) dX4_isKnownBy_15 (Nat.le_of_ble_eq_true rfl) rfl ?_
  refine JT_aload_n (q := 2) dX4_isKnownBy_17 rfl rfl ?_
  refine JS_getR (x := P0) dX4_isKnownBy_18 flX4_45 (lxB hL0) (lx2 hL0) (lxN hL0) (Or.inl ⟨_, ct_4_8⟩) (lxR8 hL0) ?_
  refine JS_getR (x := (P0 + 6)) dX4_isKnownBy_21 flX4_91 (pxB (lxP hL0)) (px2 (lxP hL0)) (pxN (lxP hL0)) (Or.inr ⟨_, ct_6_5⟩) (pxR5 (lxP hL0)) ?_
  refine JT_aload_n (q := 2) dX4_isKnownBy_24 rfl rfl ?_
  refine JS_getR (x := (L0 + 4)) dX4_isKnownBy_25 flX4_21 (lxB hL0) (lx2 hL0) (lxN hL0) (Or.inr ⟨_, ct_4_3⟩) (lxR3 hL0) ?_
  refine JT_iload_n (q := 3) dX4_isKnownBy_28 rfl rfl ?_
  obtain ⟨o1, h⟩ := h
  refine JS_iald dX4_isKnownBy_29 (lxB4 hL0) (lx2k hL0 _) (lxNk hL0 (Nat.le_of_ble_eq_true rfl)) o1 ?_
  obtain ⟨o2, h⟩ := h
  refine JS_iald dX4_isKnownBy_30 (pxB6 (lxP hL0)) (px2k (lxP hL0) _) (pxNk (lxP hL0) (Nat.le_of_ble_eq_true rfl)) o2 ?_
  refine JT_iconst (v := 4) dX4_isKnownBy_31 ic_4 ?_
  have hj3 : ∀ v : Int32, v = (if (gI s (P0 + 6) ((gI s (L0 + 4) (a1).toNatClampNeg)).toNatClampNeg) = (4 : Int32) then (if (vX4_isToldBy s L0 P0 a1 (0 : Int32) a2) = 0 then (0 : Int32) else (if (vX4_isToldBy s L0 P0 a1 (1 : Int32) a2) = 0 then (0 : Int32) else (1 : Int32))) else (if (vX4_isToldBy s L0 P0 a1 (0 : Int32) a2) = 0 then (if (vX4_isToldBy s L0 P0 a1 (1 : Int32) a2) = 0 then (0 : Int32) else (1 : Int32)) else (1 : Int32))) → JT MX4_isKnownBy 3 0 0 66 [(4, .int (vX4_isToldBy s L0 P0 a1 (1 : Int32) a2)), (3, .int (vX4_isToldBy s L0 P0 a1 (0 : Int32) a2)), (0, .ref L0), (1, .int a1), (2, .int a2)] [.int v] (std s) (KQ Q) := by
    intro v hv
    subst hv
    exact JS_iret dX4_isKnownBy_66 rfl (n01 (i01 (i01 (Or.inl rfl) (i01 (Or.inl rfl) (Or.inr rfl))) (i01 (i01 (Or.inl rfl) (Or.inr rfl)) (Or.inr rfl)))) h
  refine JT_icmp_ne (tgt := 52) dX4_isKnownBy_32 (by decide) (fun hc4 => ?_) (fun hc4 => ?_)
  · refine JT_iload_n (q := 1) dX4_isKnownBy_52 rfl rfl ?_
    refine JT_if_ne (tgt := 61) dX4_isKnownBy_53 (by decide) (fun hc5 => ?_) (fun hc5 => ?_)
    · refine JT_iconst (v := 1) dX4_isKnownBy_61 ic_1 ?_
      refine JT_goto (tgt := 66) dX4_isKnownBy_62 (by decide) ?_
      exact hj3 _ (by rw [if_neg hc4, if_neg hc5])
    · refine JT_iload (q := 0) dX4_isKnownBy_56 rfl ?_
      refine JT_if_eq (tgt := 65) dX4_isKnownBy_58 (by decide) (fun hc6 => ?_) (fun hc6 => ?_)
      · refine JT_iconst (v := 0) dX4_isKnownBy_65 ic_0 ?_
        exact hj3 _ (by rw [if_neg hc4, if_pos hc5, if_pos hc6])
      · refine JT_iconst (v := 1) dX4_isKnownBy_61 ic_1 ?_
        refine JT_goto (tgt := 66) dX4_isKnownBy_62 (by decide) ?_
        exact hj3 _ (by rw [if_neg hc4, if_pos hc5, if_neg hc6])
  · refine JT_iload_n (q := 1) dX4_isKnownBy_35 rfl rfl ?_
    refine JT_if_eq (tgt := 48) dX4_isKnownBy_36 (by decide) (fun hc7 => ?_) (fun hc7 => ?_)
    · refine JT_iconst (v := 0) dX4_isKnownBy_48 ic_0 ?_
      refine JT_goto (tgt := 66) dX4_isKnownBy_49 (by decide) ?_
      exact hj3 _ (by rw [if_pos hc4, if_pos hc7])
    · refine JT_iload (q := 0) dX4_isKnownBy_39 rfl ?_
      refine JT_if_eq (tgt := 48) dX4_isKnownBy_41 (by decide) (fun hc8 => ?_) (fun hc8 => ?_)
      · refine JT_iconst (v := 0) dX4_isKnownBy_48 ic_0 ?_
        refine JT_goto (tgt := 66) dX4_isKnownBy_49 (by decide) ?_
        exact hj3 _ (by rw [if_pos hc4, if_neg hc7, if_pos hc8])
      · refine JT_iconst (v := 1) dX4_isKnownBy_44 ic_1 ?_
        refine JT_goto (tgt := 66) dX4_isKnownBy_45 (by decide) ?_
        exact hj3 _ (by rw [if_pos hc4, if_neg hc7, if_neg hc8])
set_option maxRecDepth 1000000 in
theorem zX4_isKnownBy (s : SM) (L0 P0 : Nat) (a1 : Int32) (a2 : Int32) : vX4_isKnownBy s L0 P0 a1 a2 = 0 ∨ vX4_isKnownBy s L0 P0 a1 a2 = 1 := (i01 (i01 (Or.inl rfl) (i01 (Or.inl rfl) (Or.inr rfl))) (i01 (i01 (Or.inl rfl) (Or.inr rfl)) (Or.inr rfl)))
set_option maxRecDepth 1000000 in
theorem pX4_isKnownBy {L0 P0 : Nat} (hL0 : (L0, P0) ∈ LX) (a1 : Int32) (a2 : Int32) {s : SM} {Q : Int32 → SM → Prop} (hr : rX4_isKnownBy s L0 P0 a1 a2) (h : Q (vX4_isKnownBy s L0 P0 a1 a2) s) : KI MX4_isKnownBy 3 [.ref L0, .int a1, .int a2] s Q := by
  refine bX4_isKnownBy hL0 a1 a2 ?_
  unfold rX4_isKnownBy at hr
  unfold vX4_isKnownBy at h
  refine ⟨hr.1, ?_⟩
  replace hr := hr.2
  refine ⟨hr.1, ?_⟩
  replace hr := hr.2
  refine ⟨hr.1, ?_⟩
  replace hr := hr.2
  refine ⟨hr, ?_⟩
  first | exact h | contradiction
set_option maxRecDepth 1000000 in
theorem bX4_lessen {L0 P0 : Nat} (hL0 : (L0, P0) ∈ LX) (a1 : Int32) (a2 : Int32) {s : SM} {Q : SM → Prop} (h : vp_in a1 60 ∧ vp_in a1 60 ∧ vp_in a1 60 ∧ ((¬ (gI (pI s (L0 + 3) (a1).toNatClampNeg ((gI s (L0 + 3) (a1).toNatClampNeg) - a2)) (L0 + 3) (a1).toNatClampNeg) = 0 → Q (pI s (L0 + 3) (a1).toNatClampNeg ((gI s (L0 + 3) (a1).toNatClampNeg) - a2))) ∧ ((gI (pI s (L0 + 3) (a1).toNatClampNeg ((gI s (L0 + 3) (a1).toNatClampNeg) - a2)) (L0 + 3) (a1).toNatClampNeg) = 0 → vp_in a1 60 ∧ (∀ s5, s5 = (pI (pI s (L0 + 3) (a1).toNatClampNeg ((gI s (L0 + 3) (a1).toNatClampNeg) - a2)) (L0 + 6) (a1).toNatClampNeg (2 : Int32)) → vp_in a1 60 ∧ rX4_takeOff s5 L0 P0 a1 (gI s5 (L0 + 9) (a1).toNatClampNeg) ∧ vp_in a1 60 ∧ rX4_takeOff (mX4_takeOff s5 L0 P0 a1 (gI s5 (L0 + 9) (a1).toNatClampNeg)) L0 P0 a1 (gI (mX4_takeOff s5 L0 P0 a1 (gI s5 (L0 + 9) (a1).toNatClampNeg)) (L0 + 10) (a1).toNatClampNeg) ∧ (∀ s8, s8 = (mX4_takeOff (mX4_takeOff s5 L0 P0 a1 (gI s5 (L0 + 9) (a1).toNatClampNeg)) L0 P0 a1 (gI (mX4_takeOff s5 L0 P0 a1 (gI s5 (L0 + 9) (a1).toNatClampNeg)) (L0 + 10) (a1).toNatClampNeg)) → vp_in a1 60 ∧ vp_in a1 60 ∧ Q (pI (pI s8 (L0 + 9) (a1).toNatClampNeg (-1 : Int32)) (L0 + 10) (a1).toNatClampNeg (-1 : Int32))))))) : KV MX4_lessen 3 [.ref L0, .int a1, .int a2] s Q := by
  show BV MX4_lessen 3 0 [(0, .ref L0), (1, .int a1), (2, .int a2)] s Q
  refine JT_aload_n (q := 0) dX4_lessen_0 rfl rfl ?_
  refine JS_getR (x := (L0 + 3)) dX4_lessen_1 flX4_18 (lxB hL0) (lx2 hL0) (lxN hL0) (Or.inr ⟨_, ct_4_2⟩) (lxR2 hL0) ?_
  refine JT_iload_n (q := 1) dX4_lessen_4 rfl rfl ?_
  refine JT_dup2 dX4_lessen_5 rfl rfl ?_
  obtain ⟨o1, h⟩ := h
  refine JS_iald dX4_lessen_6 (lxB3 hL0) (lx2k hL0 _) (lxNk hL0 (Nat.le_of_ble_eq_true rfl)) o1 ?_
  refine JT_iload_n (q := 2) dX4_lessen_7 rfl rfl ?_
  refine JT_isub dX4_lessen_8 ?_
  obtain ⟨o2, h⟩ := h
  refine JS_iast dX4_lessen_9 (lxB3 hL0) (lx2k hL0 _) (lxNk hL0 (Nat.le_of_ble_eq_true rfl)) o2 ?_
  refine JT_aload_n (q := 0) dX4_lessen_10 rfl rfl ?_
  refine JS_getR (x := (L0 + 3)) dX4_lessen_11 flX4_18 (lxB hL0) (lx2 hL0) (lxN hL0) (Or.inr ⟨_, ct_4_2⟩) (lxR2 hL0) ?_
  refine JT_iload_n (q := 1) dX4_lessen_14 rfl rfl ?_
  obtain ⟨o3, h⟩ := h
  refine JS_iald dX4_lessen_15 (lxB3 hL0) (lx2k hL0 _) (lxNk hL0 (Nat.le_of_ble_eq_true rfl)) o3 ?_
  refine JT_if_ne (tgt := 62) dX4_lessen_16 (by decide) (fun hc13 => ?_) (fun hc13 => ?_)
  · have h := h.1 hc13
    exact JS_vret dX4_lessen_62 rfl h
  · have h := h.2 hc13
    refine JT_aload_n (q := 0) dX4_lessen_19 rfl rfl ?_
    refine JS_getR (x := (L0 + 6)) dX4_lessen_20 flX4_27 (lxB hL0) (lx2 hL0) (lxN hL0) (Or.inr ⟨_, ct_4_5⟩) (lxR5 hL0) ?_
    refine JT_iload_n (q := 1) dX4_lessen_23 rfl rfl ?_
    refine JT_iconst (v := 2) dX4_lessen_24 ic_2 ?_
    obtain ⟨o4, h⟩ := h
    refine JS_iast dX4_lessen_25 (lxB6 hL0) (lx2k hL0 _) (lxNk hL0 (Nat.le_of_ble_eq_true rfl)) o4 ?_
    obtain ⟨s5, hs5⟩ : ∃ z, z = (pI (pI s (L0 + 3) (a1).toNatClampNeg ((gI s (L0 + 3) (a1).toNatClampNeg) - a2)) (L0 + 6) (a1).toNatClampNeg (2 : Int32)) := ⟨_, rfl⟩
    replace h := h s5 hs5
    rw [← hs5]
    refine JT_aload_n (q := 0) dX4_lessen_26 rfl rfl ?_
    refine JT_iload_n (q := 1) dX4_lessen_27 rfl rfl ?_
    refine JT_aload_n (q := 0) dX4_lessen_28 rfl rfl ?_
    refine JS_getR (x := (L0 + 9)) dX4_lessen_29 flX4_36 (lxB hL0) (lx2 hL0) (lxN hL0) (Or.inr ⟨_, ct_4_11⟩) (lxR11 hL0) ?_
    refine JT_iload_n (q := 1) dX4_lessen_32 rfl rfl ?_
    obtain ⟨o6, h⟩ := h
    refine JS_iald dX4_lessen_33 (lxB9 hL0) (lx2k hL0 _) (lxNk hL0 (Nat.le_of_ble_eq_true rfl)) o6 ?_
    obtain ⟨o12, h⟩ := h
    refine JS_callVV (M' := MX4_takeOff) (d' := 2) (As := [.int a1, .int (gI s5 (L0 + 9) (a1).toNatClampNeg)]) (rest := []) (P := (fun wm9 => (mX4_takeOff s5 L0 P0 a1 (gI s5 (L0 + 9) (a1).toNatClampNeg)) = wm9)) dX4_lessen_34 cvX4_172 okX4_takeOff rfl (Nat.le_of_ble_eq_true rfl) (lxB hL0) (lx2 hL0) (lxN hL0) hci_4 (Nat.le_of_ble_eq_true rfl) (Nat.le_of_ble_eq_true rfl) (pX4_takeOff hL0 (a1) ((gI s5 (L0 + 9) (a1).toNatClampNeg)) o12 rfl) (fun wm9 hq9 => ?_)
    subst hq9
    refine JT_aload_n (q := 0) dX4_lessen_37 rfl rfl ?_
    refine JT_iload_n (q := 1) dX4_lessen_38 rfl rfl ?_
    refine JT_aload_n (q := 0) dX4_lessen_39 rfl rfl ?_
    refine JS_getR (x := (L0 + 10)) dX4_lessen_40 flX4_39 (lxB hL0) (lx2 hL0) (lxN hL0) (Or.inr ⟨_, ct_4_12⟩) (lxR12 hL0) ?_
    refine JT_iload_n (q := 1) dX4_lessen_43 rfl rfl ?_
    obtain ⟨o7, h⟩ := h
    refine JS_iald dX4_lessen_44 (lxB10 hL0) (lx2k hL0 _) (lxNk hL0 (Nat.le_of_ble_eq_true rfl)) o7 ?_
    obtain ⟨o11, h⟩ := h
    refine JS_callVV (M' := MX4_takeOff) (d' := 2) (As := [.int a1, .int (gI (mX4_takeOff s5 L0 P0 a1 (gI s5 (L0 + 9) (a1).toNatClampNeg)) (L0 + 10) (a1).toNatClampNeg)]) (rest := []) (P := (fun wm9 => (mX4_takeOff (mX4_takeOff s5 L0 P0 a1 (gI s5 (L0 + 9) (a1).toNatClampNeg)) L0 P0 a1 (gI (mX4_takeOff s5 L0 P0 a1 (gI s5 (L0 + 9) (a1).toNatClampNeg)) (L0 + 10) (a1).toNatClampNeg)) = wm9)) dX4_lessen_45 cvX4_172 okX4_takeOff rfl (Nat.le_of_ble_eq_true rfl) (lxB hL0) (lx2 hL0) (lxN hL0) hci_4 (Nat.le_of_ble_eq_true rfl) (Nat.le_of_ble_eq_true rfl) (pX4_takeOff hL0 (a1) ((gI (mX4_takeOff s5 L0 P0 a1 (gI s5 (L0 + 9) (a1).toNatClampNeg)) (L0 + 10) (a1).toNatClampNeg)) o11 rfl) (fun wm9 hq9 => ?_)
    subst hq9
    obtain ⟨s8, hs8⟩ : ∃ z, z = (mX4_takeOff (mX4_takeOff s5 L0 P0 a1 (gI s5 (L0 + 9) (a1).toNatClampNeg)) L0 P0 a1 (gI (mX4_takeOff s5 L0 P0 a1 (gI s5 (L0 + 9) (a1).toNatClampNeg)) (L0 + 10) (a1).toNatClampNeg)) := ⟨_, rfl⟩
    replace h := h s8 hs8
    rw [← hs8]
    refine JT_aload_n (q := 0) dX4_lessen_48 rfl rfl ?_
    refine JS_getR (x := (L0 + 9)) dX4_lessen_49 flX4_36 (lxB hL0) (lx2 hL0) (lxN hL0) (Or.inr ⟨_, ct_4_11⟩) (lxR11 hL0) ?_
    refine JT_iload_n (q := 1) dX4_lessen_52 rfl rfl ?_
    refine JT_iconst (v := -1) dX4_lessen_53 ic_m1 ?_
    obtain ⟨o9, h⟩ := h
    refine JS_iast dX4_lessen_54 (lxB9 hL0) (lx2k hL0 _) (lxNk hL0 (Nat.le_of_ble_eq_true rfl)) o9 ?_
    refine JT_aload_n (q := 0) dX4_lessen_55 rfl rfl ?_
    refine JS_getR (x := (L0 + 10)) dX4_lessen_56 flX4_39 (lxB hL0) (lx2 hL0) (lxN hL0) (Or.inr ⟨_, ct_4_12⟩) (lxR12 hL0) ?_
    refine JT_iload_n (q := 1) dX4_lessen_59 rfl rfl ?_
    refine JT_iconst (v := -1) dX4_lessen_60 ic_m1 ?_
    obtain ⟨o10, h⟩ := h
    refine JS_iast dX4_lessen_61 (lxB10 hL0) (lx2k hL0 _) (lxNk hL0 (Nat.le_of_ble_eq_true rfl)) o10 ?_
    exact JS_vret dX4_lessen_62 rfl h
set_option maxRecDepth 1000000 in
theorem pX4_lessen {L0 P0 : Nat} (hL0 : (L0, P0) ∈ LX) (a1 : Int32) (a2 : Int32) {s : SM} {Q : SM → Prop} (hr : rX4_lessen s L0 P0 a1 a2) (h : Q (mX4_lessen s L0 P0 a1 a2)) : KV MX4_lessen 3 [.ref L0, .int a1, .int a2] s Q := by
  refine bX4_lessen hL0 a1 a2 ?_
  unfold rX4_lessen at hr
  unfold mX4_lessen at h
  refine ⟨hr.1, ?_⟩
  replace hr := hr.2
  refine ⟨hr.1, ?_⟩
  replace hr := hr.2
  refine ⟨hr.1, ?_⟩
  replace hr := hr.2
  refine ⟨fun c => ?_, fun c => ?_⟩
  · replace h := q1n c h
    first | exact h | contradiction
  · replace hr := hr c
    replace h := q1p c h
    refine ⟨hr.1, ?_⟩
    replace hr := hr.2
    intro s5 e9
    replace hr := hr s5 e9
    try rw [← e9] at h
    try dsimp only at h
    refine ⟨hr.1, ?_⟩
    replace hr := hr.2
    refine ⟨hr.1, ?_⟩
    replace hr := hr.2
    refine ⟨hr.1, ?_⟩
    replace hr := hr.2
    refine ⟨hr.1, ?_⟩
    replace hr := hr.2
    intro s8 e9
    replace hr := hr s8 e9
    try rw [← e9] at h
    try dsimp only at h
    refine ⟨hr.1, ?_⟩
    replace hr := hr.2
    refine ⟨hr, ?_⟩
    first | exact h | contradiction
set_option maxRecDepth 1000000 in
theorem bX4_tryScar {L0 P0 : Nat} (hL0 : (L0, P0) ∈ LX) (a1 : Int32) (a2 : Int32) {s : SM} {Q : Int32 → SM → Prop} (h : rX4_isOpen s L0 P0 a1 ∧ ((¬ (vX4_isOpen s L0 P0 a1) = 0 → rX4_isReadable s L0 P0 a1 a2 ∧ ((¬ (vX4_isReadable s L0 P0 a1 a2) = 0 → vp_in a1 60 ∧ vp_in a1 60 ∧ Q (0 : Int32) (pI s (L0 + 11) (a1).toNatClampNeg ((gI s (L0 + 11) (a1).toNatClampNeg) ||| ((1 : Int32) <<< (a2 &&& 31))))) ∧ ((vX4_isReadable s L0 P0 a1 a2) = 0 → Q (6 : Int32) s))) ∧ ((vX4_isOpen s L0 P0 a1) = 0 → Q (4 : Int32) s))) : KI MX4_tryScar 3 [.ref L0, .int a1, .int a2] s Q := by
  show BI MX4_tryScar 3 0 [(0, .ref L0), (1, .int a1), (2, .int a2)] s Q
  refine JT_aload_n (q := 0) dX4_tryScar_0 rfl rfl ?_
  refine JT_iload_n (q := 1) dX4_tryScar_1 rfl rfl ?_
  obtain ⟨o6, h⟩ := h
  refine JS_callVI (M' := MX4_isOpen) (d' := 1) (As := [.int a1]) (rest := []) (P := (fun zv9 wm9 => (vX4_isOpen s L0 P0 a1) = zv9 ∧ s = wm9)) dX4_tryScar_2 cvX4_94 okX4_isOpen rfl (Nat.le_of_ble_eq_true rfl) (lxB hL0) (lx2 hL0) (lxN hL0) hci_4 (Nat.le_of_ble_eq_true rfl) (Nat.le_of_ble_eq_true rfl) (pX4_isOpen hL0 (a1) o6 ⟨rfl, rfl⟩) (fun zv9 wm9 hq9 => ?_)
  obtain ⟨rfl, rfl⟩ := hq9
  refine JT_if_ne (tgt := 10) dX4_tryScar_5 (by decide) (fun hc5 => ?_) (fun hc5 => ?_)
  · have h := h.1 hc5
    refine JT_aload_n (q := 0) dX4_tryScar_10 rfl rfl ?_
    refine JT_iload_n (q := 1) dX4_tryScar_11 rfl rfl ?_
    refine JT_iload_n (q := 2) dX4_tryScar_12 rfl rfl ?_
    obtain ⟨o4, h⟩ := h
    refine JS_callVI (M' := MX4_isReadable) (d' := 2) (As := [.int a1, .int a2]) (rest := []) (P := (fun zv9 wm9 => (vX4_isReadable s L0 P0 a1 a2) = zv9 ∧ s = wm9)) dX4_tryScar_13 cvX4_88 okX4_isReadable rfl (Nat.le_of_ble_eq_true rfl) (lxB hL0) (lx2 hL0) (lxN hL0) hci_4 (Nat.le_of_ble_eq_true rfl) (Nat.le_of_ble_eq_true rfl) (pX4_isReadable hL0 (a1) (a2) o4 ⟨rfl, rfl⟩) (fun zv9 wm9 hq9 => ?_)
    obtain ⟨rfl, rfl⟩ := hq9
    refine JT_if_ne (tgt := 22) dX4_tryScar_16 (by decide) (fun hc3 => ?_) (fun hc3 => ?_)
    · have h := h.1 hc3
      refine JT_aload_n (q := 0) dX4_tryScar_22 rfl rfl ?_
      refine JS_getR (x := (L0 + 11)) dX4_tryScar_23 flX4_42 (lxB hL0) (lx2 hL0) (lxN hL0) (Or.inr ⟨_, ct_4_13⟩) (lxR13 hL0) ?_
      refine JT_iload_n (q := 1) dX4_tryScar_26 rfl rfl ?_
      refine JT_dup2 dX4_tryScar_27 rfl rfl ?_
      obtain ⟨o1, h⟩ := h
      refine JS_iald dX4_tryScar_28 (lxB11 hL0) (lx2k hL0 _) (lxNk hL0 (Nat.le_of_ble_eq_true rfl)) o1 ?_
      refine JT_iconst (v := 1) dX4_tryScar_29 ic_1 ?_
      refine JT_iload_n (q := 2) dX4_tryScar_30 rfl rfl ?_
      refine JT_ishl dX4_tryScar_31 ?_
      refine JT_ior dX4_tryScar_32 ?_
      obtain ⟨o2, h⟩ := h
      refine JS_iast dX4_tryScar_33 (lxB11 hL0) (lx2k hL0 _) (lxNk hL0 (Nat.le_of_ble_eq_true rfl)) o2 ?_
      refine JT_iconst (v := 0) dX4_tryScar_34 ic_0 ?_
      exact JS_iret dX4_tryScar_35 rfl rfl h
    · have h := h.2 hc3
      refine JT_bipush (v := 6) dX4_tryScar_19 bp_6 ?_
      exact JS_iret dX4_tryScar_21 rfl rfl h
  · have h := h.2 hc5
    refine JT_iconst (v := 4) dX4_tryScar_8 ic_4 ?_
    exact JS_iret dX4_tryScar_9 rfl rfl h
set_option maxRecDepth 1000000 in
theorem pX4_tryScar {L0 P0 : Nat} (hL0 : (L0, P0) ∈ LX) (a1 : Int32) (a2 : Int32) {s : SM} {Q : Int32 → SM → Prop} (hr : rX4_tryScar s L0 P0 a1 a2) (h : Q (vX4_tryScar s L0 P0 a1 a2) (mX4_tryScar s L0 P0 a1 a2)) : KI MX4_tryScar 3 [.ref L0, .int a1, .int a2] s Q := by
  refine bX4_tryScar hL0 a1 a2 ?_
  unfold rX4_tryScar at hr
  unfold vX4_tryScar mX4_tryScar at h
  refine ⟨hr.1, ?_⟩
  replace hr := hr.2
  refine ⟨fun c => ?_, fun c => ?_⟩
  · replace hr := hr c
    replace h := q2n c h
    refine ⟨hr.1, ?_⟩
    replace hr := hr.2
    refine ⟨fun c => ?_, fun c => ?_⟩
    · replace hr := hr c
      replace h := q2n c h
      refine ⟨hr.1, ?_⟩
      replace hr := hr.2
      refine ⟨hr, ?_⟩
      first | exact h | contradiction
    · replace h := q2p c h
      first | exact h | contradiction
  · replace h := q2p c h
    first | exact h | contradiction
set_option maxRecDepth 1000000 in
theorem bX4_tryStrike_40 {L0 P0 : Nat} (hL0 : (L0, P0) ∈ LX) (a1 : Int32) (a2 : Int32) {s : SM} {Q : Int32 → SM → Prop} (h : (((1 : Int32) < a2 → Q (0 : Int32) s) ∧ (¬ (1 : Int32) < a2 → rX4_bearer s L0 P0 a1 a2 ∧ ((¬ (vX4_isBuried s L0 P0 (vX4_bearer s L0 P0 a1 a2)) = 0 → BI MX4_tryStrike 3 40 [(0, .ref L0), (1, .int a1), (2, .int (a2 + 1))] s Q) ∧ ((vX4_isBuried s L0 P0 (vX4_bearer s L0 P0 a1 a2)) = 0 → rX4_bearer s L0 P0 a1 a2 ∧ rX4_scratch s L0 P0 (vX4_bearer s L0 P0 a1 a2) (gI s P0 8) ∧ BI MX4_tryStrike 3 40 [(0, .ref L0), (1, .int a1), (2, .int (a2 + 1))] (mX4_scratch s L0 P0 (vX4_bearer s L0 P0 a1 a2) (gI s P0 8)) Q))))) : BI MX4_tryStrike 3 40 [(0, .ref L0), (1, .int a1), (2, .int a2)] s Q := by
  refine JT_iload_n (q := 2) dX4_tryStrike_40 rfl rfl ?_
  refine JT_iconst (v := 1) dX4_tryStrike_41 ic_1 ?_
  refine JT_icmp_gt (tgt := 81) dX4_tryStrike_42 (by decide) (fun hc6 => ?_) (fun hc6 => ?_)
  · have h := h.1 hc6
    refine JT_iconst (v := 0) dX4_tryStrike_81 ic_0 ?_
    exact JS_iret dX4_tryStrike_82 rfl rfl h
  · have h := h.2 hc6
    refine JT_aload_n (q := 0) dX4_tryStrike_45 rfl rfl ?_
    refine JT_aload_n (q := 0) dX4_tryStrike_46 rfl rfl ?_
    refine JT_iload_n (q := 1) dX4_tryStrike_47 rfl rfl ?_
    refine JT_iload_n (q := 2) dX4_tryStrike_48 rfl rfl ?_
    obtain ⟨o5, h⟩ := h
    refine JS_callVI (M' := MX4_bearer) (d' := 0) (As := [.int a1, .int a2]) (rest := [.ref L0]) (P := (fun zv9 wm9 => (vX4_bearer s L0 P0 a1 a2) = zv9 ∧ s = wm9)) dX4_tryStrike_49 cvX4_78 okX4_bearer rfl (Nat.le_of_ble_eq_true rfl) (lxB hL0) (lx2 hL0) (lxN hL0) hci_4 (Nat.le_of_ble_eq_true rfl) (Nat.le_of_ble_eq_true rfl) (pX4_bearer hL0 (a1) (a2) o5 ⟨rfl, rfl⟩) (fun zv9 wm9 hq9 => ?_)
    obtain ⟨rfl, rfl⟩ := hq9
    refine JS_callVI (M' := MX4_isBuried) (d' := 1) (As := [.int (vX4_bearer s L0 P0 a1 a2)]) (rest := []) (P := (fun zv9 wm9 => (vX4_isBuried s L0 P0 (vX4_bearer s L0 P0 a1 a2)) = zv9 ∧ s = wm9)) dX4_tryStrike_52 cvX4_141 okX4_isBuried rfl (Nat.le_of_ble_eq_true rfl) (lxB hL0) (lx2 hL0) (lxN hL0) hci_4 (Nat.le_of_ble_eq_true rfl) (Nat.le_of_ble_eq_true rfl) (pX4_isBuried hL0 ((vX4_bearer s L0 P0 a1 a2))  ⟨rfl, rfl⟩) (fun zv9 wm9 hq9 => ?_)
    obtain ⟨rfl, rfl⟩ := hq9
    refine JT_if_ne (tgt := 75) dX4_tryStrike_55 (by decide) (fun hc3 => ?_) (fun hc3 => ?_)
    · have h := h.1 hc3
      refine JT_iinc (q := 2) (v := (a2 + 1)) (lv' := [(2, .int (a2 + 1)), (0, .ref L0), (1, .int a1)]) dX4_tryStrike_75 rfl (by rfl) (Nat.le_of_ble_eq_true rfl) rfl ?_
      refine JT_goto (tgt := 40) dX4_tryStrike_78 (by decide) ?_
      exact JT_sub [1, 2, 0] rfl h
    · have h := h.2 hc3
      refine JT_aload_n (q := 0) dX4_tryStrike_58 rfl rfl ?_
      refine JT_aload_n (q := 0) dX4_tryStrike_59 rfl rfl ?_
      refine JT_iload_n (q := 1) dX4_tryStrike_60 rfl rfl ?_
      refine JT_iload_n (q := 2) dX4_tryStrike_61 rfl rfl ?_
      obtain ⟨o2, h⟩ := h
      refine JS_callVI (M' := MX4_bearer) (d' := 0) (As := [.int a1, .int a2]) (rest := [.ref L0]) (P := (fun zv9 wm9 => (vX4_bearer s L0 P0 a1 a2) = zv9 ∧ s = wm9)) dX4_tryStrike_62 cvX4_78 okX4_bearer rfl (Nat.le_of_ble_eq_true rfl) (lxB hL0) (lx2 hL0) (lxN hL0) hci_4 (Nat.le_of_ble_eq_true rfl) (Nat.le_of_ble_eq_true rfl) (pX4_bearer hL0 (a1) (a2) o2 ⟨rfl, rfl⟩) (fun zv9 wm9 hq9 => ?_)
      obtain ⟨rfl, rfl⟩ := hq9
      refine JT_aload_n (q := 0) dX4_tryStrike_65 rfl rfl ?_
      refine JS_getR (x := P0) dX4_tryStrike_66 flX4_45 (lxB hL0) (lx2 hL0) (lxN hL0) (Or.inl ⟨_, ct_4_8⟩) (lxR8 hL0) ?_
      refine JS_getI dX4_tryStrike_69 flX4_138 (pxB (lxP hL0)) (px2 (lxP hL0)) (pxN (lxP hL0)) (Or.inl ct_6_8) ?_
      obtain ⟨o1, h⟩ := h
      refine JS_callVV (M' := MX4_scratch) (d' := 0) (As := [.int (vX4_bearer s L0 P0 a1 a2), .int (gI s P0 8)]) (rest := []) (P := (fun wm9 => (mX4_scratch s L0 P0 (vX4_bearer s L0 P0 a1 a2) (gI s P0 8)) = wm9)) dX4_tryStrike_72 cvX4_147 okX4_scratch rfl (Nat.le_of_ble_eq_true rfl) (lxB hL0) (lx2 hL0) (lxN hL0) hci_4 (Nat.le_of_ble_eq_true rfl) (Nat.le_of_ble_eq_true rfl) (pX4_scratch hL0 ((vX4_bearer s L0 P0 a1 a2)) ((gI s P0 8)) o1 rfl) (fun wm9 hq9 => ?_)
      subst hq9
      refine JT_iinc (q := 2) (v := (a2 + 1)) (lv' := [(2, .int (a2 + 1)), (0, .ref L0), (1, .int a1)]) dX4_tryStrike_75 rfl (by rfl) (Nat.le_of_ble_eq_true rfl) rfl ?_
      refine JT_goto (tgt := 40) dX4_tryStrike_78 (by decide) ?_
      exact JT_sub [1, 2, 0] rfl h
set_option maxRecDepth 1000000 in
theorem bX4_tryStrike {L0 P0 : Nat} (hL0 : (L0, P0) ∈ LX) (a1 : Int32) {s : SM} {Q : Int32 → SM → Prop} (h : rX4_isOpen s L0 P0 a1 ∧ ((¬ (vX4_isOpen s L0 P0 a1) = 0 → vp_in a1 60 ∧ vp_in a1 60 ∧ rX4_hasRoomForLines s L0 P0 (gI s (L0 + 9) (a1).toNatClampNeg) (gI s (L0 + 10) (a1).toNatClampNeg) ∧ ((¬ (vX4_hasRoomForLines s L0 P0 (gI s (L0 + 9) (a1).toNatClampNeg) (gI s (L0 + 10) (a1).toNatClampNeg)) = 0 → vp_in a1 60 ∧ BI MX4_tryStrike 3 40 [(0, .ref L0), (1, .int a1), (2, .int (0 : Int32))] (pI s (L0 + 6) (a1).toNatClampNeg (1 : Int32)) Q) ∧ ((vX4_hasRoomForLines s L0 P0 (gI s (L0 + 9) (a1).toNatClampNeg) (gI s (L0 + 10) (a1).toNatClampNeg)) = 0 → Q (5 : Int32) s))) ∧ ((vX4_isOpen s L0 P0 a1) = 0 → Q (4 : Int32) s))) : KI MX4_tryStrike 3 [.ref L0, .int a1] s Q := by
  show BI MX4_tryStrike 3 0 [(0, .ref L0), (1, .int a1)] s Q
  refine JT_aload_n (q := 0) dX4_tryStrike_0 rfl rfl ?_
  refine JT_iload_n (q := 1) dX4_tryStrike_1 rfl rfl ?_
  obtain ⟨o7, h⟩ := h
  refine JS_callVI (M' := MX4_isOpen) (d' := 1) (As := [.int a1]) (rest := []) (P := (fun zv9 wm9 => (vX4_isOpen s L0 P0 a1) = zv9 ∧ s = wm9)) dX4_tryStrike_2 cvX4_94 okX4_isOpen rfl (Nat.le_of_ble_eq_true rfl) (lxB hL0) (lx2 hL0) (lxN hL0) hci_4 (Nat.le_of_ble_eq_true rfl) (Nat.le_of_ble_eq_true rfl) (pX4_isOpen hL0 (a1) o7 ⟨rfl, rfl⟩) (fun zv9 wm9 hq9 => ?_)
  obtain ⟨rfl, rfl⟩ := hq9
  refine JT_if_ne (tgt := 10) dX4_tryStrike_5 (by decide) (fun hc6 => ?_) (fun hc6 => ?_)
  · have h := h.1 hc6
    refine JT_aload_n (q := 0) dX4_tryStrike_10 rfl rfl ?_
    refine JT_aload_n (q := 0) dX4_tryStrike_11 rfl rfl ?_
    refine JS_getR (x := (L0 + 9)) dX4_tryStrike_12 flX4_36 (lxB hL0) (lx2 hL0) (lxN hL0) (Or.inr ⟨_, ct_4_11⟩) (lxR11 hL0) ?_
    refine JT_iload_n (q := 1) dX4_tryStrike_15 rfl rfl ?_
    obtain ⟨o1, h⟩ := h
    refine JS_iald dX4_tryStrike_16 (lxB9 hL0) (lx2k hL0 _) (lxNk hL0 (Nat.le_of_ble_eq_true rfl)) o1 ?_
    refine JT_aload_n (q := 0) dX4_tryStrike_17 rfl rfl ?_
    refine JS_getR (x := (L0 + 10)) dX4_tryStrike_18 flX4_39 (lxB hL0) (lx2 hL0) (lxN hL0) (Or.inr ⟨_, ct_4_12⟩) (lxR12 hL0) ?_
    refine JT_iload_n (q := 1) dX4_tryStrike_21 rfl rfl ?_
    obtain ⟨o2, h⟩ := h
    refine JS_iald dX4_tryStrike_22 (lxB10 hL0) (lx2k hL0 _) (lxNk hL0 (Nat.le_of_ble_eq_true rfl)) o2 ?_
    obtain ⟨o5, h⟩ := h
    refine JS_callVI (M' := MX4_hasRoomForLines) (d' := 2) (As := [.int (gI s (L0 + 9) (a1).toNatClampNeg), .int (gI s (L0 + 10) (a1).toNatClampNeg)]) (rest := []) (P := (fun zv9 wm9 => (vX4_hasRoomForLines s L0 P0 (gI s (L0 + 9) (a1).toNatClampNeg) (gI s (L0 + 10) (a1).toNatClampNeg)) = zv9 ∧ s = wm9)) dX4_tryStrike_23 cvX4_144 okX4_hasRoomForLines rfl (Nat.le_of_ble_eq_true rfl) (lxB hL0) (lx2 hL0) (lxN hL0) hci_4 (Nat.le_of_ble_eq_true rfl) (Nat.le_of_ble_eq_true rfl) (pX4_hasRoomForLines hL0 ((gI s (L0 + 9) (a1).toNatClampNeg)) ((gI s (L0 + 10) (a1).toNatClampNeg)) o5 ⟨rfl, rfl⟩) (fun zv9 wm9 hq9 => ?_)
    obtain ⟨rfl, rfl⟩ := hq9
    refine JT_if_ne (tgt := 31) dX4_tryStrike_26 (by decide) (fun hc4 => ?_) (fun hc4 => ?_)
    · have h := h.1 hc4
      refine JT_aload_n (q := 0) dX4_tryStrike_31 rfl rfl ?_
      refine JS_getR (x := (L0 + 6)) dX4_tryStrike_32 flX4_27 (lxB hL0) (lx2 hL0) (lxN hL0) (Or.inr ⟨_, ct_4_5⟩) (lxR5 hL0) ?_
      refine JT_iload_n (q := 1) dX4_tryStrike_35 rfl rfl ?_
      refine JT_iconst (v := 1) dX4_tryStrike_36 ic_1 ?_
      obtain ⟨o3, h⟩ := h
      refine JS_iast dX4_tryStrike_37 (lxB6 hL0) (lx2k hL0 _) (lxNk hL0 (Nat.le_of_ble_eq_true rfl)) o3 ?_
      refine JT_iconst (v := 0) dX4_tryStrike_38 ic_0 ?_
      refine JT_istore_n (lv' := [(2, .int (0 : Int32)), (0, .ref L0), (1, .int a1)]) dX4_tryStrike_39 rfl (Nat.le_of_ble_eq_true rfl) rfl ?_
      exact JT_sub [1, 2, 0] rfl h
    · have h := h.2 hc4
      refine JT_iconst (v := 5) dX4_tryStrike_29 ic_5 ?_
      exact JS_iret dX4_tryStrike_30 rfl rfl h
  · have h := h.2 hc6
    refine JT_iconst (v := 4) dX4_tryStrike_8 ic_4 ?_
    exact JS_iret dX4_tryStrike_9 rfl rfl h
set_option maxRecDepth 1000000 in
theorem gX4_tryStrike {L0 P0 : Nat} (hL0 : (L0, P0) ∈ LX) : ∀ n : Nat, (∀ (a1 : Int32) (a2 : Int32) (s : SM) (Q : Int32 → SM → Prop), ((qX4_tryStrike n) s L0 P0 a1 a2) → Q ((lX4_tryStrike n) s L0 P0 a1 a2).1 ((lX4_tryStrike n) s L0 P0 a1 a2).2 → BI MX4_tryStrike 3 40 [(0, .ref L0), (1, .int a1), (2, .int a2)] s Q) := by
  intro n
  induction n with
  | zero => exact fun _ _ _ _ hq _ => absurd hq id
  | succ n ih =>
    intro a1 a2 s Q hr h
    replace hr : uX4_tryStrike_40 (qX4_tryStrike n) s L0 P0 a1 a2 := hr
    replace h : Q (tX4_tryStrike_40 (lX4_tryStrike n) s L0 P0 a1 a2).1 (tX4_tryStrike_40 (lX4_tryStrike n) s L0 P0 a1 a2).2 := h
    unfold uX4_tryStrike_40 at hr
    unfold tX4_tryStrike_40 at h
    refine bX4_tryStrike_40 hL0 a1 a2 ?_
    refine ⟨fun c => ?_, fun c => ?_⟩
    · replace h := q3p c h
      first | exact h | contradiction
    · replace hr := hr c
      replace h := q3n c h
      refine ⟨hr.1, ?_⟩
      replace hr := hr.2
      refine ⟨fun c => ?_, fun c => ?_⟩
      · replace hr := hr.1 c
        replace h := q3n c h
        first | exact ih a1 (a2 + 1) _ Q hr h | contradiction
      · replace hr := hr.2 c
        replace h := q3p c h
        refine ⟨hr.1, ?_⟩
        replace hr := hr.2
        refine ⟨hr.1, ?_⟩
        replace hr := hr.2
        first | exact ih a1 (a2 + 1) _ Q hr h | contradiction
set_option maxRecDepth 1000000 in
theorem pX4_tryStrike {L0 P0 : Nat} (hL0 : (L0, P0) ∈ LX) (a1 : Int32) {s : SM} {Q : Int32 → SM → Prop} (hr : rX4_tryStrike s L0 P0 a1) (h : Q (vX4_tryStrike s L0 P0 a1) (mX4_tryStrike s L0 P0 a1)) : KI MX4_tryStrike 3 [.ref L0, .int a1] s Q := by
  replace h : Q (fX4_tryStrike s L0 P0 a1).1 (fX4_tryStrike s L0 P0 a1).2 := h
  unfold rX4_tryStrike at hr
  unfold fX4_tryStrike at h
  refine bX4_tryStrike hL0 a1 ?_
  refine ⟨hr.1, ?_⟩
  replace hr := hr.2
  refine ⟨fun c => ?_, fun c => ?_⟩
  · replace hr := hr c
    replace h := q3n c h
    refine ⟨hr.1, ?_⟩
    replace hr := hr.2
    refine ⟨hr.1, ?_⟩
    replace hr := hr.2
    refine ⟨hr.1, ?_⟩
    replace hr := hr.2
    refine ⟨fun c => ?_, fun c => ?_⟩
    · replace hr := hr c
      replace h := q3n c h
      refine ⟨hr.1, ?_⟩
      replace hr := hr.2
      first | exact (gX4_tryStrike hL0 FU) a1 (0 : Int32) _ Q hr h | contradiction
    · replace h := q3p c h
      first | exact h | contradiction
  · replace h := q3p c h
    first | exact h | contradiction
set_option maxRecDepth 1000000 in
theorem bX4_wrongToWrite {L0 P0 : Nat} (hL0 : (L0, P0) ∈ LX) (a1 : Int32) (a2 : Int32) (a3 : Int32) {s : SM} {Q : Int32 → SM → Prop} (h : ((a1 = a2 → Q (1 : Int32) s) ∧ (¬ a1 = a2 → (((vX4_lives s L0 P0 a1) = 0 → Q (1 : Int32) s) ∧ (¬ (vX4_lives s L0 P0 a1) = 0 → ((¬ (vX4_lives s L0 P0 a2) = 0 → vp_in a3 6 ∧ rX4_bearerFor s L0 P0 a1 (gI s (P0 + 5) (a3).toNatClampNeg) ∧ ((¬ (vX4_bearerFor s L0 P0 a1 (gI s (P0 + 5) (a3).toNatClampNeg)) = (-1 : Int32) → vp_in a3 6 ∧ rX4_debtBearerFor s L0 P0 a2 (gI s (P0 + 5) (a3).toNatClampNeg) (vX4_bearerFor s L0 P0 a1 (gI s (P0 + 5) (a3).toNatClampNeg)) ∧ (∀ s3, s3 = (mX4_debtBearerFor s L0 P0 a2 (gI s (P0 + 5) (a3).toNatClampNeg) (vX4_bearerFor s L0 P0 a1 (gI s (P0 + 5) (a3).toNatClampNeg))) → ((¬ (vX4_debtBearerFor s L0 P0 a2 (gI s (P0 + 5) (a3).toNatClampNeg) (vX4_bearerFor s L0 P0 a1 (gI s (P0 + 5) (a3).toNatClampNeg))) = (-1 : Int32) → Q (if (gI s3 L0 9) < (60 : Int32) then (0 : Int32) else (7 : Int32)) s3) ∧ ((vX4_debtBearerFor s L0 P0 a2 (gI s (P0 + 5) (a3).toNatClampNeg) (vX4_bearerFor s L0 P0 a1 (gI s (P0 + 5) (a3).toNatClampNeg))) = (-1 : Int32) → Q (3 : Int32) s3)))) ∧ ((vX4_bearerFor s L0 P0 a1 (gI s (P0 + 5) (a3).toNatClampNeg)) = (-1 : Int32) → Q (2 : Int32) s))) ∧ ((vX4_lives s L0 P0 a2) = 0 → Q (1 : Int32) s))))))) : KI MX4_wrongToWrite 3 [.ref L0, .int a1, .int a2, .int a3] s Q := by
  show BI MX4_wrongToWrite 3 0 [(0, .ref L0), (1, .int a1), (2, .int a2), (3, .int a3)] s Q
  refine JT_iload_n (q := 1) dX4_wrongToWrite_0 rfl rfl ?_
  refine JT_iload_n (q := 2) dX4_wrongToWrite_1 rfl rfl ?_
  refine JT_icmp_eq (tgt := 21) dX4_wrongToWrite_2 (by decide) (fun hc14 => ?_) (fun hc14 => ?_)
  · have h := h.1 hc14
    refine JT_iconst (v := 1) dX4_wrongToWrite_21 ic_1 ?_
    exact JS_iret dX4_wrongToWrite_22 rfl rfl h
  · have h := h.2 hc14
    refine JT_aload_n (q := 0) dX4_wrongToWrite_5 rfl rfl ?_
    refine JT_iload_n (q := 1) dX4_wrongToWrite_6 rfl rfl ?_
    refine JS_callVI (M' := MX4_lives) (d' := 0) (As := [.int a1]) (rest := []) (P := (fun zv9 wm9 => (vX4_lives s L0 P0 a1) = zv9 ∧ s = wm9)) dX4_wrongToWrite_7 cvX4_85 okX4_lives rfl (Nat.le_of_ble_eq_true rfl) (lxB hL0) (lx2 hL0) (lxN hL0) hci_4 (Nat.le_of_ble_eq_true rfl) (Nat.le_of_ble_eq_true rfl) (pX4_lives hL0 (a1)  ⟨rfl, rfl⟩) (fun zv9 wm9 hq9 => ?_)
    obtain ⟨rfl, rfl⟩ := hq9
    refine JT_if_eq (tgt := 21) dX4_wrongToWrite_10 (by decide) (fun hc12 => ?_) (fun hc12 => ?_)
    · have h := h.1 hc12
      refine JT_iconst (v := 1) dX4_wrongToWrite_21 ic_1 ?_
      exact JS_iret dX4_wrongToWrite_22 rfl rfl h
    · have h := h.2 hc12
      refine JT_aload_n (q := 0) dX4_wrongToWrite_13 rfl rfl ?_
      refine JT_iload_n (q := 2) dX4_wrongToWrite_14 rfl rfl ?_
      refine JS_callVI (M' := MX4_lives) (d' := 0) (As := [.int a2]) (rest := []) (P := (fun zv9 wm9 => (vX4_lives s L0 P0 a2) = zv9 ∧ s = wm9)) dX4_wrongToWrite_15 cvX4_85 okX4_lives rfl (Nat.le_of_ble_eq_true rfl) (lxB hL0) (lx2 hL0) (lxN hL0) hci_4 (Nat.le_of_ble_eq_true rfl) (Nat.le_of_ble_eq_true rfl) (pX4_lives hL0 (a2)  ⟨rfl, rfl⟩) (fun zv9 wm9 hq9 => ?_)
      obtain ⟨rfl, rfl⟩ := hq9
      refine JT_if_ne (tgt := 23) dX4_wrongToWrite_18 (by decide) (fun hc10 => ?_) (fun hc10 => ?_)
      · have h := h.1 hc10
        refine JT_aload_n (q := 0) dX4_wrongToWrite_23 rfl rfl ?_
        refine JT_iload_n (q := 1) dX4_wrongToWrite_24 rfl rfl ?_
        refine JT_aload_n (q := 0) dX4_wrongToWrite_25 rfl rfl ?_
        refine JS_getR (x := P0) dX4_wrongToWrite_26 flX4_45 (lxB hL0) (lx2 hL0) (lxN hL0) (Or.inl ⟨_, ct_4_8⟩) (lxR8 hL0) ?_
        refine JS_getR (x := (P0 + 5)) dX4_wrongToWrite_29 flX4_128 (pxB (lxP hL0)) (px2 (lxP hL0)) (pxN (lxP hL0)) (Or.inr ⟨_, ct_6_4⟩) (pxR4 (lxP hL0)) ?_
        refine JT_iload_n (q := 3) dX4_wrongToWrite_32 rfl rfl ?_
        obtain ⟨o1, h⟩ := h
        refine JS_iald dX4_wrongToWrite_33 (pxB5 (lxP hL0)) (px2k (lxP hL0) _) (pxNk (lxP hL0) (Nat.le_of_ble_eq_true rfl)) o1 ?_
        obtain ⟨o9, h⟩ := h
        refine JS_callVI (M' := MX4_bearerFor) (d' := 1) (As := [.int a1, .int (gI s (P0 + 5) (a3).toNatClampNeg)]) (rest := []) (P := (fun zv9 wm9 => (vX4_bearerFor s L0 P0 a1 (gI s (P0 + 5) (a3).toNatClampNeg)) = zv9 ∧ s = wm9)) dX4_wrongToWrite_34 cvX4_125 okX4_bearerFor rfl (Nat.le_of_ble_eq_true rfl) (lxB hL0) (lx2 hL0) (lxN hL0) hci_4 (Nat.le_of_ble_eq_true rfl) (Nat.le_of_ble_eq_true rfl) (pX4_bearerFor hL0 (a1) ((gI s (P0 + 5) (a3).toNatClampNeg)) o9 ⟨rfl, rfl⟩) (fun zv9 wm9 hq9 => ?_)
        obtain ⟨rfl, rfl⟩ := hq9
        refine JT_istore (lv' := [(4, .int (vX4_bearerFor s L0 P0 a1 (gI s (P0 + 5) (a3).toNatClampNeg))), (0, .ref L0), (1, .int a1), (2, .int a2), (3, .int a3)]) dX4_wrongToWrite_37 (Nat.le_of_ble_eq_true rfl) rfl ?_
        refine JT_iload (q := 0) dX4_wrongToWrite_39 rfl ?_
        refine JT_iconst (v := -1) dX4_wrongToWrite_41 ic_m1 ?_
        refine JT_icmp_ne (tgt := 47) dX4_wrongToWrite_42 (by decide) (fun hc8 => ?_) (fun hc8 => ?_)
        · have h := h.1 hc8
          refine JT_aload_n (q := 1) dX4_wrongToWrite_47 rfl rfl ?_
          refine JT_iload_n (q := 3) dX4_wrongToWrite_48 rfl rfl ?_
          refine JT_aload_n (q := 1) dX4_wrongToWrite_49 rfl rfl ?_
          refine JS_getR (x := P0) dX4_wrongToWrite_50 flX4_45 (lxB hL0) (lx2 hL0) (lxN hL0) (Or.inl ⟨_, ct_4_8⟩) (lxR8 hL0) ?_
          refine JS_getR (x := (P0 + 5)) dX4_wrongToWrite_53 flX4_128 (pxB (lxP hL0)) (px2 (lxP hL0)) (pxN (lxP hL0)) (Or.inr ⟨_, ct_6_4⟩) (pxR4 (lxP hL0)) ?_
          refine JT_iload_n (q := 4) dX4_wrongToWrite_56 rfl rfl ?_
          obtain ⟨o2, h⟩ := h
          refine JS_iald dX4_wrongToWrite_57 (pxB5 (lxP hL0)) (px2k (lxP hL0) _) (pxNk (lxP hL0) (Nat.le_of_ble_eq_true rfl)) o2 ?_
          refine JT_iload (q := 0) dX4_wrongToWrite_58 rfl ?_
          obtain ⟨o7, h⟩ := h
          refine JS_callVI (M' := MX4_debtBearerFor) (d' := 2) (As := [.int a2, .int (gI s (P0 + 5) (a3).toNatClampNeg), .int (vX4_bearerFor s L0 P0 a1 (gI s (P0 + 5) (a3).toNatClampNeg))]) (rest := []) (P := (fun zv9 wm9 => (vX4_debtBearerFor s L0 P0 a2 (gI s (P0 + 5) (a3).toNatClampNeg) (vX4_bearerFor s L0 P0 a1 (gI s (P0 + 5) (a3).toNatClampNeg))) = zv9 ∧ (mX4_debtBearerFor s L0 P0 a2 (gI s (P0 + 5) (a3).toNatClampNeg) (vX4_bearerFor s L0 P0 a1 (gI s (P0 + 5) (a3).toNatClampNeg))) = wm9)) dX4_wrongToWrite_60 cvX4_131 okX4_debtBearerFor rfl (Nat.le_of_ble_eq_true rfl) (lxB hL0) (lx2 hL0) (lxN hL0) hci_4 (Nat.le_of_ble_eq_true rfl) (Nat.le_of_ble_eq_true rfl) (pX4_debtBearerFor hL0 (a2) ((gI s (P0 + 5) (a3).toNatClampNeg)) ((vX4_bearerFor s L0 P0 a1 (gI s (P0 + 5) (a3).toNatClampNeg))) o7 ⟨rfl, rfl⟩) (fun zv9 wm9 hq9 => ?_)
          obtain ⟨rfl, rfl⟩ := hq9
          obtain ⟨s3, hs3⟩ : ∃ z, z = (mX4_debtBearerFor s L0 P0 a2 (gI s (P0 + 5) (a3).toNatClampNeg) (vX4_bearerFor s L0 P0 a1 (gI s (P0 + 5) (a3).toNatClampNeg))) := ⟨_, rfl⟩
          replace h := h s3 hs3
          rw [← hs3]
          refine JT_iconst (v := -1) dX4_wrongToWrite_63 ic_m1 ?_
          refine JT_icmp_ne (tgt := 69) dX4_wrongToWrite_64 (by decide) (fun hc6 => ?_) (fun hc6 => ?_)
          · have h := h.1 hc6
            refine JT_aload_n (q := 1) dX4_wrongToWrite_69 rfl rfl ?_
            refine JS_getI dX4_wrongToWrite_70 flX4_49 (lxB hL0) (lx2 hL0) (lxN hL0) (Or.inl ct_4_9) ?_
            refine JT_bipush (v := 60) dX4_wrongToWrite_73 bp_60 ?_
            have hj4 : ∀ v : Int32, v = (if (gI s3 L0 9) < (60 : Int32) then (0 : Int32) else (7 : Int32)) → JT MX4_wrongToWrite 3 0 0 84 [(4, .int (vX4_bearerFor s L0 P0 a1 (gI s (P0 + 5) (a3).toNatClampNeg))), (0, .ref L0), (1, .int a1), (2, .int a2), (3, .int a3)] [.int v] (std s3) (KQ Q) := by
              intro v hv
              subst hv
              exact JS_iret dX4_wrongToWrite_84 rfl rfl h
            refine JT_icmp_lt (tgt := 83) dX4_wrongToWrite_75 (by decide) (fun hc5 => ?_) (fun hc5 => ?_)
            · refine JT_iconst (v := 0) dX4_wrongToWrite_83 ic_0 ?_
              exact hj4 _ (by rw [if_pos hc5])
            · refine JT_bipush (v := 7) dX4_wrongToWrite_78 bp_7 ?_
              refine JT_goto (tgt := 84) dX4_wrongToWrite_80 (by decide) ?_
              exact hj4 _ (by rw [if_neg hc5])
          · have h := h.2 hc6
            refine JT_iconst (v := 3) dX4_wrongToWrite_67 ic_3 ?_
            exact JS_iret dX4_wrongToWrite_68 rfl rfl h
        · have h := h.2 hc8
          refine JT_iconst (v := 2) dX4_wrongToWrite_45 ic_2 ?_
          exact JS_iret dX4_wrongToWrite_46 rfl rfl h
      · have h := h.2 hc10
        refine JT_iconst (v := 1) dX4_wrongToWrite_21 ic_1 ?_
        exact JS_iret dX4_wrongToWrite_22 rfl rfl h
set_option maxRecDepth 1000000 in
theorem pX4_wrongToWrite {L0 P0 : Nat} (hL0 : (L0, P0) ∈ LX) (a1 : Int32) (a2 : Int32) (a3 : Int32) {s : SM} {Q : Int32 → SM → Prop} (hr : rX4_wrongToWrite s L0 P0 a1 a2 a3) (h : Q (vX4_wrongToWrite s L0 P0 a1 a2 a3) (mX4_wrongToWrite s L0 P0 a1 a2 a3)) : KI MX4_wrongToWrite 3 [.ref L0, .int a1, .int a2, .int a3] s Q := by
  refine bX4_wrongToWrite hL0 a1 a2 a3 ?_
  unfold rX4_wrongToWrite at hr
  unfold vX4_wrongToWrite mX4_wrongToWrite at h
  refine ⟨fun c => ?_, fun c => ?_⟩
  · replace h := q2p c h
    first | exact h | contradiction
  · replace hr := hr c
    replace h := q2n c h
    refine ⟨fun c => ?_, fun c => ?_⟩
    · replace h := q2p c h
      first | exact h | contradiction
    · replace hr := hr c
      replace h := q2n c h
      refine ⟨fun c => ?_, fun c => ?_⟩
      · replace hr := hr c
        replace h := q2n c h
        refine ⟨hr.1, ?_⟩
        replace hr := hr.2
        refine ⟨hr.1, ?_⟩
        replace hr := hr.2
        refine ⟨fun c => ?_, fun c => ?_⟩
        · replace hr := hr c
          replace h := q2n c h
          refine ⟨hr.1, ?_⟩
          replace hr := hr.2
          refine ⟨hr, ?_⟩
          intro s3 e9
          try rw [← e9] at h
          try dsimp only at h
          refine ⟨fun c => ?_, fun c => ?_⟩
          · replace h := qln c h
            first | exact h | contradiction
          · replace h := qlp c h
            first | exact h | contradiction
        · replace h := q2p c h
          first | exact h | contradiction
      · replace h := q2p c h
        first | exact h | contradiction
set_option maxRecDepth 1000000 in
theorem bX5_take_35 {p2 : Nat} (hp2 : p2 ∈ PX) (a3 : Int32) {s : SM} {Q : Int32 → SM → Prop} (h : (((gI s 225 0) ≤ a3 → Q (1 : Int32) s) ∧ (¬ (gI s 225 0) ≤ a3 → rX9_byteOr s ((3 : Int32) * a3) (0 : Int32) ∧ vp_in a3 6 ∧ rX9_byteOr (pI s 226 (a3).toNatClampNeg (vX9_byteOr s ((3 : Int32) * a3) (0 : Int32))) (((3 : Int32) * a3) + (1 : Int32)) (0 : Int32) ∧ vp_in a3 6 ∧ (∀ s3, s3 = (pI (pI s 226 (a3).toNatClampNeg (vX9_byteOr s ((3 : Int32) * a3) (0 : Int32))) 227 (a3).toNatClampNeg (vX9_byteOr (pI s 226 (a3).toNatClampNeg (vX9_byteOr s ((3 : Int32) * a3) (0 : Int32))) (((3 : Int32) * a3) + (1 : Int32)) (0 : Int32))) → rX9_byteOr s3 (((3 : Int32) * a3) + (2 : Int32)) (0 : Int32) ∧ vp_in a3 6 ∧ BI MX5_take 3 35 [(0, .ref 225), (1, .ref 3), (2, .ref p2), (3, .int (a3 + 1))] (pI s3 228 (a3).toNatClampNeg (vX9_byteOr s3 (((3 : Int32) * a3) + (2 : Int32)) (0 : Int32))) Q)))) : BI MX5_take 3 35 [(0, .ref 225), (1, .ref 3), (2, .ref p2), (3, .int a3)] s Q := by
  refine JT_iload_n (q := 3) dX5_take_35 rfl rfl ?_
  refine JT_aload_n (q := 0) dX5_take_36 rfl rfl ?_
  refine JS_getI dX5_take_37 flX5_58 BS_225 (Nat.le_of_ble_eq_true rfl) (Nat.le_of_ble_eq_true rfl) (Or.inl ct_5_0) ?_
  refine JT_icmp_ge (tgt := 95) dX5_take_40 (by decide) (fun hc8 => ?_) (fun hc8 => ?_)
  · have h := h.1 hc8
    refine JT_iconst (v := 1) dX5_take_95 ic_1 ?_
    exact JS_iret dX5_take_96 rfl (n01 (Or.inr rfl)) h
  · have h := h.2 hc8
    refine JT_aload_n (q := 0) dX5_take_43 rfl rfl ?_
    refine JS_getR (x := 226) dX5_take_44 flX5_9 BS_225 (Nat.le_of_ble_eq_true rfl) (Nat.le_of_ble_eq_true rfl) (Or.inr ⟨_, ct_5_2⟩) RF_225_2 ?_
    refine JT_iload_n (q := 3) dX5_take_47 rfl rfl ?_
    refine JT_aload_n (q := 1) dX5_take_48 rfl rfl ?_
    refine JT_iconst (v := 3) dX5_take_49 ic_3 ?_
    refine JT_iload_n (q := 3) dX5_take_50 rfl rfl ?_
    refine JT_imul dX5_take_51 ?_
    refine JT_iconst (v := 0) dX5_take_52 ic_0 ?_
    obtain ⟨o7, h⟩ := h
    refine JS_callVI (M' := MX9_byteOr) (d' := 0) (As := [.int ((3 : Int32) * a3), .int (0 : Int32)]) (rest := [.int a3, .ref 226]) (P := (fun zv9 wm9 => (vX9_byteOr s ((3 : Int32) * a3) (0 : Int32)) = zv9 ∧ s = wm9)) dX5_take_53 cvX5_39 okX9_byteOr rfl (Nat.le_of_ble_eq_true rfl) BS_3 (Nat.le_of_ble_eq_true rfl) (Nat.le_of_ble_eq_true rfl) hci_9 (Nat.le_of_ble_eq_true rfl) (Nat.le_of_ble_eq_true rfl) (pX9_byteOr  (((3 : Int32) * a3)) ((0 : Int32)) o7 ⟨rfl, rfl⟩) (fun zv9 wm9 hq9 => ?_)
    obtain ⟨rfl, rfl⟩ := hq9
    obtain ⟨o1, h⟩ := h
    refine JS_iast dX5_take_56 BS_226 (Nat.le_of_ble_eq_true rfl) (Nat.le_of_ble_eq_true rfl) o1 ?_
    refine JT_aload_n (q := 0) dX5_take_57 rfl rfl ?_
    refine JS_getR (x := 227) dX5_take_58 flX5_15 BS_225 (Nat.le_of_ble_eq_true rfl) (Nat.le_of_ble_eq_true rfl) (Or.inr ⟨_, ct_5_3⟩) RF_225_3 ?_
    refine JT_iload_n (q := 3) dX5_take_61 rfl rfl ?_
    refine JT_aload_n (q := 1) dX5_take_62 rfl rfl ?_
    refine JT_iconst (v := 3) dX5_take_63 ic_3 ?_
    refine JT_iload_n (q := 3) dX5_take_64 rfl rfl ?_
    refine JT_imul dX5_take_65 ?_
    refine JT_iconst (v := 1) dX5_take_66 ic_1 ?_
    refine JT_iadd dX5_take_67 ?_
    refine JT_iconst (v := 0) dX5_take_68 ic_0 ?_
    obtain ⟨o6, h⟩ := h
    refine JS_callVI (M' := MX9_byteOr) (d' := 0) (As := [.int (((3 : Int32) * a3) + (1 : Int32)), .int (0 : Int32)]) (rest := [.int a3, .ref 227]) (P := (fun zv9 wm9 => (vX9_byteOr (pI s 226 (a3).toNatClampNeg (vX9_byteOr s ((3 : Int32) * a3) (0 : Int32))) (((3 : Int32) * a3) + (1 : Int32)) (0 : Int32)) = zv9 ∧ (pI s 226 (a3).toNatClampNeg (vX9_byteOr s ((3 : Int32) * a3) (0 : Int32))) = wm9)) dX5_take_69 cvX5_39 okX9_byteOr rfl (Nat.le_of_ble_eq_true rfl) BS_3 (Nat.le_of_ble_eq_true rfl) (Nat.le_of_ble_eq_true rfl) hci_9 (Nat.le_of_ble_eq_true rfl) (Nat.le_of_ble_eq_true rfl) (pX9_byteOr  ((((3 : Int32) * a3) + (1 : Int32))) ((0 : Int32)) o6 ⟨rfl, rfl⟩) (fun zv9 wm9 hq9 => ?_)
    obtain ⟨rfl, rfl⟩ := hq9
    obtain ⟨o2, h⟩ := h
    refine JS_iast dX5_take_72 BS_227 (Nat.le_of_ble_eq_true rfl) (Nat.le_of_ble_eq_true rfl) o2 ?_
    obtain ⟨s3, hs3⟩ : ∃ z, z = (pI (pI s 226 (a3).toNatClampNeg (vX9_byteOr s ((3 : Int32) * a3) (0 : Int32))) 227 (a3).toNatClampNeg (vX9_byteOr (pI s 226 (a3).toNatClampNeg (vX9_byteOr s ((3 : Int32) * a3) (0 : Int32))) (((3 : Int32) * a3) + (1 : Int32)) (0 : Int32))) := ⟨_, rfl⟩
    replace h := h s3 hs3
    rw [← hs3]
    refine JT_aload_n (q := 0) dX5_take_73 rfl rfl ?_
    refine JS_getR (x := 228) dX5_take_74 flX5_18 BS_225 (Nat.le_of_ble_eq_true rfl) (Nat.le_of_ble_eq_true rfl) (Or.inr ⟨_, ct_5_4⟩) RF_225_4 ?_
    refine JT_iload_n (q := 3) dX5_take_77 rfl rfl ?_
    refine JT_aload_n (q := 1) dX5_take_78 rfl rfl ?_
    refine JT_iconst (v := 3) dX5_take_79 ic_3 ?_
    refine JT_iload_n (q := 3) dX5_take_80 rfl rfl ?_
    refine JT_imul dX5_take_81 ?_
    refine JT_iconst (v := 2) dX5_take_82 ic_2 ?_
    refine JT_iadd dX5_take_83 ?_
    refine JT_iconst (v := 0) dX5_take_84 ic_0 ?_
    obtain ⟨o5, h⟩ := h
    refine JS_callVI (M' := MX9_byteOr) (d' := 0) (As := [.int (((3 : Int32) * a3) + (2 : Int32)), .int (0 : Int32)]) (rest := [.int a3, .ref 228]) (P := (fun zv9 wm9 => (vX9_byteOr s3 (((3 : Int32) * a3) + (2 : Int32)) (0 : Int32)) = zv9 ∧ s3 = wm9)) dX5_take_85 cvX5_39 okX9_byteOr rfl (Nat.le_of_ble_eq_true rfl) BS_3 (Nat.le_of_ble_eq_true rfl) (Nat.le_of_ble_eq_true rfl) hci_9 (Nat.le_of_ble_eq_true rfl) (Nat.le_of_ble_eq_true rfl) (pX9_byteOr  ((((3 : Int32) * a3) + (2 : Int32))) ((0 : Int32)) o5 ⟨rfl, rfl⟩) (fun zv9 wm9 hq9 => ?_)
    obtain ⟨rfl, rfl⟩ := hq9
    obtain ⟨o4, h⟩ := h
    refine JS_iast dX5_take_88 BS_228 (Nat.le_of_ble_eq_true rfl) (Nat.le_of_ble_eq_true rfl) o4 ?_
    refine JT_iinc (q := 3) (v := (a3 + 1)) (lv' := [(3, .int (a3 + 1)), (0, .ref 225), (1, .ref 3), (2, .ref p2)]) dX5_take_89 rfl (by rfl) (Nat.le_of_ble_eq_true rfl) rfl ?_
    refine JT_goto (tgt := 35) dX5_take_92 (by decide) ?_
    exact JT_sub [1, 2, 3, 0] rfl h
set_option maxRecDepth 1000000 in
theorem bX5_take {p2 : Nat} (hp2 : p2 ∈ PX) {s : SM} {Q : Int32 → SM → Prop} (h : rX5_isTold s p2 ∧ ((¬ (vX5_isTold s p2) = 0 → (∀ s1, s1 = (pI (pI s 225 0 (if (6 : Int32) < ((gI s 3 1) / (3 : Int32)) then (6 : Int32) else ((gI s 3 1) / (3 : Int32)))) 225 1 (gI (pI s 225 0 (if (6 : Int32) < ((gI s 3 1) / (3 : Int32)) then (6 : Int32) else ((gI s 3 1) / (3 : Int32)))) p2 11)) → BI MX5_take 3 35 [(0, .ref 225), (1, .ref 3), (2, .ref p2), (3, .int (0 : Int32))] s1 Q)) ∧ ((vX5_isTold s p2) = 0 → Q (0 : Int32) s))) : KI MX5_take 3 [.ref 225, .ref 3, .ref p2] s Q := by
  show BI MX5_take 3 0 [(0, .ref 225), (1, .ref 3), (2, .ref p2)] s Q
  refine JT_aload_n (q := 1) dX5_take_0 rfl rfl ?_
  refine JT_aload_n (q := 2) dX5_take_1 rfl rfl ?_
  obtain ⟨o3, h⟩ := h
  refine JS_callSI (M' := MX5_isTold) (d' := 2) (As := [.ref 3, .ref p2]) (rest := []) (P := (fun zv9 wm9 => (vX5_isTold s p2) = zv9 ∧ s = wm9)) dX5_take_2 cvX5_49 okX5_isTold rfl (Nat.le_of_ble_eq_true rfl) (Nat.le_of_ble_eq_true rfl) (Nat.le_of_ble_eq_true rfl) (pX5_isTold hp2  o3 ⟨rfl, rfl⟩) (fun zv9 wm9 hq9 => ?_)
  obtain ⟨rfl, rfl⟩ := hq9
  refine JT_if_ne (tgt := 10) dX5_take_5 (by decide) (fun hc2 => ?_) (fun hc2 => ?_)
  · have h := h.1 hc2
    refine JT_aload_n (q := 0) dX5_take_10 rfl rfl ?_
    refine JT_aload_n (q := 1) dX5_take_11 rfl rfl ?_
    refine JS_getI dX5_take_12 flX5_33 BS_3 (Nat.le_of_ble_eq_true rfl) (Nat.le_of_ble_eq_true rfl) (Or.inl ct_9_1) ?_
    refine JT_iconst (v := 3) dX5_take_15 ic_3 ?_
    refine JT_idiv dX5_take_16 (by decide) ?_
    refine JT_bipush (v := 6) dX5_take_17 bp_6 ?_
    refine JT_mmin (d2 := 2) dX5_take_19 mlX5_53 (Nat.le_of_ble_eq_true rfl) rfl ?_
    refine JS_putI dX5_take_22 flX5_58 BS_225 (Nat.le_of_ble_eq_true rfl) (Nat.le_of_ble_eq_true rfl) ct_5_0 ?_
    refine JT_aload_n (q := 0) dX5_take_25 rfl rfl ?_
    refine JT_aload_n (q := 2) dX5_take_26 rfl rfl ?_
    refine JS_getI dX5_take_27 flX5_61 (pxB hp2) (px2 hp2) (pxN hp2) (Or.inl ct_6_11) ?_
    refine JS_putI dX5_take_30 flX5_64 BS_225 (Nat.le_of_ble_eq_true rfl) (Nat.le_of_ble_eq_true rfl) ct_5_1 ?_
    obtain ⟨s1, hs1⟩ : ∃ z, z = (pI (pI s 225 0 (if (6 : Int32) < ((gI s 3 1) / (3 : Int32)) then (6 : Int32) else ((gI s 3 1) / (3 : Int32)))) 225 1 (gI (pI s 225 0 (if (6 : Int32) < ((gI s 3 1) / (3 : Int32)) then (6 : Int32) else ((gI s 3 1) / (3 : Int32)))) p2 11)) := ⟨_, rfl⟩
    replace h := h s1 hs1
    rw [← hs1]
    refine JT_iconst (v := 0) dX5_take_33 ic_0 ?_
    refine JT_istore_n (lv' := [(3, .int (0 : Int32)), (0, .ref 225), (1, .ref 3), (2, .ref p2)]) dX5_take_34 rfl (Nat.le_of_ble_eq_true rfl) rfl ?_
    exact JT_sub [1, 2, 3, 0] rfl h
  · have h := h.2 hc2
    refine JT_iconst (v := 0) dX5_take_8 ic_0 ?_
    exact JS_iret dX5_take_9 rfl (n01 (Or.inl rfl)) h
set_option maxRecDepth 1000000 in
theorem gX5_take {p2 : Nat} (hp2 : p2 ∈ PX) : ∀ n : Nat, (∀ (a3 : Int32) (s : SM) (Q : Int32 → SM → Prop), ((qX5_take n) s p2 a3) → Q ((lX5_take n) s p2 a3).1 ((lX5_take n) s p2 a3).2 → BI MX5_take 3 35 [(0, .ref 225), (1, .ref 3), (2, .ref p2), (3, .int a3)] s Q) := by
  intro n
  induction n with
  | zero => exact fun _ _ _ hq _ => absurd hq id
  | succ n ih =>
    intro a3 s Q hr h
    replace hr : uX5_take_35 (qX5_take n) s p2 a3 := hr
    replace h : Q (tX5_take_35 (lX5_take n) s p2 a3).1 (tX5_take_35 (lX5_take n) s p2 a3).2 := h
    unfold uX5_take_35 at hr
    unfold tX5_take_35 at h
    refine bX5_take_35 hp2 a3 ?_
    refine ⟨fun c => ?_, fun c => ?_⟩
    · replace h := q3p c h
      first | exact h | contradiction
    · replace hr := hr c
      replace h := q3n c h
      refine ⟨hr.1, ?_⟩
      replace hr := hr.2
      refine ⟨hr.1, ?_⟩
      replace hr := hr.2
      refine ⟨hr.1, ?_⟩
      replace hr := hr.2
      refine ⟨hr.1, ?_⟩
      replace hr := hr.2
      intro s3 e9
      replace hr := hr s3 e9
      try rw [← e9] at h
      try dsimp only at h
      refine ⟨hr.1, ?_⟩
      replace hr := hr.2
      refine ⟨hr.1, ?_⟩
      replace hr := hr.2
      first | exact ih (a3 + 1) _ Q hr h | contradiction
set_option maxRecDepth 1000000 in
theorem pX5_take {p2 : Nat} (hp2 : p2 ∈ PX) {s : SM} {Q : Int32 → SM → Prop} (hr : rX5_take s p2) (h : Q (vX5_take s p2) (mX5_take s p2)) : KI MX5_take 3 [.ref 225, .ref 3, .ref p2] s Q := by
  replace h : Q (fX5_take s p2).1 (fX5_take s p2).2 := h
  unfold rX5_take at hr
  unfold fX5_take at h
  refine bX5_take hp2 ?_
  refine ⟨hr.1, ?_⟩
  replace hr := hr.2
  refine ⟨fun c => ?_, fun c => ?_⟩
  · replace hr := hr c
    replace h := q3n c h
    intro s1 e9
    replace hr := hr s1 e9
    try rw [← e9] at h
    try dsimp only at h
    first | exact (gX5_take hp2 FU) (0 : Int32) _ Q hr h | contradiction
  · replace h := q3p c h
    first | exact h | contradiction
set_option maxRecDepth 1000000 in
theorem bX7_prepare_29 {L1 P1 : Nat} (hL1 : (L1, P1) ∈ LX) (a2 : Int32) (a3 : Int32) {s : SM} {Q : SM → Prop} (h : (((9 : Int32) ≤ a3 → Q s) ∧ (¬ (9 : Int32) ≤ a3 → vp_in a3 9 ∧ BV MX7_prepare 3 45 [(0, .ref 218), (1, .ref L1), (2, .int a2), (3, .int a3), (4, .int (0 : Int32))] (pI s 223 (a3).toNatClampNeg a2) Q))) : BV MX7_prepare 3 29 [(0, .ref 218), (1, .ref L1), (2, .int a2), (3, .int a3)] s Q := by
  refine JT_iload_n (q := 3) dX7_prepare_29 rfl rfl ?_
  refine JT_bipush (v := 9) dX7_prepare_30 bp_9 ?_
  refine JT_icmp_ge (tgt := 144) dX7_prepare_32 (by decide) (fun hc2 => ?_) (fun hc2 => ?_)
  · have h := h.1 hc2
    exact JS_vret dX7_prepare_144 rfl h
  · have h := h.2 hc2
    refine JT_aload_n (q := 0) dX7_prepare_35 rfl rfl ?_
    refine JS_getR (x := 223) dX7_prepare_36 flX7_24 BS_218 (Nat.le_of_ble_eq_true rfl) (Nat.le_of_ble_eq_true rfl) (Or.inr ⟨_, ct_7_9⟩) RF_218_9 ?_
    refine JT_iload_n (q := 3) dX7_prepare_39 rfl rfl ?_
    refine JT_iload_n (q := 2) dX7_prepare_40 rfl rfl ?_
    obtain ⟨o1, h⟩ := h
    refine JS_iast dX7_prepare_41 BS_223 (Nat.le_of_ble_eq_true rfl) (Nat.le_of_ble_eq_true rfl) o1 ?_
    refine JT_iconst (v := 0) dX7_prepare_42 ic_0 ?_
    refine JT_istore (lv' := [(4, .int (0 : Int32)), (0, .ref 218), (1, .ref L1), (2, .int a2), (3, .int a3)]) dX7_prepare_43 (Nat.le_of_ble_eq_true rfl) rfl ?_
    exact JT_sub [1, 2, 3, 4, 0] rfl h
set_option maxRecDepth 1000000 in
theorem bX7_prepare_45 {L1 P1 : Nat} (hL1 : (L1, P1) ∈ LX) (a2 : Int32) (a3 : Int32) (a4 : Int32) {s : SM} {Q : SM → Prop} (h : gD s 0 = some (gDx s 0) ∧ ((gDx s 0), rfx (gDx s 0) 8) ∈ LX ∧ (((gI s (gDx s 0) 9) ≤ a4 → vp_in a3 9 ∧ BV MX7_prepare 3 29 [(0, .ref 218), (1, .ref L1), (2, .int a2), (3, .int (a3 + 1))] (pI s 224 (a3).toNatClampNeg a2) Q) ∧ (¬ (gI s (gDx s 0) 9) ≤ a4 → gD s 0 = some (gDx s 0) ∧ ((gDx s 0), rfx (gDx s 0) 8) ∈ LX ∧ vp_in a4 60 ∧ ((¬ (gI s ((gDx s 0) + 1) (a4).toNatClampNeg) = a3 → BV MX7_prepare 3 45 [(0, .ref 218), (1, .ref L1), (2, .int a2), (3, .int a3), (4, .int (a4 + 1))] s Q) ∧ ((gI s ((gDx s 0) + 1) (a4).toNatClampNeg) = a3 → rX7_mayBeIn s a4 ∧ (((vX7_mayBeIn s a4) = 0 → BV MX7_prepare 3 45 [(0, .ref 218), (1, .ref L1), (2, .int a2), (3, .int a3), (4, .int (a4 + 1))] s Q) ∧ (¬ (vX7_mayBeIn s a4) = 0 → vp_in a2 60 ∧ gD (pI s 222 (a2).toNatClampNeg a4) 0 = some (gDx (pI s 222 (a2).toNatClampNeg a4) 0) ∧ ((gDx (pI s 222 (a2).toNatClampNeg a4) 0), rfx (gDx (pI s 222 (a2).toNatClampNeg a4) 0) 8) ∈ LX ∧ rX4_freedBy (pI s 222 (a2).toNatClampNeg a4) (gDx (pI s 222 (a2).toNatClampNeg a4) 0) (rfx (gDx (pI s 222 (a2).toNatClampNeg a4) 0) 8) a4 ∧ vp_in a4 60 ∧ (∀ s11, s11 = (pI (pI s 222 (a2).toNatClampNeg a4) 221 (a4).toNatClampNeg (vX4_freedBy (pI s 222 (a2).toNatClampNeg a4) (gDx (pI s 222 (a2).toNatClampNeg a4) 0) (rfx (gDx (pI s 222 (a2).toNatClampNeg a4) 0) 8) a4)) → vp_in a4 60 ∧ (∀ s13, s13 = (pI s11 218 7 (if (gI s11 218 7) < (gI s11 221 (a4).toNatClampNeg) then (gI s11 221 (a4).toNatClampNeg) else (gI s11 218 7))) → BV MX7_prepare 3 45 [(0, .ref 218), (1, .ref L1), (2, .int (a2 + 1)), (3, .int a3), (4, .int (a4 + 1))] s13 Q))))))))) : BV MX7_prepare 3 45 [(0, .ref 218), (1, .ref L1), (2, .int a2), (3, .int a3), (4, .int a4)] s Q := by
  refine JT_iload (q := 4) dX7_prepare_45 rfl ?_
  refine JT_aload_n (q := 0) dX7_prepare_47 rfl rfl ?_
  obtain ⟨hr1, hL2, h⟩ := h
  refine JS_getR (x := (gDx s 0)) dX7_prepare_48 flX7_40 BS_218 (Nat.le_of_ble_eq_true rfl) (Nat.le_of_ble_eq_true rfl) (Or.inl ⟨_, ct_7_4⟩) (RF_218_4.trans hr1) ?_
  refine JS_getI dX7_prepare_51 flX7_44 (lxB hL2) (lx2 hL2) (lxN hL2) (Or.inl ct_4_9) ?_
  refine JT_icmp_ge (tgt := 131) dX7_prepare_54 (by decide) (fun hc18 => ?_) (fun hc18 => ?_)
  · have h := h.1 hc18
    refine JT_aload_n (q := 0) dX7_prepare_131 rfl rfl ?_
    refine JS_getR (x := 224) dX7_prepare_132 flX7_27 BS_218 (Nat.le_of_ble_eq_true rfl) (Nat.le_of_ble_eq_true rfl) (Or.inr ⟨_, ct_7_10⟩) RF_218_10 ?_
    refine JT_iload_n (q := 3) dX7_prepare_135 rfl rfl ?_
    refine JT_iload_n (q := 2) dX7_prepare_136 rfl rfl ?_
    obtain ⟨o3, h⟩ := h
    refine JS_iast dX7_prepare_137 BS_224 (Nat.le_of_ble_eq_true rfl) (Nat.le_of_ble_eq_true rfl) o3 ?_
    refine JT_iinc (q := 3) (v := (a3 + 1)) (lv' := [(3, .int (a3 + 1)), (0, .ref 218), (1, .ref L1), (2, .int a2), (4, .int a4)]) dX7_prepare_138 rfl (by rfl) (Nat.le_of_ble_eq_true rfl) rfl ?_
    refine JT_goto (tgt := 29) dX7_prepare_141 (by decide) ?_
    exact JT_sub [1, 2, 3, 0] rfl h
  · have h := h.2 hc18
    refine JT_aload_n (q := 0) dX7_prepare_57 rfl rfl ?_
    obtain ⟨hr4, hL5, h⟩ := h
    refine JS_getR (x := (gDx s 0)) dX7_prepare_58 flX7_40 BS_218 (Nat.le_of_ble_eq_true rfl) (Nat.le_of_ble_eq_true rfl) (Or.inl ⟨_, ct_7_4⟩) (RF_218_4.trans hr4) ?_
    refine JS_getR (x := ((gDx s 0) + 1)) dX7_prepare_61 flX7_58 (lxB hL5) (lx2 hL5) (lxN hL5) (Or.inr ⟨_, ct_4_0⟩) (lxR0 hL5) ?_
    refine JT_iload (q := 4) dX7_prepare_64 rfl ?_
    obtain ⟨o6, h⟩ := h
    refine JS_iald dX7_prepare_66 (lxB1 hL5) (lx2k hL5 _) (lxNk hL5 (Nat.le_of_ble_eq_true rfl)) o6 ?_
    refine JT_iload_n (q := 3) dX7_prepare_67 rfl rfl ?_
    refine JT_icmp_ne (tgt := 125) dX7_prepare_68 (by decide) (fun hc17 => ?_) (fun hc17 => ?_)
    · have h := h.1 hc17
      refine JT_iinc (q := 4) (v := (a4 + 1)) (lv' := [(4, .int (a4 + 1)), (0, .ref 218), (1, .ref L1), (2, .int a2), (3, .int a3)]) dX7_prepare_125 rfl (by rfl) (Nat.le_of_ble_eq_true rfl) rfl ?_
      refine JT_goto (tgt := 45) dX7_prepare_128 (by decide) ?_
      exact JT_sub [1, 2, 3, 4, 0] rfl h
    · have h := h.2 hc17
      refine JT_aload_n (q := 0) dX7_prepare_71 rfl rfl ?_
      refine JT_iload (q := 4) dX7_prepare_72 rfl ?_
      obtain ⟨o16, h⟩ := h
      refine JS_callVI (M' := MX7_mayBeIn) (d' := 2) (As := [.int a4]) (rest := []) (P := (fun zv9 wm9 => (vX7_mayBeIn s a4) = zv9 ∧ s = wm9)) dX7_prepare_74 cvX7_50 okX7_mayBeIn rfl (Nat.le_of_ble_eq_true rfl) BS_218 (Nat.le_of_ble_eq_true rfl) (Nat.le_of_ble_eq_true rfl) hci_7 (Nat.le_of_ble_eq_true rfl) (Nat.le_of_ble_eq_true rfl) (pX7_mayBeIn  (a4) o16 ⟨rfl, rfl⟩) (fun zv9 wm9 hq9 => ?_)
      obtain ⟨rfl, rfl⟩ := hq9
      refine JT_if_eq (tgt := 125) dX7_prepare_77 (by decide) (fun hc15 => ?_) (fun hc15 => ?_)
      · have h := h.1 hc15
        refine JT_iinc (q := 4) (v := (a4 + 1)) (lv' := [(4, .int (a4 + 1)), (0, .ref 218), (1, .ref L1), (2, .int a2), (3, .int a3)]) dX7_prepare_125 rfl (by rfl) (Nat.le_of_ble_eq_true rfl) rfl ?_
        refine JT_goto (tgt := 45) dX7_prepare_128 (by decide) ?_
        exact JT_sub [1, 2, 3, 4, 0] rfl h
      · have h := h.2 hc15
        refine JT_aload_n (q := 0) dX7_prepare_80 rfl rfl ?_
        refine JS_getR (x := 222) dX7_prepare_81 flX7_21 BS_218 (Nat.le_of_ble_eq_true rfl) (Nat.le_of_ble_eq_true rfl) (Or.inr ⟨_, ct_7_8⟩) RF_218_8 ?_
        refine JT_iload_n (q := 2) dX7_prepare_84 rfl rfl ?_
        refine JT_iload (q := 4) dX7_prepare_85 rfl ?_
        obtain ⟨o7, h⟩ := h
        refine JS_iast dX7_prepare_87 BS_222 (Nat.le_of_ble_eq_true rfl) (Nat.le_of_ble_eq_true rfl) o7 ?_
        refine JT_iinc (q := 2) (v := (a2 + 1)) (lv' := [(2, .int (a2 + 1)), (0, .ref 218), (1, .ref L1), (3, .int a3), (4, .int a4)]) dX7_prepare_88 rfl (by rfl) (Nat.le_of_ble_eq_true rfl) rfl ?_
        refine JT_aload_n (q := 1) dX7_prepare_91 rfl rfl ?_
        refine JS_getR (x := 221) dX7_prepare_92 flX7_18 BS_218 (Nat.le_of_ble_eq_true rfl) (Nat.le_of_ble_eq_true rfl) (Or.inr ⟨_, ct_7_6⟩) RF_218_6 ?_
        refine JT_iload (q := 4) dX7_prepare_95 rfl ?_
        refine JT_aload_n (q := 1) dX7_prepare_97 rfl rfl ?_
        obtain ⟨hr8, hL9, h⟩ := h
        refine JS_getR (x := (gDx (pI s 222 (a2).toNatClampNeg a4) 0)) dX7_prepare_98 flX7_40 BS_218 (Nat.le_of_ble_eq_true rfl) (Nat.le_of_ble_eq_true rfl) (Or.inl ⟨_, ct_7_4⟩) (RF_218_4.trans hr8) ?_
        refine JT_iload (q := 4) dX7_prepare_101 rfl ?_
        obtain ⟨o14, h⟩ := h
        refine JS_callVI (M' := MX4_freedBy) (d' := 2) (As := [.int a4]) (rest := [.int a4, .ref 221]) (P := (fun zv9 wm9 => (vX4_freedBy (pI s 222 (a2).toNatClampNeg a4) (gDx (pI s 222 (a2).toNatClampNeg a4) 0) (rfx (gDx (pI s 222 (a2).toNatClampNeg a4) 0) 8) a4) = zv9 ∧ (pI s 222 (a2).toNatClampNeg a4) = wm9)) dX7_prepare_103 cvX7_88 okX4_freedBy rfl (Nat.le_of_ble_eq_true rfl) (lxB hL9) (lx2 hL9) (lxN hL9) hci_4 (Nat.le_of_ble_eq_true rfl) (Nat.le_of_ble_eq_true rfl) (pX4_freedBy hL9 (a4) o14 ⟨rfl, rfl⟩) (fun zv9 wm9 hq9 => ?_)
        obtain ⟨rfl, rfl⟩ := hq9
        obtain ⟨o10, h⟩ := h
        refine JS_iast dX7_prepare_106 BS_221 (Nat.le_of_ble_eq_true rfl) (Nat.le_of_ble_eq_true rfl) o10 ?_
        obtain ⟨s11, hs11⟩ : ∃ z, z = (pI (pI s 222 (a2).toNatClampNeg a4) 221 (a4).toNatClampNeg (vX4_freedBy (pI s 222 (a2).toNatClampNeg a4) (gDx (pI s 222 (a2).toNatClampNeg a4) 0) (rfx (gDx (pI s 222 (a2).toNatClampNeg a4) 0) 8) a4)) := ⟨_, rfl⟩
        replace h := h s11 hs11
        rw [← hs11]
        refine JT_aload_n (q := 1) dX7_prepare_107 rfl rfl ?_
        refine JT_aload_n (q := 1) dX7_prepare_108 rfl rfl ?_
        refine JS_getI dX7_prepare_109 flX7_85 BS_218 (Nat.le_of_ble_eq_true rfl) (Nat.le_of_ble_eq_true rfl) (Or.inl ct_7_7) ?_
        refine JT_aload_n (q := 1) dX7_prepare_112 rfl rfl ?_
        refine JS_getR (x := 221) dX7_prepare_113 flX7_18 BS_218 (Nat.le_of_ble_eq_true rfl) (Nat.le_of_ble_eq_true rfl) (Or.inr ⟨_, ct_7_6⟩) RF_218_6 ?_
        refine JT_iload (q := 4) dX7_prepare_116 rfl ?_
        obtain ⟨o12, h⟩ := h
        refine JS_iald dX7_prepare_118 BS_221 (Nat.le_of_ble_eq_true rfl) (Nat.le_of_ble_eq_true rfl) o12 ?_
        refine JT_mmax (d2 := 2) dX7_prepare_119 mlX7_92 (Nat.le_of_ble_eq_true rfl) rfl ?_
        refine JS_putI dX7_prepare_122 flX7_85 BS_218 (Nat.le_of_ble_eq_true rfl) (Nat.le_of_ble_eq_true rfl) ct_7_7 ?_
        obtain ⟨s13, hs13⟩ : ∃ z, z = (pI s11 218 7 (if (gI s11 218 7) < (gI s11 221 (a4).toNatClampNeg) then (gI s11 221 (a4).toNatClampNeg) else (gI s11 218 7))) := ⟨_, rfl⟩
        replace h := h s13 hs13
        rw [← hs13]
        refine JT_iinc (q := 4) (v := (a4 + 1)) (lv' := [(4, .int (a4 + 1)), (2, .int (a2 + 1)), (0, .ref 218), (1, .ref L1), (3, .int a3)]) dX7_prepare_125 rfl (by rfl) (Nat.le_of_ble_eq_true rfl) rfl ?_
        refine JT_goto (tgt := 45) dX7_prepare_128 (by decide) ?_
        exact JT_sub [2, 3, 1, 4, 0] rfl h
set_option maxRecDepth 1000000 in
theorem bX7_prepare {L1 P1 : Nat} (hL1 : (L1, P1) ∈ LX) {s : SM} {Q : SM → Prop} (h : BV MX7_prepare 3 29 [(0, .ref 218), (1, .ref L1), (2, .int (0 : Int32)), (3, .int (0 : Int32))] (pI (pI (pI (pI (pD s 0 L1) 218 1 (0 : Int32)) 218 2 (-1 : Int32)) 218 3 (0 : Int32)) 218 7 (0 : Int32)) Q) : KV MX7_prepare 3 [.ref 218, .ref L1] s Q := by
  show BV MX7_prepare 3 0 [(0, .ref 218), (1, .ref L1)] s Q
  refine JT_aload_n (q := 0) dX7_prepare_0 rfl rfl ?_
  refine JT_aload_n (q := 1) dX7_prepare_1 rfl rfl ?_
  refine JS_putD (kk := 0) dX7_prepare_2 flX7_40 BS_218 (Nat.le_of_ble_eq_true rfl) (Nat.le_of_ble_eq_true rfl) (Or.inl ⟨_, ct_7_4⟩) rfl ?_
  refine JT_aload_n (q := 0) dX7_prepare_5 rfl rfl ?_
  refine JT_iconst (v := 0) dX7_prepare_6 ic_0 ?_
  refine JS_putI dX7_prepare_7 flX7_61 BS_218 (Nat.le_of_ble_eq_true rfl) (Nat.le_of_ble_eq_true rfl) ct_7_1 ?_
  refine JT_aload_n (q := 0) dX7_prepare_10 rfl rfl ?_
  refine JT_iconst (v := -1) dX7_prepare_11 ic_m1 ?_
  refine JS_putI dX7_prepare_12 flX7_79 BS_218 (Nat.le_of_ble_eq_true rfl) (Nat.le_of_ble_eq_true rfl) ct_7_2 ?_
  refine JT_aload_n (q := 0) dX7_prepare_15 rfl rfl ?_
  refine JT_iconst (v := 0) dX7_prepare_16 ic_0 ?_
  refine JS_putI dX7_prepare_17 flX7_82 BS_218 (Nat.le_of_ble_eq_true rfl) (Nat.le_of_ble_eq_true rfl) ct_7_3 ?_
  refine JT_aload_n (q := 0) dX7_prepare_20 rfl rfl ?_
  refine JT_iconst (v := 0) dX7_prepare_21 ic_0 ?_
  refine JS_putI dX7_prepare_22 flX7_85 BS_218 (Nat.le_of_ble_eq_true rfl) (Nat.le_of_ble_eq_true rfl) ct_7_7 ?_
  refine JT_iconst (v := 0) dX7_prepare_25 ic_0 ?_
  refine JT_istore_n (lv' := [(2, .int (0 : Int32)), (0, .ref 218), (1, .ref L1)]) dX7_prepare_26 rfl (Nat.le_of_ble_eq_true rfl) rfl ?_
  refine JT_iconst (v := 0) dX7_prepare_27 ic_0 ?_
  refine JT_istore_n (lv' := [(3, .int (0 : Int32)), (2, .int (0 : Int32)), (0, .ref 218), (1, .ref L1)]) dX7_prepare_28 rfl (Nat.le_of_ble_eq_true rfl) rfl ?_
  exact JT_sub [2, 3, 1, 0] rfl h
set_option maxRecDepth 1000000 in
theorem gX7_prepare {L1 P1 : Nat} (hL1 : (L1, P1) ∈ LX) : ∀ n : Nat, (∀ (a2 : Int32) (a3 : Int32) (s : SM) (Q : SM → Prop), ((qX7_prepare n).1 s L1 P1 a2 a3) → Q ((lX7_prepare n).1 s L1 P1 a2 a3) → BV MX7_prepare 3 29 [(0, .ref 218), (1, .ref L1), (2, .int a2), (3, .int a3)] s Q) ∧ (∀ (a2 : Int32) (a3 : Int32) (a4 : Int32) (s : SM) (Q : SM → Prop), ((qX7_prepare n).2 s L1 P1 a2 a3 a4) → Q ((lX7_prepare n).2 s L1 P1 a2 a3 a4) → BV MX7_prepare 3 45 [(0, .ref 218), (1, .ref L1), (2, .int a2), (3, .int a3), (4, .int a4)] s Q) := by
  intro n
  induction n with
  | zero => exact ⟨fun _ _ _ _ hq _ => absurd hq id, fun _ _ _ _ _ hq _ => absurd hq id⟩
  | succ n ih =>
    refine ⟨?_, ?_⟩
    · intro a2 a3 s Q hr h
      replace hr : uX7_prepare_29 (qX7_prepare n) s L1 P1 a2 a3 := hr
      replace h : Q (tX7_prepare_29 (lX7_prepare n) s L1 P1 a2 a3) := h
      unfold uX7_prepare_29 at hr
      unfold tX7_prepare_29 at h
      refine bX7_prepare_29 hL1 a2 a3 ?_
      refine ⟨fun c => ?_, fun c => ?_⟩
      · replace h := q1p c h
        first | exact h | contradiction
      · replace hr := hr c
        replace h := q1n c h
        refine ⟨hr.1, ?_⟩
        replace hr := hr.2
        first | exact ih.2 a2 a3 (0 : Int32) _ Q hr h | contradiction
    · intro a2 a3 a4 s Q hr h
      replace hr : uX7_prepare_45 (qX7_prepare n) s L1 P1 a2 a3 a4 := hr
      replace h : Q (tX7_prepare_45 (lX7_prepare n) s L1 P1 a2 a3 a4) := h
      unfold uX7_prepare_45 at hr
      unfold tX7_prepare_45 at h
      refine bX7_prepare_45 hL1 a2 a3 a4 ?_
      refine ⟨hr.1, ?_⟩
      replace hr := hr.2
      refine ⟨hr.1, ?_⟩
      replace hr := hr.2
      refine ⟨fun c => ?_, fun c => ?_⟩
      · replace hr := hr.1 c
        replace h := q1p c h
        refine ⟨hr.1, ?_⟩
        replace hr := hr.2
        first | exact ih.1 a2 (a3 + 1) _ Q hr h | contradiction
      · replace hr := hr.2 c
        replace h := q1n c h
        refine ⟨hr.1, ?_⟩
        replace hr := hr.2
        refine ⟨hr.1, ?_⟩
        replace hr := hr.2
        refine ⟨hr.1, ?_⟩
        replace hr := hr.2
        refine ⟨fun c => ?_, fun c => ?_⟩
        · replace hr := hr.1 c
          replace h := q1n c h
          first | exact ih.2 a2 a3 (a4 + 1) _ Q hr h | contradiction
        · replace hr := hr.2 c
          replace h := q1p c h
          refine ⟨hr.1, ?_⟩
          replace hr := hr.2
          refine ⟨fun c => ?_, fun c => ?_⟩
          · replace hr := hr.1 c
            replace h := q1p c h
            first | exact ih.2 a2 a3 (a4 + 1) _ Q hr h | contradiction
          · replace hr := hr.2 c
            replace h := q1n c h
            refine ⟨hr.1, ?_⟩
            replace hr := hr.2
            refine ⟨hr.1, ?_⟩
            replace hr := hr.2
            refine ⟨hr.1, ?_⟩
            replace hr := hr.2
            refine ⟨hr.1, ?_⟩
            replace hr := hr.2
            refine ⟨hr.1, ?_⟩
            replace hr := hr.2
            intro s11 e9
            replace hr := hr s11 e9
            try rw [← e9] at h
            try dsimp only at h
            refine ⟨hr.1, ?_⟩
            replace hr := hr.2
            intro s13 e9
            replace hr := hr s13 e9
            try rw [← e9] at h
            try dsimp only at h
            first | exact ih.2 (a2 + 1) a3 (a4 + 1) _ Q hr h | contradiction
set_option maxRecDepth 1000000 in
theorem pX7_prepare {L1 P1 : Nat} (hL1 : (L1, P1) ∈ LX) {s : SM} {Q : SM → Prop} (hr : rX7_prepare s L1 P1) (h : Q (mX7_prepare s L1 P1)) : KV MX7_prepare 3 [.ref 218, .ref L1] s Q := by
  replace h : Q (fX7_prepare s L1 P1) := h
  unfold rX7_prepare at hr
  unfold fX7_prepare at h
  refine bX7_prepare hL1 ?_
  first | exact (gX7_prepare hL1 FU).1 (0 : Int32) (0 : Int32) _ Q hr h | contradiction
set_option maxRecDepth 1000000 in
theorem bX8_payments_4 {L1 P1 : Nat} (hL1 : (L1, P1) ∈ LX) (a2 : Int32) (a3 : Int32) {s : SM} {Q : Int32 → SM → Prop} (h : (((gI s P1 6) ≤ a3 → BI MX8_payments 3 46 [(0, .ref 240), (1, .ref L1), (2, .int a2), (3, .int (1 : Int32))] s Q) ∧ (¬ (gI s P1 6) ≤ a3 → rX4_netOf s L1 P1 a3 ∧ (((vX4_netOf s L1 P1 a3) = 0 → BI MX8_payments 3 4 [(0, .ref 240), (1, .ref L1), (2, .int a2), (3, .int (a3 + 1))] s Q) ∧ (¬ (vX4_netOf s L1 P1 a3) = 0 → vp_in a2 9 ∧ BI MX8_payments 3 4 [(0, .ref 240), (1, .ref L1), (2, .int (a2 + 1)), (3, .int (a3 + 1))] (pI s 241 (a2).toNatClampNeg (vX4_netOf s L1 P1 a3)) Q))))) : BI MX8_payments 3 4 [(0, .ref 240), (1, .ref L1), (2, .int a2), (3, .int a3)] s Q := by
  refine JT_iload_n (q := 3) dX8_payments_4 rfl rfl ?_
  refine JT_aload_n (q := 1) dX8_payments_5 rfl rfl ?_
  refine JS_getR (x := P1) dX8_payments_6 flX8_21 (lxB hL1) (lx2 hL1) (lxN hL1) (Or.inl ⟨_, ct_4_8⟩) (lxR8 hL1) ?_
  refine JS_getI dX8_payments_9 flX8_27 (pxB (lxP hL1)) (px2 (lxP hL1)) (pxN (lxP hL1)) (Or.inl ct_6_6) ?_
  refine JT_icmp_ge (tgt := 44) dX8_payments_12 (by decide) (fun hc4 => ?_) (fun hc4 => ?_)
  · have h := h.1 hc4
    refine JT_iconst (v := 1) dX8_payments_44 ic_1 ?_
    refine JT_istore_n (lv' := [(3, .int (1 : Int32)), (0, .ref 240), (1, .ref L1), (2, .int a2)]) dX8_payments_45 rfl (Nat.le_of_ble_eq_true rfl) rfl ?_
    exact JT_sub [1, 2, 3, 0] rfl h
  · have h := h.2 hc4
    refine JT_aload_n (q := 1) dX8_payments_15 rfl rfl ?_
    refine JT_iload_n (q := 3) dX8_payments_16 rfl rfl ?_
    obtain ⟨o3, h⟩ := h
    refine JS_callVI (M' := MX4_netOf) (d' := 2) (As := [.int a3]) (rest := []) (P := (fun zv9 wm9 => (vX4_netOf s L1 P1 a3) = zv9 ∧ s = wm9)) dX8_payments_17 cvX8_33 okX4_netOf rfl (Nat.le_of_ble_eq_true rfl) (lxB hL1) (lx2 hL1) (lxN hL1) hci_4 (Nat.le_of_ble_eq_true rfl) (Nat.le_of_ble_eq_true rfl) (pX4_netOf hL1 (a3) o3 ⟨rfl, rfl⟩) (fun zv9 wm9 hq9 => ?_)
    obtain ⟨rfl, rfl⟩ := hq9
    refine JT_istore (lv' := [(4, .int (vX4_netOf s L1 P1 a3)), (0, .ref 240), (1, .ref L1), (2, .int a2), (3, .int a3)]) dX8_payments_20 (Nat.le_of_ble_eq_true rfl) rfl ?_
    refine JT_iload (q := 0) dX8_payments_22 rfl ?_
    refine JT_if_eq (tgt := 38) dX8_payments_24 (by decide) (fun hc2 => ?_) (fun hc2 => ?_)
    · have h := h.1 hc2
      refine JT_iinc (q := 4) (v := (a3 + 1)) (lv' := [(3, .int (a3 + 1)), (4, .int (vX4_netOf s L1 P1 a3)), (0, .ref 240), (1, .ref L1), (2, .int a2)]) dX8_payments_38 rfl (by rfl) (Nat.le_of_ble_eq_true rfl) rfl ?_
      refine JT_goto (tgt := 4) dX8_payments_41 (by decide) ?_
      exact JT_sub [2, 3, 4, 0] rfl h
    · have h := h.2 hc2
      refine JT_aload_n (q := 1) dX8_payments_27 rfl rfl ?_
      refine JS_getR (x := 241) dX8_payments_28 flX8_9 BS_240 (Nat.le_of_ble_eq_true rfl) (Nat.le_of_ble_eq_true rfl) (Or.inr ⟨_, ct_8_0⟩) RF_240_0 ?_
      refine JT_iload_n (q := 3) dX8_payments_31 rfl rfl ?_
      refine JT_iload (q := 0) dX8_payments_32 rfl ?_
      obtain ⟨o1, h⟩ := h
      refine JS_iast dX8_payments_34 BS_241 (Nat.le_of_ble_eq_true rfl) (Nat.le_of_ble_eq_true rfl) o1 ?_
      refine JT_iinc (q := 3) (v := (a2 + 1)) (lv' := [(2, .int (a2 + 1)), (4, .int (vX4_netOf s L1 P1 a3)), (0, .ref 240), (1, .ref L1), (3, .int a3)]) dX8_payments_35 rfl (by rfl) (Nat.le_of_ble_eq_true rfl) rfl ?_
      refine JT_iinc (q := 4) (v := (a3 + 1)) (lv' := [(3, .int (a3 + 1)), (2, .int (a2 + 1)), (4, .int (vX4_netOf s L1 P1 a3)), (0, .ref 240), (1, .ref L1)]) dX8_payments_38 rfl (by rfl) (Nat.le_of_ble_eq_true rfl) rfl ?_
      refine JT_goto (tgt := 4) dX8_payments_41 (by decide) ?_
      exact JT_sub [3, 4, 1, 0] rfl h
set_option maxRecDepth 1000000 in
theorem bX8_payments_46 {L1 P1 : Nat} (hL1 : (L1, P1) ∈ LX) (a2 : Int32) (a3 : Int32) {s : SM} {Q : Int32 → SM → Prop} (h : ((((1 : Int32) <<< (a2 &&& 31)) ≤ a3 → vp_in (((1 : Int32) <<< (a2 &&& 31)) - (1 : Int32)) 512 ∧ Q (a2 - (gI s 243 ((((1 : Int32) <<< (a2 &&& 31)) - (1 : Int32))).toNatClampNeg)) s) ∧ (¬ ((1 : Int32) <<< (a2 &&& 31)) ≤ a3 → (((512 : Int32) ≤ a3 → vp_in (((1 : Int32) <<< (a2 &&& 31)) - (1 : Int32)) 512 ∧ Q (a2 - (gI s 243 ((((1 : Int32) <<< (a2 &&& 31)) - (1 : Int32))).toNatClampNeg)) s) ∧ (¬ (512 : Int32) ≤ a3 → vp_in a3 512 ∧ vp_in a3 512 ∧ BI MX8_payments 3 77 [(0, .ref 240), (1, .ref L1), (2, .int a2), (3, .int a3), (4, .int (0 : Int32))] (pI (pI s 242 (a3).toNatClampNeg (0 : Int32)) 243 (a3).toNatClampNeg (0 : Int32)) Q))))) : BI MX8_payments 3 46 [(0, .ref 240), (1, .ref L1), (2, .int a2), (3, .int a3)] s Q := by
  refine JT_iload_n (q := 3) dX8_payments_46 rfl rfl ?_
  refine JT_iconst (v := 1) dX8_payments_47 ic_1 ?_
  refine JT_iload_n (q := 2) dX8_payments_48 rfl rfl ?_
  refine JT_ishl dX8_payments_49 ?_
  refine JT_icmp_ge (tgt := 178) dX8_payments_50 (by decide) (fun hc6 => ?_) (fun hc6 => ?_)
  · have h := h.1 hc6
    refine JT_iload_n (q := 2) dX8_payments_178 rfl rfl ?_
    refine JT_aload_n (q := 0) dX8_payments_179 rfl rfl ?_
    refine JS_getR (x := 243) dX8_payments_180 flX8_18 BS_240 (Nat.le_of_ble_eq_true rfl) (Nat.le_of_ble_eq_true rfl) (Or.inr ⟨_, ct_8_2⟩) RF_240_2 ?_
    refine JT_iconst (v := 1) dX8_payments_183 ic_1 ?_
    refine JT_iload_n (q := 2) dX8_payments_184 rfl rfl ?_
    refine JT_ishl dX8_payments_185 ?_
    refine JT_iconst (v := 1) dX8_payments_186 ic_1 ?_
    refine JT_isub dX8_payments_187 ?_
    obtain ⟨o1, h⟩ := h
    refine JS_iald dX8_payments_188 BS_243 (Nat.le_of_ble_eq_true rfl) (Nat.le_of_ble_eq_true rfl) o1 ?_
    refine JT_isub dX8_payments_189 ?_
    exact JS_iret dX8_payments_190 rfl rfl h
  · have h := h.2 hc6
    refine JT_iload_n (q := 3) dX8_payments_53 rfl rfl ?_
    refine JT_sipush (v := 512) dX8_payments_54 sp_512 ?_
    refine JT_icmp_ge (tgt := 178) dX8_payments_57 (by decide) (fun hc5 => ?_) (fun hc5 => ?_)
    · have h := h.1 hc5
      refine JT_iload_n (q := 2) dX8_payments_178 rfl rfl ?_
      refine JT_aload_n (q := 0) dX8_payments_179 rfl rfl ?_
      refine JS_getR (x := 243) dX8_payments_180 flX8_18 BS_240 (Nat.le_of_ble_eq_true rfl) (Nat.le_of_ble_eq_true rfl) (Or.inr ⟨_, ct_8_2⟩) RF_240_2 ?_
      refine JT_iconst (v := 1) dX8_payments_183 ic_1 ?_
      refine JT_iload_n (q := 2) dX8_payments_184 rfl rfl ?_
      refine JT_ishl dX8_payments_185 ?_
      refine JT_iconst (v := 1) dX8_payments_186 ic_1 ?_
      refine JT_isub dX8_payments_187 ?_
      obtain ⟨o2, h⟩ := h
      refine JS_iald dX8_payments_188 BS_243 (Nat.le_of_ble_eq_true rfl) (Nat.le_of_ble_eq_true rfl) o2 ?_
      refine JT_isub dX8_payments_189 ?_
      exact JS_iret dX8_payments_190 rfl rfl h
    · have h := h.2 hc5
      refine JT_aload_n (q := 0) dX8_payments_60 rfl rfl ?_
      refine JS_getR (x := 242) dX8_payments_61 flX8_15 BS_240 (Nat.le_of_ble_eq_true rfl) (Nat.le_of_ble_eq_true rfl) (Or.inr ⟨_, ct_8_1⟩) RF_240_1 ?_
      refine JT_iload_n (q := 3) dX8_payments_64 rfl rfl ?_
      refine JT_iconst (v := 0) dX8_payments_65 ic_0 ?_
      obtain ⟨o3, h⟩ := h
      refine JS_iast dX8_payments_66 BS_242 (Nat.le_of_ble_eq_true rfl) (Nat.le_of_ble_eq_true rfl) o3 ?_
      refine JT_aload_n (q := 0) dX8_payments_67 rfl rfl ?_
      refine JS_getR (x := 243) dX8_payments_68 flX8_18 BS_240 (Nat.le_of_ble_eq_true rfl) (Nat.le_of_ble_eq_true rfl) (Or.inr ⟨_, ct_8_2⟩) RF_240_2 ?_
      refine JT_iload_n (q := 3) dX8_payments_71 rfl rfl ?_
      refine JT_iconst (v := 0) dX8_payments_72 ic_0 ?_
      obtain ⟨o4, h⟩ := h
      refine JS_iast dX8_payments_73 BS_243 (Nat.le_of_ble_eq_true rfl) (Nat.le_of_ble_eq_true rfl) o4 ?_
      refine JT_iconst (v := 0) dX8_payments_74 ic_0 ?_
      refine JT_istore (lv' := [(4, .int (0 : Int32)), (0, .ref 240), (1, .ref L1), (2, .int a2), (3, .int a3)]) dX8_payments_75 (Nat.le_of_ble_eq_true rfl) rfl ?_
      exact JT_sub [1, 2, 3, 4, 0] rfl h
set_option maxRecDepth 1000000 in
theorem bX8_payments_77 {L1 P1 : Nat} (hL1 : (L1, P1) ∈ LX) (a2 : Int32) (a3 : Int32) (a4 : Int32) {s : SM} {Q : Int32 → SM → Prop} (h : ((a2 ≤ a4 → vp_in a3 512 ∧ vp_in a3 512 ∧ vp_in a3 512 ∧ (∀ s4, s4 = (pI s 243 (a3).toNatClampNeg ((gI s 243 (a3).toNatClampNeg) + (if (gI s 242 (a3).toNatClampNeg) = 0 then (1 : Int32) else (0 : Int32)))) → BI MX8_payments 3 46 [(0, .ref 240), (1, .ref L1), (2, .int a2), (3, .int (a3 + 1))] s4 Q)) ∧ (¬ a2 ≤ a4 → (((vX11_isIn s a4 a3) = 0 → BI MX8_payments 3 77 [(0, .ref 240), (1, .ref L1), (2, .int a2), (3, .int a3), (4, .int (a4 + 1))] s Q) ∧ (¬ (vX11_isIn s a4 a3) = 0 → vp_in (a3 ^^^ ((1 : Int32) <<< (a4 &&& 31))) 512 ∧ vp_in a4 9 ∧ vp_in a3 512 ∧ (∀ s10, s10 = (pI s 242 (a3).toNatClampNeg ((gI s 242 ((a3 ^^^ ((1 : Int32) <<< (a4 &&& 31)))).toNatClampNeg) + (gI s 241 (a4).toNatClampNeg))) → vp_in a3 512 ∧ vp_in (a3 ^^^ ((1 : Int32) <<< (a4 &&& 31))) 512 ∧ vp_in a3 512 ∧ (∀ s14, s14 = (pI s10 243 (a3).toNatClampNeg (if (gI s10 243 (a3).toNatClampNeg) < (gI s10 243 ((a3 ^^^ ((1 : Int32) <<< (a4 &&& 31)))).toNatClampNeg) then (gI s10 243 ((a3 ^^^ ((1 : Int32) <<< (a4 &&& 31)))).toNatClampNeg) else (gI s10 243 (a3).toNatClampNeg))) → BI MX8_payments 3 77 [(0, .ref 240), (1, .ref L1), (2, .int a2), (3, .int a3), (4, .int (a4 + 1))] s14 Q))))))) : BI MX8_payments 3 77 [(0, .ref 240), (1, .ref L1), (2, .int a2), (3, .int a3), (4, .int a4)] s Q := by
  refine JT_iload (q := 4) dX8_payments_77 rfl ?_
  refine JT_iload_n (q := 2) dX8_payments_79 rfl rfl ?_
  refine JT_icmp_ge (tgt := 149) dX8_payments_80 (by decide) (fun hc17 => ?_) (fun hc17 => ?_)
  · have h := h.1 hc17
    refine JT_aload_n (q := 0) dX8_payments_149 rfl rfl ?_
    refine JS_getR (x := 243) dX8_payments_150 flX8_18 BS_240 (Nat.le_of_ble_eq_true rfl) (Nat.le_of_ble_eq_true rfl) (Or.inr ⟨_, ct_8_2⟩) RF_240_2 ?_
    refine JT_iload_n (q := 3) dX8_payments_153 rfl rfl ?_
    refine JT_dup2 dX8_payments_154 rfl rfl ?_
    obtain ⟨o1, h⟩ := h
    refine JS_iald dX8_payments_155 BS_243 (Nat.le_of_ble_eq_true rfl) (Nat.le_of_ble_eq_true rfl) o1 ?_
    refine JT_aload_n (q := 0) dX8_payments_156 rfl rfl ?_
    refine JS_getR (x := 242) dX8_payments_157 flX8_15 BS_240 (Nat.le_of_ble_eq_true rfl) (Nat.le_of_ble_eq_true rfl) (Or.inr ⟨_, ct_8_1⟩) RF_240_1 ?_
    refine JT_iload_n (q := 3) dX8_payments_160 rfl rfl ?_
    obtain ⟨o2, h⟩ := h
    refine JS_iald dX8_payments_161 BS_242 (Nat.le_of_ble_eq_true rfl) (Nat.le_of_ble_eq_true rfl) o2 ?_
    have hj5 : ∀ v : Int32, v = (if (gI s 242 (a3).toNatClampNeg) = 0 then (1 : Int32) else (0 : Int32)) → JT MX8_payments 3 0 0 170 [(0, .ref 240), (1, .ref L1), (2, .int a2), (3, .int a3), (4, .int a4)] [.int v, .int (gI s 243 (a3).toNatClampNeg), .int a3, .ref 243] (std s) (KQ Q) := by
      intro v hv
      subst hv
      refine JT_iadd dX8_payments_170 ?_
      obtain ⟨o3, h⟩ := h
      refine JS_iast dX8_payments_171 BS_243 (Nat.le_of_ble_eq_true rfl) (Nat.le_of_ble_eq_true rfl) o3 ?_
      obtain ⟨s4, hs4⟩ : ∃ z, z = (pI s 243 (a3).toNatClampNeg ((gI s 243 (a3).toNatClampNeg) + (if (gI s 242 (a3).toNatClampNeg) = 0 then (1 : Int32) else (0 : Int32)))) := ⟨_, rfl⟩
      replace h := h s4 hs4
      rw [← hs4]
      refine JT_iinc (q := 3) (v := (a3 + 1)) (lv' := [(3, .int (a3 + 1)), (0, .ref 240), (1, .ref L1), (2, .int a2), (4, .int a4)]) dX8_payments_172 rfl (by rfl) (Nat.le_of_ble_eq_true rfl) rfl ?_
      refine JT_goto (tgt := 46) dX8_payments_175 (by decide) ?_
      exact JT_sub [1, 2, 3, 0] rfl h
    refine JT_if_ne (tgt := 169) dX8_payments_162 (by decide) (fun hc6 => ?_) (fun hc6 => ?_)
    · refine JT_iconst (v := 0) dX8_payments_169 ic_0 ?_
      exact hj5 _ (by rw [if_neg hc6])
    · refine JT_iconst (v := 1) dX8_payments_165 ic_1 ?_
      refine JT_goto (tgt := 170) dX8_payments_166 (by decide) ?_
      exact hj5 _ (by rw [if_pos hc6])
  · have h := h.2 hc17
    refine JT_iload (q := 4) dX8_payments_83 rfl ?_
    refine JT_iload_n (q := 3) dX8_payments_85 rfl rfl ?_
    refine JS_callSNI (M' := MX11_isIn) (d' := 0) (As := [.int a4, .int a3]) (rest := []) (P := (fun zv9 wm9 => (vX11_isIn s a4 a3) = zv9 ∧ s = wm9)) dX8_payments_86 cvX8_37 okX11_isIn rfl (Nat.le_of_ble_eq_true rfl) (Nat.le_of_ble_eq_true rfl) (Nat.le_of_ble_eq_true rfl) (pX11_isIn  (a4) (a3)  ⟨rfl, rfl⟩) (fun zv9 wm9 hq9 => ?_)
    obtain ⟨rfl, rfl⟩ := hq9
    refine JT_if_eq (tgt := 143) dX8_payments_89 (by decide) (fun hc15 => ?_) (fun hc15 => ?_)
    · have h := h.1 hc15
      refine JT_iinc (q := 4) (v := (a4 + 1)) (lv' := [(4, .int (a4 + 1)), (0, .ref 240), (1, .ref L1), (2, .int a2), (3, .int a3)]) dX8_payments_143 rfl (by rfl) (Nat.le_of_ble_eq_true rfl) rfl ?_
      refine JT_goto (tgt := 77) dX8_payments_146 (by decide) ?_
      exact JT_sub [1, 2, 3, 4, 0] rfl h
    · have h := h.2 hc15
      refine JT_iload_n (q := 3) dX8_payments_92 rfl rfl ?_
      refine JT_iconst (v := 1) dX8_payments_93 ic_1 ?_
      refine JT_iload (q := 4) dX8_payments_94 rfl ?_
      refine JT_ishl dX8_payments_96 ?_
      refine JT_ixor dX8_payments_97 ?_
      refine JT_istore (lv' := [(5, .int (a3 ^^^ ((1 : Int32) <<< (a4 &&& 31)))), (0, .ref 240), (1, .ref L1), (2, .int a2), (3, .int a3), (4, .int a4)]) dX8_payments_98 (Nat.le_of_ble_eq_true rfl) rfl ?_
      refine JT_aload_n (q := 1) dX8_payments_100 rfl rfl ?_
      refine JS_getR (x := 242) dX8_payments_101 flX8_15 BS_240 (Nat.le_of_ble_eq_true rfl) (Nat.le_of_ble_eq_true rfl) (Or.inr ⟨_, ct_8_1⟩) RF_240_1 ?_
      refine JT_iload_n (q := 4) dX8_payments_104 rfl rfl ?_
      refine JT_aload_n (q := 1) dX8_payments_105 rfl rfl ?_
      refine JS_getR (x := 242) dX8_payments_106 flX8_15 BS_240 (Nat.le_of_ble_eq_true rfl) (Nat.le_of_ble_eq_true rfl) (Or.inr ⟨_, ct_8_1⟩) RF_240_1 ?_
      refine JT_iload (q := 0) dX8_payments_109 rfl ?_
      obtain ⟨o7, h⟩ := h
      refine JS_iald dX8_payments_111 BS_242 (Nat.le_of_ble_eq_true rfl) (Nat.le_of_ble_eq_true rfl) o7 ?_
      refine JT_aload_n (q := 1) dX8_payments_112 rfl rfl ?_
      refine JS_getR (x := 241) dX8_payments_113 flX8_9 BS_240 (Nat.le_of_ble_eq_true rfl) (Nat.le_of_ble_eq_true rfl) (Or.inr ⟨_, ct_8_0⟩) RF_240_0 ?_
      refine JT_iload (q := 5) dX8_payments_116 rfl ?_
      obtain ⟨o8, h⟩ := h
      refine JS_iald dX8_payments_118 BS_241 (Nat.le_of_ble_eq_true rfl) (Nat.le_of_ble_eq_true rfl) o8 ?_
      refine JT_iadd dX8_payments_119 ?_
      obtain ⟨o9, h⟩ := h
      refine JS_iast dX8_payments_120 BS_242 (Nat.le_of_ble_eq_true rfl) (Nat.le_of_ble_eq_true rfl) o9 ?_
      obtain ⟨s10, hs10⟩ : ∃ z, z = (pI s 242 (a3).toNatClampNeg ((gI s 242 ((a3 ^^^ ((1 : Int32) <<< (a4 &&& 31)))).toNatClampNeg) + (gI s 241 (a4).toNatClampNeg))) := ⟨_, rfl⟩
      replace h := h s10 hs10
      rw [← hs10]
      refine JT_aload_n (q := 1) dX8_payments_121 rfl rfl ?_
      refine JS_getR (x := 243) dX8_payments_122 flX8_18 BS_240 (Nat.le_of_ble_eq_true rfl) (Nat.le_of_ble_eq_true rfl) (Or.inr ⟨_, ct_8_2⟩) RF_240_2 ?_
      refine JT_iload_n (q := 4) dX8_payments_125 rfl rfl ?_
      refine JT_aload_n (q := 1) dX8_payments_126 rfl rfl ?_
      refine JS_getR (x := 243) dX8_payments_127 flX8_18 BS_240 (Nat.le_of_ble_eq_true rfl) (Nat.le_of_ble_eq_true rfl) (Or.inr ⟨_, ct_8_2⟩) RF_240_2 ?_
      refine JT_iload_n (q := 4) dX8_payments_130 rfl rfl ?_
      obtain ⟨o11, h⟩ := h
      refine JS_iald dX8_payments_131 BS_243 (Nat.le_of_ble_eq_true rfl) (Nat.le_of_ble_eq_true rfl) o11 ?_
      refine JT_aload_n (q := 1) dX8_payments_132 rfl rfl ?_
      refine JS_getR (x := 243) dX8_payments_133 flX8_18 BS_240 (Nat.le_of_ble_eq_true rfl) (Nat.le_of_ble_eq_true rfl) (Or.inr ⟨_, ct_8_2⟩) RF_240_2 ?_
      refine JT_iload (q := 0) dX8_payments_136 rfl ?_
      obtain ⟨o12, h⟩ := h
      refine JS_iald dX8_payments_138 BS_243 (Nat.le_of_ble_eq_true rfl) (Nat.le_of_ble_eq_true rfl) o12 ?_
      refine JT_mmax (d2 := 2) dX8_payments_139 mlX8_41 (Nat.le_of_ble_eq_true rfl) rfl ?_
      obtain ⟨o13, h⟩ := h
      refine JS_iast dX8_payments_142 BS_243 (Nat.le_of_ble_eq_true rfl) (Nat.le_of_ble_eq_true rfl) o13 ?_
      obtain ⟨s14, hs14⟩ : ∃ z, z = (pI s10 243 (a3).toNatClampNeg (if (gI s10 243 (a3).toNatClampNeg) < (gI s10 243 ((a3 ^^^ ((1 : Int32) <<< (a4 &&& 31)))).toNatClampNeg) then (gI s10 243 ((a3 ^^^ ((1 : Int32) <<< (a4 &&& 31)))).toNatClampNeg) else (gI s10 243 (a3).toNatClampNeg))) := ⟨_, rfl⟩
      replace h := h s14 hs14
      rw [← hs14]
      refine JT_iinc (q := 5) (v := (a4 + 1)) (lv' := [(4, .int (a4 + 1)), (5, .int (a3 ^^^ ((1 : Int32) <<< (a4 &&& 31)))), (0, .ref 240), (1, .ref L1), (2, .int a2), (3, .int a3)]) dX8_payments_143 rfl (by rfl) (Nat.le_of_ble_eq_true rfl) rfl ?_
      refine JT_goto (tgt := 77) dX8_payments_146 (by decide) ?_
      exact JT_sub [2, 3, 4, 5, 0] rfl h
set_option maxRecDepth 1000000 in
theorem bX8_payments {L1 P1 : Nat} (hL1 : (L1, P1) ∈ LX) {s : SM} {Q : Int32 → SM → Prop} (h : BI MX8_payments 3 4 [(0, .ref 240), (1, .ref L1), (2, .int (0 : Int32)), (3, .int (0 : Int32))] s Q) : KI MX8_payments 3 [.ref 240, .ref L1] s Q := by
  show BI MX8_payments 3 0 [(0, .ref 240), (1, .ref L1)] s Q
  refine JT_iconst (v := 0) dX8_payments_0 ic_0 ?_
  refine JT_istore_n (lv' := [(2, .int (0 : Int32)), (0, .ref 240), (1, .ref L1)]) dX8_payments_1 rfl (Nat.le_of_ble_eq_true rfl) rfl ?_
  refine JT_iconst (v := 0) dX8_payments_2 ic_0 ?_
  refine JT_istore_n (lv' := [(3, .int (0 : Int32)), (2, .int (0 : Int32)), (0, .ref 240), (1, .ref L1)]) dX8_payments_3 rfl (Nat.le_of_ble_eq_true rfl) rfl ?_
  exact JT_sub [2, 3, 1, 0] rfl h
set_option maxRecDepth 1000000 in
theorem gX8_payments {L1 P1 : Nat} (hL1 : (L1, P1) ∈ LX) : ∀ n : Nat, (∀ (a2 : Int32) (a3 : Int32) (s : SM) (Q : Int32 → SM → Prop), ((qX8_payments n).1 s L1 P1 a2 a3) → Q ((lX8_payments n).1 s L1 P1 a2 a3).1 ((lX8_payments n).1 s L1 P1 a2 a3).2 → BI MX8_payments 3 4 [(0, .ref 240), (1, .ref L1), (2, .int a2), (3, .int a3)] s Q) ∧ (∀ (a2 : Int32) (a3 : Int32) (s : SM) (Q : Int32 → SM → Prop), ((qX8_payments n).2.1 s L1 P1 a2 a3) → Q ((lX8_payments n).2.1 s L1 P1 a2 a3).1 ((lX8_payments n).2.1 s L1 P1 a2 a3).2 → BI MX8_payments 3 46 [(0, .ref 240), (1, .ref L1), (2, .int a2), (3, .int a3)] s Q) ∧ (∀ (a2 : Int32) (a3 : Int32) (a4 : Int32) (s : SM) (Q : Int32 → SM → Prop), ((qX8_payments n).2.2 s L1 P1 a2 a3 a4) → Q ((lX8_payments n).2.2 s L1 P1 a2 a3 a4).1 ((lX8_payments n).2.2 s L1 P1 a2 a3 a4).2 → BI MX8_payments 3 77 [(0, .ref 240), (1, .ref L1), (2, .int a2), (3, .int a3), (4, .int a4)] s Q) := by
  intro n
  induction n with
  | zero => exact ⟨fun _ _ _ _ hq _ => absurd hq id, fun _ _ _ _ hq _ => absurd hq id, fun _ _ _ _ _ hq _ => absurd hq id⟩
  | succ n ih =>
    refine ⟨?_, ?_, ?_⟩
    · intro a2 a3 s Q hr h
      replace hr : uX8_payments_4 (qX8_payments n) s L1 P1 a2 a3 := hr
      replace h : Q (tX8_payments_4 (lX8_payments n) s L1 P1 a2 a3).1 (tX8_payments_4 (lX8_payments n) s L1 P1 a2 a3).2 := h
      unfold uX8_payments_4 at hr
      unfold tX8_payments_4 at h
      refine bX8_payments_4 hL1 a2 a3 ?_
      refine ⟨fun c => ?_, fun c => ?_⟩
      · replace hr := hr.1 c
        replace h := q3p c h
        first | exact ih.2.1 a2 (1 : Int32) _ Q hr h | contradiction
      · replace hr := hr.2 c
        replace h := q3n c h
        refine ⟨hr.1, ?_⟩
        replace hr := hr.2
        refine ⟨fun c => ?_, fun c => ?_⟩
        · replace hr := hr.1 c
          replace h := q3p c h
          first | exact ih.1 a2 (a3 + 1) _ Q hr h | contradiction
        · replace hr := hr.2 c
          replace h := q3n c h
          refine ⟨hr.1, ?_⟩
          replace hr := hr.2
          first | exact ih.1 (a2 + 1) (a3 + 1) _ Q hr h | contradiction
    · intro a2 a3 s Q hr h
      replace hr : uX8_payments_46 (qX8_payments n) s L1 P1 a2 a3 := hr
      replace h : Q (tX8_payments_46 (lX8_payments n) s L1 P1 a2 a3).1 (tX8_payments_46 (lX8_payments n) s L1 P1 a2 a3).2 := h
      unfold uX8_payments_46 at hr
      unfold tX8_payments_46 at h
      refine bX8_payments_46 hL1 a2 a3 ?_
      refine ⟨fun c => ?_, fun c => ?_⟩
      · replace hr := hr.1 c
        replace h := q3p c h
        refine ⟨hr, ?_⟩
        first | exact h | contradiction
      · replace hr := hr.2 c
        replace h := q3n c h
        refine ⟨fun c => ?_, fun c => ?_⟩
        · replace hr := hr.1 c
          replace h := q3p c h
          refine ⟨hr, ?_⟩
          first | exact h | contradiction
        · replace hr := hr.2 c
          replace h := q3n c h
          refine ⟨hr.1, ?_⟩
          replace hr := hr.2
          refine ⟨hr.1, ?_⟩
          replace hr := hr.2
          first | exact ih.2.2 a2 a3 (0 : Int32) _ Q hr h | contradiction
    · intro a2 a3 a4 s Q hr h
      replace hr : uX8_payments_77 (qX8_payments n) s L1 P1 a2 a3 a4 := hr
      replace h : Q (tX8_payments_77 (lX8_payments n) s L1 P1 a2 a3 a4).1 (tX8_payments_77 (lX8_payments n) s L1 P1 a2 a3 a4).2 := h
      unfold uX8_payments_77 at hr
      unfold tX8_payments_77 at h
      refine bX8_payments_77 hL1 a2 a3 a4 ?_
      refine ⟨fun c => ?_, fun c => ?_⟩
      · replace hr := hr.1 c
        replace h := q3p c h
        refine ⟨hr.1, ?_⟩
        replace hr := hr.2
        refine ⟨hr.1, ?_⟩
        replace hr := hr.2
        refine ⟨hr.1, ?_⟩
        replace hr := hr.2
        intro s4 e9
        replace hr := hr s4 e9
        try rw [← e9] at h
        try dsimp only at h
        first | exact ih.2.1 a2 (a3 + 1) _ Q hr h | contradiction
      · replace hr := hr.2 c
        replace h := q3n c h
        refine ⟨fun c => ?_, fun c => ?_⟩
        · replace hr := hr.1 c
          replace h := q3p c h
          first | exact ih.2.2 a2 a3 (a4 + 1) _ Q hr h | contradiction
        · replace hr := hr.2 c
          replace h := q3n c h
          refine ⟨hr.1, ?_⟩
          replace hr := hr.2
          refine ⟨hr.1, ?_⟩
          replace hr := hr.2
          refine ⟨hr.1, ?_⟩
          replace hr := hr.2
          intro s10 e9
          replace hr := hr s10 e9
          try rw [← e9] at h
          try dsimp only at h
          refine ⟨hr.1, ?_⟩
          replace hr := hr.2
          refine ⟨hr.1, ?_⟩
          replace hr := hr.2
          refine ⟨hr.1, ?_⟩
          replace hr := hr.2
          intro s14 e9
          replace hr := hr s14 e9
          try rw [← e9] at h
          try dsimp only at h
          first | exact ih.2.2 a2 a3 (a4 + 1) _ Q hr h | contradiction
set_option maxRecDepth 1000000 in
theorem pX8_payments {L1 P1 : Nat} (hL1 : (L1, P1) ∈ LX) {s : SM} {Q : Int32 → SM → Prop} (hr : rX8_payments s L1 P1) (h : Q (vX8_payments s L1 P1) (mX8_payments s L1 P1)) : KI MX8_payments 3 [.ref 240, .ref L1] s Q := by
  replace h : Q (fX8_payments s L1 P1).1 (fX8_payments s L1 P1).2 := h
  unfold rX8_payments at hr
  unfold fX8_payments at h
  refine bX8_payments hL1 ?_
  first | exact (gX8_payments hL1 FU).1 (0 : Int32) (0 : Int32) _ Q hr h | contradiction
set_option maxRecDepth 1000000 in
theorem bX9_takeBody {p1 : Nat} (hp1 : p1 ∈ PX) {s : SM} {Q : Int32 → SM → Prop} (h : rX9_nextToken s  ∧ rX9_isName (mX9_nextToken s )  ∧ ((¬ (vX9_isName (mX9_nextToken s ) ) = 0 → rX6_bodyNamed (mX9_nextToken s ) p1 (gL (mX9_nextToken s ) 3 4) ∧ ((¬ (gI (pI (mX9_nextToken s ) 3 6 (vX6_bodyNamed (mX9_nextToken s ) p1 (gL (mX9_nextToken s ) 3 4))) 3 6) = (-1 : Int32) → Q (1 : Int32) (pI (mX9_nextToken s ) 3 6 (vX6_bodyNamed (mX9_nextToken s ) p1 (gL (mX9_nextToken s ) 3 4)))) ∧ ((gI (pI (mX9_nextToken s ) 3 6 (vX6_bodyNamed (mX9_nextToken s ) p1 (gL (mX9_nextToken s ) 3 4))) 3 6) = (-1 : Int32) → Q (if (vX9_refuse (pI (mX9_nextToken s ) 3 6 (vX6_bodyNamed (mX9_nextToken s ) p1 (gL (mX9_nextToken s ) 3 4))) (3 : Int32)) = 0 then (0 : Int32) else (1 : Int32)) (mX9_refuse (pI (mX9_nextToken s ) 3 6 (vX6_bodyNamed (mX9_nextToken s ) p1 (gL (mX9_nextToken s ) 3 4))) (3 : Int32))))) ∧ ((vX9_isName (mX9_nextToken s ) ) = 0 → Q (vX9_refuse (mX9_nextToken s ) (1 : Int32)) (mX9_refuse (mX9_nextToken s ) (1 : Int32))))) : KI MX9_takeBody 3 [.ref 3, .ref p1] s Q := by
  show BI MX9_takeBody 3 0 [(0, .ref 3), (1, .ref p1)] s Q
  refine JT_aload_n (q := 0) dX9_takeBody_0 rfl rfl ?_
  obtain ⟨o9, h⟩ := h
  refine JS_callVV (M' := MX9_nextToken) (d' := 2) (As := []) (rest := []) (P := (fun wm9 => (mX9_nextToken s ) = wm9)) dX9_takeBody_1 cvX9_70 okX9_nextToken rfl (Nat.le_of_ble_eq_true rfl) BS_3 (Nat.le_of_ble_eq_true rfl) (Nat.le_of_ble_eq_true rfl) hci_9 (Nat.le_of_ble_eq_true rfl) (Nat.le_of_ble_eq_true rfl) (pX9_nextToken   o9 rfl) (fun wm9 hq9 => ?_)
  subst hq9
  refine JT_aload_n (q := 0) dX9_takeBody_4 rfl rfl ?_
  obtain ⟨o8, h⟩ := h
  refine JS_callVI (M' := MX9_isName) (d' := 0) (As := []) (rest := []) (P := (fun zv9 wm9 => (vX9_isName (mX9_nextToken s ) ) = zv9 ∧ (mX9_nextToken s ) = wm9)) dX9_takeBody_5 cvX9_73 okX9_isName rfl (Nat.le_of_ble_eq_true rfl) BS_3 (Nat.le_of_ble_eq_true rfl) (Nat.le_of_ble_eq_true rfl) hci_9 (Nat.le_of_ble_eq_true rfl) (Nat.le_of_ble_eq_true rfl) (pX9_isName   o8 ⟨rfl, rfl⟩) (fun zv9 wm9 hq9 => ?_)
  obtain ⟨rfl, rfl⟩ := hq9
  refine JT_if_ne (tgt := 17) dX9_takeBody_8 (by decide) (fun hc7 => ?_) (fun hc7 => ?_)
  · have h := h.1 hc7
    refine JT_aload_n (q := 0) dX9_takeBody_17 rfl rfl ?_
    refine JT_aload_n (q := 1) dX9_takeBody_18 rfl rfl ?_
    refine JT_aload_n (q := 0) dX9_takeBody_19 rfl rfl ?_
    refine JS_getL dX9_takeBody_20 flX9_56 BS_3 (Nat.le_of_ble_eq_true rfl) (Nat.le_of_ble_eq_true rfl) ct_9_4 ?_
    obtain ⟨o5, h⟩ := h
    refine JS_callVI (M' := MX6_bodyNamed) (d' := 0) (As := [.long (gL (mX9_nextToken s ) 3 4)]) (rest := [.ref 3]) (P := (fun zv9 wm9 => (vX6_bodyNamed (mX9_nextToken s ) p1 (gL (mX9_nextToken s ) 3 4)) = zv9 ∧ (mX9_nextToken s ) = wm9)) dX9_takeBody_23 cvX9_77 okX6_bodyNamed rfl (Nat.le_of_ble_eq_true rfl) (pxB hp1) (px2 hp1) (pxN hp1) hci_6 (Nat.le_of_ble_eq_true rfl) (Nat.le_of_ble_eq_true rfl) (pX6_bodyNamed hp1 ((gL (mX9_nextToken s ) 3 4)) o5 ⟨rfl, rfl⟩) (fun zv9 wm9 hq9 => ?_)
    obtain ⟨rfl, rfl⟩ := hq9
    refine JS_putI dX9_takeBody_26 flX9_86 BS_3 (Nat.le_of_ble_eq_true rfl) (Nat.le_of_ble_eq_true rfl) ct_9_6 ?_
    refine JT_aload_n (q := 0) dX9_takeBody_29 rfl rfl ?_
    refine JS_getI dX9_takeBody_30 flX9_86 BS_3 (Nat.le_of_ble_eq_true rfl) (Nat.le_of_ble_eq_true rfl) (Or.inl ct_9_6) ?_
    refine JT_iconst (v := -1) dX9_takeBody_33 ic_m1 ?_
    refine JT_icmp_ne (tgt := 45) dX9_takeBody_34 (by decide) (fun hc4 => ?_) (fun hc4 => ?_)
    · have h := h.1 hc4
      refine JT_iconst (v := 1) dX9_takeBody_45 ic_1 ?_
      refine JT_goto (tgt := 50) dX9_takeBody_46 (by decide) ?_
      exact JS_iret dX9_takeBody_50 rfl (n01 (Or.inr rfl)) h
    · have h := h.2 hc4
      refine JT_aload_n (q := 0) dX9_takeBody_37 rfl rfl ?_
      refine JT_iconst (v := 3) dX9_takeBody_38 ic_3 ?_
      refine JS_callVI (M' := MX9_refuse) (d' := 0) (As := [.int (3 : Int32)]) (rest := []) (P := (fun zv9 wm9 => (vX9_refuse (pI (mX9_nextToken s ) 3 6 (vX6_bodyNamed (mX9_nextToken s ) p1 (gL (mX9_nextToken s ) 3 4))) (3 : Int32)) = zv9 ∧ (mX9_refuse (pI (mX9_nextToken s ) 3 6 (vX6_bodyNamed (mX9_nextToken s ) p1 (gL (mX9_nextToken s ) 3 4))) (3 : Int32)) = wm9)) dX9_takeBody_39 cvX9_63 okX9_refuse rfl (Nat.le_of_ble_eq_true rfl) BS_3 (Nat.le_of_ble_eq_true rfl) (Nat.le_of_ble_eq_true rfl) hci_9 (Nat.le_of_ble_eq_true rfl) (Nat.le_of_ble_eq_true rfl) (pX9_refuse  ((3 : Int32))  ⟨rfl, rfl⟩) (fun zv9 wm9 hq9 => ?_)
      obtain ⟨rfl, rfl⟩ := hq9
      have hj1 : ∀ v : Int32, v = (if (vX9_refuse (pI (mX9_nextToken s ) 3 6 (vX6_bodyNamed (mX9_nextToken s ) p1 (gL (mX9_nextToken s ) 3 4))) (3 : Int32)) = 0 then (0 : Int32) else (1 : Int32)) → JT MX9_takeBody 3 0 0 50 [(0, .ref 3), (1, .ref p1)] [.int v] (std (mX9_refuse (pI (mX9_nextToken s ) 3 6 (vX6_bodyNamed (mX9_nextToken s ) p1 (gL (mX9_nextToken s ) 3 4))) (3 : Int32))) (KQ Q) := by
        intro v hv
        subst hv
        exact JS_iret dX9_takeBody_50 rfl (n01 (i01 (Or.inl rfl) (Or.inr rfl))) h
      refine JT_if_eq (tgt := 49) dX9_takeBody_42 (by decide) (fun hc2 => ?_) (fun hc2 => ?_)
      · refine JT_iconst (v := 0) dX9_takeBody_49 ic_0 ?_
        exact hj1 _ (by rw [if_pos hc2])
      · refine JT_iconst (v := 1) dX9_takeBody_45 ic_1 ?_
        refine JT_goto (tgt := 50) dX9_takeBody_46 (by decide) ?_
        exact hj1 _ (by rw [if_neg hc2])
  · have h := h.2 hc7
    refine JT_aload_n (q := 0) dX9_takeBody_11 rfl rfl ?_
    refine JT_iconst (v := 1) dX9_takeBody_12 ic_1 ?_
    refine JS_callVI (M' := MX9_refuse) (d' := 0) (As := [.int (1 : Int32)]) (rest := []) (P := (fun zv9 wm9 => (vX9_refuse (mX9_nextToken s ) (1 : Int32)) = zv9 ∧ (mX9_refuse (mX9_nextToken s ) (1 : Int32)) = wm9)) dX9_takeBody_13 cvX9_63 okX9_refuse rfl (Nat.le_of_ble_eq_true rfl) BS_3 (Nat.le_of_ble_eq_true rfl) (Nat.le_of_ble_eq_true rfl) hci_9 (Nat.le_of_ble_eq_true rfl) (Nat.le_of_ble_eq_true rfl) (pX9_refuse  ((1 : Int32))  ⟨rfl, rfl⟩) (fun zv9 wm9 hq9 => ?_)
    obtain ⟨rfl, rfl⟩ := hq9
    exact JS_iret dX9_takeBody_16 rfl (n01 (zX9_refuse (mX9_nextToken s ) (1 : Int32))) h
set_option maxRecDepth 1000000 in
theorem zX9_takeBody (s : SM) (p1 : Nat) : vX9_takeBody s p1 = 0 ∨ vX9_takeBody s p1 = 1 := (i01 (zX9_refuse (mX9_nextToken s ) (1 : Int32)) (i01 (i01 (Or.inl rfl) (Or.inr rfl)) (Or.inr rfl)))
set_option maxRecDepth 1000000 in
theorem pX9_takeBody {p1 : Nat} (hp1 : p1 ∈ PX) {s : SM} {Q : Int32 → SM → Prop} (hr : rX9_takeBody s p1) (h : Q (vX9_takeBody s p1) (mX9_takeBody s p1)) : KI MX9_takeBody 3 [.ref 3, .ref p1] s Q := by
  refine bX9_takeBody hp1 ?_
  unfold rX9_takeBody at hr
  unfold vX9_takeBody mX9_takeBody at h
  refine ⟨hr.1, ?_⟩
  replace hr := hr.2
  refine ⟨hr.1, ?_⟩
  replace hr := hr.2
  refine ⟨fun c => ?_, fun c => ?_⟩
  · replace hr := hr c
    replace h := q2n c h
    refine ⟨hr, ?_⟩
    refine ⟨fun c => ?_, fun c => ?_⟩
    · replace h := q2n c h
      first | exact h | contradiction
    · replace h := q2p c h
      first | exact h | contradiction
  · replace h := q2p c h
    first | exact h | contradiction
set_option maxRecDepth 1000000 in
theorem bX9_takeKind {p1 : Nat} (hp1 : p1 ∈ PX) {s : SM} {Q : Int32 → SM → Prop} (h : rX9_nextToken s  ∧ rX9_isName (mX9_nextToken s )  ∧ ((¬ (vX9_isName (mX9_nextToken s ) ) = 0 → rX6_kindNamed (mX9_nextToken s ) p1 (gL (mX9_nextToken s ) 3 4) ∧ ((¬ (gI (pI (mX9_nextToken s ) 3 6 (vX6_kindNamed (mX9_nextToken s ) p1 (gL (mX9_nextToken s ) 3 4))) 3 6) = (-1 : Int32) → Q (1 : Int32) (pI (mX9_nextToken s ) 3 6 (vX6_kindNamed (mX9_nextToken s ) p1 (gL (mX9_nextToken s ) 3 4)))) ∧ ((gI (pI (mX9_nextToken s ) 3 6 (vX6_kindNamed (mX9_nextToken s ) p1 (gL (mX9_nextToken s ) 3 4))) 3 6) = (-1 : Int32) → Q (if (vX9_refuse (pI (mX9_nextToken s ) 3 6 (vX6_kindNamed (mX9_nextToken s ) p1 (gL (mX9_nextToken s ) 3 4))) (3 : Int32)) = 0 then (0 : Int32) else (1 : Int32)) (mX9_refuse (pI (mX9_nextToken s ) 3 6 (vX6_kindNamed (mX9_nextToken s ) p1 (gL (mX9_nextToken s ) 3 4))) (3 : Int32))))) ∧ ((vX9_isName (mX9_nextToken s ) ) = 0 → Q (vX9_refuse (mX9_nextToken s ) (1 : Int32)) (mX9_refuse (mX9_nextToken s ) (1 : Int32))))) : KI MX9_takeKind 3 [.ref 3, .ref p1] s Q := by
  show BI MX9_takeKind 3 0 [(0, .ref 3), (1, .ref p1)] s Q
  refine JT_aload_n (q := 0) dX9_takeKind_0 rfl rfl ?_
  obtain ⟨o9, h⟩ := h
  refine JS_callVV (M' := MX9_nextToken) (d' := 2) (As := []) (rest := []) (P := (fun wm9 => (mX9_nextToken s ) = wm9)) dX9_takeKind_1 cvX9_70 okX9_nextToken rfl (Nat.le_of_ble_eq_true rfl) BS_3 (Nat.le_of_ble_eq_true rfl) (Nat.le_of_ble_eq_true rfl) hci_9 (Nat.le_of_ble_eq_true rfl) (Nat.le_of_ble_eq_true rfl) (pX9_nextToken   o9 rfl) (fun wm9 hq9 => ?_)
  subst hq9
  refine JT_aload_n (q := 0) dX9_takeKind_4 rfl rfl ?_
  obtain ⟨o8, h⟩ := h
  refine JS_callVI (M' := MX9_isName) (d' := 0) (As := []) (rest := []) (P := (fun zv9 wm9 => (vX9_isName (mX9_nextToken s ) ) = zv9 ∧ (mX9_nextToken s ) = wm9)) dX9_takeKind_5 cvX9_73 okX9_isName rfl (Nat.le_of_ble_eq_true rfl) BS_3 (Nat.le_of_ble_eq_true rfl) (Nat.le_of_ble_eq_true rfl) hci_9 (Nat.le_of_ble_eq_true rfl) (Nat.le_of_ble_eq_true rfl) (pX9_isName   o8 ⟨rfl, rfl⟩) (fun zv9 wm9 hq9 => ?_)
  obtain ⟨rfl, rfl⟩ := hq9
  refine JT_if_ne (tgt := 17) dX9_takeKind_8 (by decide) (fun hc7 => ?_) (fun hc7 => ?_)
  · have h := h.1 hc7
    refine JT_aload_n (q := 0) dX9_takeKind_17 rfl rfl ?_
    refine JT_aload_n (q := 1) dX9_takeKind_18 rfl rfl ?_
    refine JT_aload_n (q := 0) dX9_takeKind_19 rfl rfl ?_
    refine JS_getL dX9_takeKind_20 flX9_56 BS_3 (Nat.le_of_ble_eq_true rfl) (Nat.le_of_ble_eq_true rfl) ct_9_4 ?_
    obtain ⟨o5, h⟩ := h
    refine JS_callVI (M' := MX6_kindNamed) (d' := 0) (As := [.long (gL (mX9_nextToken s ) 3 4)]) (rest := [.ref 3]) (P := (fun zv9 wm9 => (vX6_kindNamed (mX9_nextToken s ) p1 (gL (mX9_nextToken s ) 3 4)) = zv9 ∧ (mX9_nextToken s ) = wm9)) dX9_takeKind_23 cvX9_83 okX6_kindNamed rfl (Nat.le_of_ble_eq_true rfl) (pxB hp1) (px2 hp1) (pxN hp1) hci_6 (Nat.le_of_ble_eq_true rfl) (Nat.le_of_ble_eq_true rfl) (pX6_kindNamed hp1 ((gL (mX9_nextToken s ) 3 4)) o5 ⟨rfl, rfl⟩) (fun zv9 wm9 hq9 => ?_)
    obtain ⟨rfl, rfl⟩ := hq9
    refine JS_putI dX9_takeKind_26 flX9_86 BS_3 (Nat.le_of_ble_eq_true rfl) (Nat.le_of_ble_eq_true rfl) ct_9_6 ?_
    refine JT_aload_n (q := 0) dX9_takeKind_29 rfl rfl ?_
    refine JS_getI dX9_takeKind_30 flX9_86 BS_3 (Nat.le_of_ble_eq_true rfl) (Nat.le_of_ble_eq_true rfl) (Or.inl ct_9_6) ?_
    refine JT_iconst (v := -1) dX9_takeKind_33 ic_m1 ?_
    refine JT_icmp_ne (tgt := 45) dX9_takeKind_34 (by decide) (fun hc4 => ?_) (fun hc4 => ?_)
    · have h := h.1 hc4
      refine JT_iconst (v := 1) dX9_takeKind_45 ic_1 ?_
      refine JT_goto (tgt := 50) dX9_takeKind_46 (by decide) ?_
      exact JS_iret dX9_takeKind_50 rfl (n01 (Or.inr rfl)) h
    · have h := h.2 hc4
      refine JT_aload_n (q := 0) dX9_takeKind_37 rfl rfl ?_
      refine JT_iconst (v := 3) dX9_takeKind_38 ic_3 ?_
      refine JS_callVI (M' := MX9_refuse) (d' := 0) (As := [.int (3 : Int32)]) (rest := []) (P := (fun zv9 wm9 => (vX9_refuse (pI (mX9_nextToken s ) 3 6 (vX6_kindNamed (mX9_nextToken s ) p1 (gL (mX9_nextToken s ) 3 4))) (3 : Int32)) = zv9 ∧ (mX9_refuse (pI (mX9_nextToken s ) 3 6 (vX6_kindNamed (mX9_nextToken s ) p1 (gL (mX9_nextToken s ) 3 4))) (3 : Int32)) = wm9)) dX9_takeKind_39 cvX9_63 okX9_refuse rfl (Nat.le_of_ble_eq_true rfl) BS_3 (Nat.le_of_ble_eq_true rfl) (Nat.le_of_ble_eq_true rfl) hci_9 (Nat.le_of_ble_eq_true rfl) (Nat.le_of_ble_eq_true rfl) (pX9_refuse  ((3 : Int32))  ⟨rfl, rfl⟩) (fun zv9 wm9 hq9 => ?_)
      obtain ⟨rfl, rfl⟩ := hq9
      have hj1 : ∀ v : Int32, v = (if (vX9_refuse (pI (mX9_nextToken s ) 3 6 (vX6_kindNamed (mX9_nextToken s ) p1 (gL (mX9_nextToken s ) 3 4))) (3 : Int32)) = 0 then (0 : Int32) else (1 : Int32)) → JT MX9_takeKind 3 0 0 50 [(0, .ref 3), (1, .ref p1)] [.int v] (std (mX9_refuse (pI (mX9_nextToken s ) 3 6 (vX6_kindNamed (mX9_nextToken s ) p1 (gL (mX9_nextToken s ) 3 4))) (3 : Int32))) (KQ Q) := by
        intro v hv
        subst hv
        exact JS_iret dX9_takeKind_50 rfl (n01 (i01 (Or.inl rfl) (Or.inr rfl))) h
      refine JT_if_eq (tgt := 49) dX9_takeKind_42 (by decide) (fun hc2 => ?_) (fun hc2 => ?_)
      · refine JT_iconst (v := 0) dX9_takeKind_49 ic_0 ?_
        exact hj1 _ (by rw [if_pos hc2])
      · refine JT_iconst (v := 1) dX9_takeKind_45 ic_1 ?_
        refine JT_goto (tgt := 50) dX9_takeKind_46 (by decide) ?_
        exact hj1 _ (by rw [if_neg hc2])
  · have h := h.2 hc7
    refine JT_aload_n (q := 0) dX9_takeKind_11 rfl rfl ?_
    refine JT_iconst (v := 1) dX9_takeKind_12 ic_1 ?_
    refine JS_callVI (M' := MX9_refuse) (d' := 0) (As := [.int (1 : Int32)]) (rest := []) (P := (fun zv9 wm9 => (vX9_refuse (mX9_nextToken s ) (1 : Int32)) = zv9 ∧ (mX9_refuse (mX9_nextToken s ) (1 : Int32)) = wm9)) dX9_takeKind_13 cvX9_63 okX9_refuse rfl (Nat.le_of_ble_eq_true rfl) BS_3 (Nat.le_of_ble_eq_true rfl) (Nat.le_of_ble_eq_true rfl) hci_9 (Nat.le_of_ble_eq_true rfl) (Nat.le_of_ble_eq_true rfl) (pX9_refuse  ((1 : Int32))  ⟨rfl, rfl⟩) (fun zv9 wm9 hq9 => ?_)
    obtain ⟨rfl, rfl⟩ := hq9
    exact JS_iret dX9_takeKind_16 rfl (n01 (zX9_refuse (mX9_nextToken s ) (1 : Int32))) h
set_option maxRecDepth 1000000 in
theorem zX9_takeKind (s : SM) (p1 : Nat) : vX9_takeKind s p1 = 0 ∨ vX9_takeKind s p1 = 1 := (i01 (zX9_refuse (mX9_nextToken s ) (1 : Int32)) (i01 (i01 (Or.inl rfl) (Or.inr rfl)) (Or.inr rfl)))
set_option maxRecDepth 1000000 in
theorem pX9_takeKind {p1 : Nat} (hp1 : p1 ∈ PX) {s : SM} {Q : Int32 → SM → Prop} (hr : rX9_takeKind s p1) (h : Q (vX9_takeKind s p1) (mX9_takeKind s p1)) : KI MX9_takeKind 3 [.ref 3, .ref p1] s Q := by
  refine bX9_takeKind hp1 ?_
  unfold rX9_takeKind at hr
  unfold vX9_takeKind mX9_takeKind at h
  refine ⟨hr.1, ?_⟩
  replace hr := hr.2
  refine ⟨hr.1, ?_⟩
  replace hr := hr.2
  refine ⟨fun c => ?_, fun c => ?_⟩
  · replace hr := hr c
    replace h := q2n c h
    refine ⟨hr, ?_⟩
    refine ⟨fun c => ?_, fun c => ?_⟩
    · replace h := q2n c h
      first | exact h | contradiction
    · replace h := q2p c h
      first | exact h | contradiction
  · replace h := q2p c h
    first | exact h | contradiction
set_option maxRecDepth 1000000 in
theorem bX9_takeNewName_45 {p1 : Nat} (hp1 : p1 ∈ PX) {s : SM} {Q : Int32 → SM → Prop} (h : ((¬ (0 : Int32) = 0 → Q (1 : Int32) s) ∧ ((0 : Int32) = 0 → Q (if (vX9_refuse s (3 : Int32)) = 0 then (0 : Int32) else (1 : Int32)) (mX9_refuse s (3 : Int32))))) : BI MX9_takeNewName 3 45 [(0, .ref 3), (1, .ref p1)] s Q := by
  refine JT_iconst (v := 0) dX9_takeNewName_45 ic_0 ?_
  refine JT_istore_n (lv' := [(2, .int (0 : Int32)), (0, .ref 3), (1, .ref p1)]) dX9_takeNewName_46 rfl (Nat.le_of_ble_eq_true rfl) rfl ?_
  refine JT_iload_n (q := 0) dX9_takeNewName_47 rfl rfl ?_
  refine JT_if_ne (tgt := 59) dX9_takeNewName_48 (by decide) (fun hc4 => ?_) (fun hc4 => ?_)
  · have h := h.1 hc4
    refine JT_iconst (v := 1) dX9_takeNewName_59 ic_1 ?_
    refine JT_goto (tgt := 64) dX9_takeNewName_60 (by decide) ?_
    exact JS_iret dX9_takeNewName_64 rfl (n01 (Or.inr rfl)) h
  · have h := h.2 hc4
    refine JT_aload_n (q := 1) dX9_takeNewName_51 rfl rfl ?_
    refine JT_iconst (v := 3) dX9_takeNewName_52 ic_3 ?_
    refine JS_callVI (M' := MX9_refuse) (d' := 0) (As := [.int (3 : Int32)]) (rest := []) (P := (fun zv9 wm9 => (vX9_refuse s (3 : Int32)) = zv9 ∧ (mX9_refuse s (3 : Int32)) = wm9)) dX9_takeNewName_53 cvX9_63 okX9_refuse rfl (Nat.le_of_ble_eq_true rfl) BS_3 (Nat.le_of_ble_eq_true rfl) (Nat.le_of_ble_eq_true rfl) hci_9 (Nat.le_of_ble_eq_true rfl) (Nat.le_of_ble_eq_true rfl) (pX9_refuse  ((3 : Int32))  ⟨rfl, rfl⟩) (fun zv9 wm9 hq9 => ?_)
    obtain ⟨rfl, rfl⟩ := hq9
    have hj1 : ∀ v : Int32, v = (if (vX9_refuse s (3 : Int32)) = 0 then (0 : Int32) else (1 : Int32)) → JT MX9_takeNewName 3 0 0 64 [(2, .int (0 : Int32)), (0, .ref 3), (1, .ref p1)] [.int v] (std (mX9_refuse s (3 : Int32))) (KQ Q) := by
      intro v hv
      subst hv
      exact JS_iret dX9_takeNewName_64 rfl (n01 (i01 (Or.inl rfl) (Or.inr rfl))) h
    refine JT_if_eq (tgt := 63) dX9_takeNewName_56 (by decide) (fun hc2 => ?_) (fun hc2 => ?_)
    · refine JT_iconst (v := 0) dX9_takeNewName_63 ic_0 ?_
      exact hj1 _ (by rw [if_pos hc2])
    · refine JT_iconst (v := 1) dX9_takeNewName_59 ic_1 ?_
      refine JT_goto (tgt := 64) dX9_takeNewName_60 (by decide) ?_
      exact hj1 _ (by rw [if_neg hc2])
set_option maxRecDepth 1000000 in
theorem bX9_takeNewName {p1 : Nat} (hp1 : p1 ∈ PX) {s : SM} {Q : Int32 → SM → Prop} (h : rX9_nextToken s  ∧ rX9_isName (mX9_nextToken s )  ∧ ((¬ (vX9_isName (mX9_nextToken s ) ) = 0 → rX6_bodyNamed (mX9_nextToken s ) p1 (gL (mX9_nextToken s ) 3 4) ∧ ((¬ (vX6_bodyNamed (mX9_nextToken s ) p1 (gL (mX9_nextToken s ) 3 4)) = (-1 : Int32) → BI MX9_takeNewName 3 45 [(0, .ref 3), (1, .ref p1)] (mX9_nextToken s ) Q) ∧ ((vX6_bodyNamed (mX9_nextToken s ) p1 (gL (mX9_nextToken s ) 3 4)) = (-1 : Int32) → rX6_kindNamed (mX9_nextToken s ) p1 (gL (mX9_nextToken s ) 3 4) ∧ ((¬ (vX6_kindNamed (mX9_nextToken s ) p1 (gL (mX9_nextToken s ) 3 4)) = (-1 : Int32) → BI MX9_takeNewName 3 45 [(0, .ref 3), (1, .ref p1)] (mX9_nextToken s ) Q) ∧ ((vX6_kindNamed (mX9_nextToken s ) p1 (gL (mX9_nextToken s ) 3 4)) = (-1 : Int32) → ((¬ (1 : Int32) = 0 → Q (1 : Int32) (mX9_nextToken s )) ∧ ((1 : Int32) = 0 → Q (if (vX9_refuse (mX9_nextToken s ) (3 : Int32)) = 0 then (0 : Int32) else (1 : Int32)) (mX9_refuse (mX9_nextToken s ) (3 : Int32))))))))) ∧ ((vX9_isName (mX9_nextToken s ) ) = 0 → Q (vX9_refuse (mX9_nextToken s ) (1 : Int32)) (mX9_refuse (mX9_nextToken s ) (1 : Int32))))) : KI MX9_takeNewName 3 [.ref 3, .ref p1] s Q := by
  show BI MX9_takeNewName 3 0 [(0, .ref 3), (1, .ref p1)] s Q
  refine JT_aload_n (q := 0) dX9_takeNewName_0 rfl rfl ?_
  obtain ⟨o12, h⟩ := h
  refine JS_callVV (M' := MX9_nextToken) (d' := 2) (As := []) (rest := []) (P := (fun wm9 => (mX9_nextToken s ) = wm9)) dX9_takeNewName_1 cvX9_70 okX9_nextToken rfl (Nat.le_of_ble_eq_true rfl) BS_3 (Nat.le_of_ble_eq_true rfl) (Nat.le_of_ble_eq_true rfl) hci_9 (Nat.le_of_ble_eq_true rfl) (Nat.le_of_ble_eq_true rfl) (pX9_nextToken   o12 rfl) (fun wm9 hq9 => ?_)
  subst hq9
  refine JT_aload_n (q := 0) dX9_takeNewName_4 rfl rfl ?_
  obtain ⟨o11, h⟩ := h
  refine JS_callVI (M' := MX9_isName) (d' := 0) (As := []) (rest := []) (P := (fun zv9 wm9 => (vX9_isName (mX9_nextToken s ) ) = zv9 ∧ (mX9_nextToken s ) = wm9)) dX9_takeNewName_5 cvX9_73 okX9_isName rfl (Nat.le_of_ble_eq_true rfl) BS_3 (Nat.le_of_ble_eq_true rfl) (Nat.le_of_ble_eq_true rfl) hci_9 (Nat.le_of_ble_eq_true rfl) (Nat.le_of_ble_eq_true rfl) (pX9_isName   o11 ⟨rfl, rfl⟩) (fun zv9 wm9 hq9 => ?_)
  obtain ⟨rfl, rfl⟩ := hq9
  refine JT_if_ne (tgt := 17) dX9_takeNewName_8 (by decide) (fun hc10 => ?_) (fun hc10 => ?_)
  · have h := h.1 hc10
    refine JT_aload_n (q := 1) dX9_takeNewName_17 rfl rfl ?_
    refine JT_aload_n (q := 0) dX9_takeNewName_18 rfl rfl ?_
    refine JS_getL dX9_takeNewName_19 flX9_56 BS_3 (Nat.le_of_ble_eq_true rfl) (Nat.le_of_ble_eq_true rfl) ct_9_4 ?_
    obtain ⟨o8, h⟩ := h
    refine JS_callVI (M' := MX6_bodyNamed) (d' := 0) (As := [.long (gL (mX9_nextToken s ) 3 4)]) (rest := []) (P := (fun zv9 wm9 => (vX6_bodyNamed (mX9_nextToken s ) p1 (gL (mX9_nextToken s ) 3 4)) = zv9 ∧ (mX9_nextToken s ) = wm9)) dX9_takeNewName_22 cvX9_77 okX6_bodyNamed rfl (Nat.le_of_ble_eq_true rfl) (pxB hp1) (px2 hp1) (pxN hp1) hci_6 (Nat.le_of_ble_eq_true rfl) (Nat.le_of_ble_eq_true rfl) (pX6_bodyNamed hp1 ((gL (mX9_nextToken s ) 3 4)) o8 ⟨rfl, rfl⟩) (fun zv9 wm9 hq9 => ?_)
    obtain ⟨rfl, rfl⟩ := hq9
    refine JT_iconst (v := -1) dX9_takeNewName_25 ic_m1 ?_
    refine JT_icmp_ne (tgt := 45) dX9_takeNewName_26 (by decide) (fun hc7 => ?_) (fun hc7 => ?_)
    · have h := h.1 hc7
      exact JT_sub [0, 1] rfl h
    · have h := h.2 hc7
      refine JT_aload_n (q := 1) dX9_takeNewName_29 rfl rfl ?_
      refine JT_aload_n (q := 0) dX9_takeNewName_30 rfl rfl ?_
      refine JS_getL dX9_takeNewName_31 flX9_56 BS_3 (Nat.le_of_ble_eq_true rfl) (Nat.le_of_ble_eq_true rfl) ct_9_4 ?_
      obtain ⟨o6, h⟩ := h
      refine JS_callVI (M' := MX6_kindNamed) (d' := 0) (As := [.long (gL (mX9_nextToken s ) 3 4)]) (rest := []) (P := (fun zv9 wm9 => (vX6_kindNamed (mX9_nextToken s ) p1 (gL (mX9_nextToken s ) 3 4)) = zv9 ∧ (mX9_nextToken s ) = wm9)) dX9_takeNewName_34 cvX9_83 okX6_kindNamed rfl (Nat.le_of_ble_eq_true rfl) (pxB hp1) (px2 hp1) (pxN hp1) hci_6 (Nat.le_of_ble_eq_true rfl) (Nat.le_of_ble_eq_true rfl) (pX6_kindNamed hp1 ((gL (mX9_nextToken s ) 3 4)) o6 ⟨rfl, rfl⟩) (fun zv9 wm9 hq9 => ?_)
      obtain ⟨rfl, rfl⟩ := hq9
      refine JT_iconst (v := -1) dX9_takeNewName_37 ic_m1 ?_
      refine JT_icmp_ne (tgt := 45) dX9_takeNewName_38 (by decide) (fun hc5 => ?_) (fun hc5 => ?_)
      · have h := h.1 hc5
        exact JT_sub [0, 1] rfl h
      · have h := h.2 hc5
        refine JT_iconst (v := 1) dX9_takeNewName_41 ic_1 ?_
        refine JT_goto (tgt := 46) dX9_takeNewName_42 (by decide) ?_
        refine JT_istore_n (lv' := [(2, .int (1 : Int32)), (0, .ref 3), (1, .ref p1)]) dX9_takeNewName_46 rfl (Nat.le_of_ble_eq_true rfl) rfl ?_
        refine JT_iload_n (q := 0) dX9_takeNewName_47 rfl rfl ?_
        refine JT_if_ne (tgt := 59) dX9_takeNewName_48 (by decide) (fun hc4 => ?_) (fun hc4 => ?_)
        · have h := h.1 hc4
          refine JT_iconst (v := 1) dX9_takeNewName_59 ic_1 ?_
          refine JT_goto (tgt := 64) dX9_takeNewName_60 (by decide) ?_
          exact JS_iret dX9_takeNewName_64 rfl (n01 (Or.inr rfl)) h
        · have h := h.2 hc4
          refine JT_aload_n (q := 1) dX9_takeNewName_51 rfl rfl ?_
          refine JT_iconst (v := 3) dX9_takeNewName_52 ic_3 ?_
          refine JS_callVI (M' := MX9_refuse) (d' := 0) (As := [.int (3 : Int32)]) (rest := []) (P := (fun zv9 wm9 => (vX9_refuse (mX9_nextToken s ) (3 : Int32)) = zv9 ∧ (mX9_refuse (mX9_nextToken s ) (3 : Int32)) = wm9)) dX9_takeNewName_53 cvX9_63 okX9_refuse rfl (Nat.le_of_ble_eq_true rfl) BS_3 (Nat.le_of_ble_eq_true rfl) (Nat.le_of_ble_eq_true rfl) hci_9 (Nat.le_of_ble_eq_true rfl) (Nat.le_of_ble_eq_true rfl) (pX9_refuse  ((3 : Int32))  ⟨rfl, rfl⟩) (fun zv9 wm9 hq9 => ?_)
          obtain ⟨rfl, rfl⟩ := hq9
          have hj1 : ∀ v : Int32, v = (if (vX9_refuse (mX9_nextToken s ) (3 : Int32)) = 0 then (0 : Int32) else (1 : Int32)) → JT MX9_takeNewName 3 0 0 64 [(2, .int (1 : Int32)), (0, .ref 3), (1, .ref p1)] [.int v] (std (mX9_refuse (mX9_nextToken s ) (3 : Int32))) (KQ Q) := by
            intro v hv
            subst hv
            exact JS_iret dX9_takeNewName_64 rfl (n01 (i01 (Or.inl rfl) (Or.inr rfl))) h
          refine JT_if_eq (tgt := 63) dX9_takeNewName_56 (by decide) (fun hc2 => ?_) (fun hc2 => ?_)
          · refine JT_iconst (v := 0) dX9_takeNewName_63 ic_0 ?_
            exact hj1 _ (by rw [if_pos hc2])
          · refine JT_iconst (v := 1) dX9_takeNewName_59 ic_1 ?_
            refine JT_goto (tgt := 64) dX9_takeNewName_60 (by decide) ?_
            exact hj1 _ (by rw [if_neg hc2])
  · have h := h.2 hc10
    refine JT_aload_n (q := 0) dX9_takeNewName_11 rfl rfl ?_
    refine JT_iconst (v := 1) dX9_takeNewName_12 ic_1 ?_
    refine JS_callVI (M' := MX9_refuse) (d' := 0) (As := [.int (1 : Int32)]) (rest := []) (P := (fun zv9 wm9 => (vX9_refuse (mX9_nextToken s ) (1 : Int32)) = zv9 ∧ (mX9_refuse (mX9_nextToken s ) (1 : Int32)) = wm9)) dX9_takeNewName_13 cvX9_63 okX9_refuse rfl (Nat.le_of_ble_eq_true rfl) BS_3 (Nat.le_of_ble_eq_true rfl) (Nat.le_of_ble_eq_true rfl) hci_9 (Nat.le_of_ble_eq_true rfl) (Nat.le_of_ble_eq_true rfl) (pX9_refuse  ((1 : Int32))  ⟨rfl, rfl⟩) (fun zv9 wm9 hq9 => ?_)
    obtain ⟨rfl, rfl⟩ := hq9
    exact JS_iret dX9_takeNewName_16 rfl (n01 (zX9_refuse (mX9_nextToken s ) (1 : Int32))) h
set_option maxRecDepth 1000000 in
theorem gX9_takeNewName {p1 : Nat} (hp1 : p1 ∈ PX) : ∀ n : Nat, (∀  (s : SM) (Q : Int32 → SM → Prop), ((qX9_takeNewName n) s p1) → Q ((lX9_takeNewName n) s p1).1 ((lX9_takeNewName n) s p1).2 → BI MX9_takeNewName 3 45 [(0, .ref 3), (1, .ref p1)] s Q) := by
  intro n
  induction n with
  | zero => exact fun _ _ hq _ => absurd hq id
  | succ n ih =>
    intro  s Q hr h
    replace hr : uX9_takeNewName_45 (qX9_takeNewName n) s p1 := hr
    replace h : Q (tX9_takeNewName_45 (lX9_takeNewName n) s p1).1 (tX9_takeNewName_45 (lX9_takeNewName n) s p1).2 := h
    unfold uX9_takeNewName_45 at hr
    unfold tX9_takeNewName_45 at h
    refine bX9_takeNewName_45 hp1 ?_
    refine ⟨fun c => ?_, fun c => ?_⟩
    · replace h := q3n c h
      first | exact h | contradiction
    · replace h := q3p c h
      first | exact h | contradiction
set_option maxRecDepth 1000000 in
theorem pX9_takeNewName {p1 : Nat} (hp1 : p1 ∈ PX) {s : SM} {Q : Int32 → SM → Prop} (hr : rX9_takeNewName s p1) (h : Q (vX9_takeNewName s p1) (mX9_takeNewName s p1)) : KI MX9_takeNewName 3 [.ref 3, .ref p1] s Q := by
  replace h : Q (fX9_takeNewName s p1).1 (fX9_takeNewName s p1).2 := h
  unfold rX9_takeNewName at hr
  unfold fX9_takeNewName at h
  refine bX9_takeNewName hp1 ?_
  refine ⟨hr.1, ?_⟩
  replace hr := hr.2
  refine ⟨hr.1, ?_⟩
  replace hr := hr.2
  refine ⟨fun c => ?_, fun c => ?_⟩
  · replace hr := hr c
    replace h := q3n c h
    refine ⟨hr.1, ?_⟩
    replace hr := hr.2
    refine ⟨fun c => ?_, fun c => ?_⟩
    · replace hr := hr.1 c
      replace h := q3n c h
      first | exact (gX9_takeNewName hp1 FU)  _ Q hr h | contradiction
    · replace hr := hr.2 c
      replace h := q3p c h
      refine ⟨hr.1, ?_⟩
      replace hr := hr.2
      refine ⟨fun c => ?_, fun c => ?_⟩
      · replace hr := hr c
        replace h := q3n c h
        first | exact (gX9_takeNewName hp1 FU)  _ Q hr h | contradiction
      · replace h := q3p c h
        refine ⟨fun c => ?_, fun c => ?_⟩
        · replace h := q3n c h
          first | exact h | contradiction
        · replace h := q3p c h
          first | exact h | contradiction
  · replace h := q3p c h
    first | exact h | contradiction
set_option maxRecDepth 1000000 in
theorem bX9_takeNumber_34 (a1 : Int32) (a2 : Int32) {s : SM} {Q : Int32 → SM → Prop} (h : Q (if (vX9_refuse s (2 : Int32)) = 0 then (0 : Int32) else (1 : Int32)) (mX9_refuse s (2 : Int32))) : BI MX9_takeNumber 3 34 [(0, .ref 3), (1, .int a1), (2, .int a2)] s Q := by
  refine JT_aload_n (q := 0) dX9_takeNumber_34 rfl rfl ?_
  refine JT_iconst (v := 2) dX9_takeNumber_35 ic_2 ?_
  refine JS_callVI (M' := MX9_refuse) (d' := 0) (As := [.int (2 : Int32)]) (rest := []) (P := (fun zv9 wm9 => (vX9_refuse s (2 : Int32)) = zv9 ∧ (mX9_refuse s (2 : Int32)) = wm9)) dX9_takeNumber_36 cvX9_63 okX9_refuse rfl (Nat.le_of_ble_eq_true rfl) BS_3 (Nat.le_of_ble_eq_true rfl) (Nat.le_of_ble_eq_true rfl) hci_9 (Nat.le_of_ble_eq_true rfl) (Nat.le_of_ble_eq_true rfl) (pX9_refuse  ((2 : Int32))  ⟨rfl, rfl⟩) (fun zv9 wm9 hq9 => ?_)
  obtain ⟨rfl, rfl⟩ := hq9
  have hj1 : ∀ v : Int32, v = (if (vX9_refuse s (2 : Int32)) = 0 then (0 : Int32) else (1 : Int32)) → JT MX9_takeNumber 3 0 0 47 [(0, .ref 3), (1, .int a1), (2, .int a2)] [.int v] (std (mX9_refuse s (2 : Int32))) (KQ Q) := by
    intro v hv
    subst hv
    exact JS_iret dX9_takeNumber_47 rfl (n01 (i01 (Or.inl rfl) (Or.inr rfl))) h
  refine JT_if_eq (tgt := 46) dX9_takeNumber_39 (by decide) (fun hc2 => ?_) (fun hc2 => ?_)
  · refine JT_iconst (v := 0) dX9_takeNumber_46 ic_0 ?_
    exact hj1 _ (by rw [if_pos hc2])
  · refine JT_iconst (v := 1) dX9_takeNumber_42 ic_1 ?_
    refine JT_goto (tgt := 47) dX9_takeNumber_43 (by decide) ?_
    exact hj1 _ (by rw [if_neg hc2])
set_option maxRecDepth 1000000 in
theorem bX9_takeNumber (a1 : Int32) (a2 : Int32) {s : SM} {Q : Int32 → SM → Prop} (h : rX9_nextToken s  ∧ (((gI (mX9_nextToken s ) 3 9) = (2 : Int32) → (((gI (mX9_nextToken s ) 3 5) < a1 → BI MX9_takeNumber 3 34 [(0, .ref 3), (1, .int a1), (2, .int a2)] (mX9_nextToken s ) Q) ∧ (¬ (gI (mX9_nextToken s ) 3 5) < a1 → (((gI (mX9_nextToken s ) 3 5) ≤ a2 → Q (1 : Int32) (mX9_nextToken s )) ∧ (¬ (gI (mX9_nextToken s ) 3 5) ≤ a2 → BI MX9_takeNumber 3 34 [(0, .ref 3), (1, .int a1), (2, .int a2)] (mX9_nextToken s ) Q))))) ∧ (¬ (gI (mX9_nextToken s ) 3 9) = (2 : Int32) → Q (vX9_refuse (mX9_nextToken s ) (1 : Int32)) (mX9_refuse (mX9_nextToken s ) (1 : Int32))))) : KI MX9_takeNumber 3 [.ref 3, .int a1, .int a2] s Q := by
  show BI MX9_takeNumber 3 0 [(0, .ref 3), (1, .int a1), (2, .int a2)] s Q
  refine JT_aload_n (q := 0) dX9_takeNumber_0 rfl rfl ?_
  obtain ⟨o5, h⟩ := h
  refine JS_callVV (M' := MX9_nextToken) (d' := 2) (As := []) (rest := []) (P := (fun wm9 => (mX9_nextToken s ) = wm9)) dX9_takeNumber_1 cvX9_70 okX9_nextToken rfl (Nat.le_of_ble_eq_true rfl) BS_3 (Nat.le_of_ble_eq_true rfl) (Nat.le_of_ble_eq_true rfl) hci_9 (Nat.le_of_ble_eq_true rfl) (Nat.le_of_ble_eq_true rfl) (pX9_nextToken   o5 rfl) (fun wm9 hq9 => ?_)
  subst hq9
  refine JT_aload_n (q := 0) dX9_takeNumber_4 rfl rfl ?_
  refine JS_getI dX9_takeNumber_5 flX9_44 BS_3 (Nat.le_of_ble_eq_true rfl) (Nat.le_of_ble_eq_true rfl) (Or.inl ct_9_9) ?_
  refine JT_iconst (v := 2) dX9_takeNumber_8 ic_2 ?_
  refine JT_icmp_eq (tgt := 18) dX9_takeNumber_9 (by decide) (fun hc4 => ?_) (fun hc4 => ?_)
  · have h := h.1 hc4
    refine JT_aload_n (q := 0) dX9_takeNumber_18 rfl rfl ?_
    refine JS_getI dX9_takeNumber_19 flX9_60 BS_3 (Nat.le_of_ble_eq_true rfl) (Nat.le_of_ble_eq_true rfl) (Or.inl ct_9_5) ?_
    refine JT_iload_n (q := 1) dX9_takeNumber_22 rfl rfl ?_
    refine JT_icmp_lt (tgt := 34) dX9_takeNumber_23 (by decide) (fun hc2 => ?_) (fun hc2 => ?_)
    · have h := h.1 hc2
      exact JT_sub [0, 1, 2] rfl h
    · have h := h.2 hc2
      refine JT_aload_n (q := 0) dX9_takeNumber_26 rfl rfl ?_
      refine JS_getI dX9_takeNumber_27 flX9_60 BS_3 (Nat.le_of_ble_eq_true rfl) (Nat.le_of_ble_eq_true rfl) (Or.inl ct_9_5) ?_
      refine JT_iload_n (q := 2) dX9_takeNumber_30 rfl rfl ?_
      refine JT_icmp_le (tgt := 42) dX9_takeNumber_31 (by decide) (fun hc1 => ?_) (fun hc1 => ?_)
      · have h := h.1 hc1
        refine JT_iconst (v := 1) dX9_takeNumber_42 ic_1 ?_
        refine JT_goto (tgt := 47) dX9_takeNumber_43 (by decide) ?_
        exact JS_iret dX9_takeNumber_47 rfl (n01 (Or.inr rfl)) h
      · have h := h.2 hc1
        exact JT_sub [0, 1, 2] rfl h
  · have h := h.2 hc4
    refine JT_aload_n (q := 0) dX9_takeNumber_12 rfl rfl ?_
    refine JT_iconst (v := 1) dX9_takeNumber_13 ic_1 ?_
    refine JS_callVI (M' := MX9_refuse) (d' := 0) (As := [.int (1 : Int32)]) (rest := []) (P := (fun zv9 wm9 => (vX9_refuse (mX9_nextToken s ) (1 : Int32)) = zv9 ∧ (mX9_refuse (mX9_nextToken s ) (1 : Int32)) = wm9)) dX9_takeNumber_14 cvX9_63 okX9_refuse rfl (Nat.le_of_ble_eq_true rfl) BS_3 (Nat.le_of_ble_eq_true rfl) (Nat.le_of_ble_eq_true rfl) hci_9 (Nat.le_of_ble_eq_true rfl) (Nat.le_of_ble_eq_true rfl) (pX9_refuse  ((1 : Int32))  ⟨rfl, rfl⟩) (fun zv9 wm9 hq9 => ?_)
    obtain ⟨rfl, rfl⟩ := hq9
    exact JS_iret dX9_takeNumber_17 rfl (n01 (zX9_refuse (mX9_nextToken s ) (1 : Int32))) h
set_option maxRecDepth 1000000 in
theorem gX9_takeNumber  : ∀ n : Nat, (∀ (a1 : Int32) (a2 : Int32) (s : SM) (Q : Int32 → SM → Prop), ((qX9_takeNumber n) s a1 a2) → Q ((lX9_takeNumber n) s a1 a2).1 ((lX9_takeNumber n) s a1 a2).2 → BI MX9_takeNumber 3 34 [(0, .ref 3), (1, .int a1), (2, .int a2)] s Q) := by
  intro n
  induction n with
  | zero => exact fun _ _ _ _ hq _ => absurd hq id
  | succ n ih =>
    intro a1 a2 s Q hr h
    replace hr : uX9_takeNumber_34 (qX9_takeNumber n) s a1 a2 := hr
    replace h : Q (tX9_takeNumber_34 (lX9_takeNumber n) s a1 a2).1 (tX9_takeNumber_34 (lX9_takeNumber n) s a1 a2).2 := h
    unfold uX9_takeNumber_34 at hr
    unfold tX9_takeNumber_34 at h
    refine bX9_takeNumber_34 a1 a2 ?_
    first | exact h | contradiction
set_option maxRecDepth 1000000 in
theorem pX9_takeNumber (a1 : Int32) (a2 : Int32) {s : SM} {Q : Int32 → SM → Prop} (hr : rX9_takeNumber s a1 a2) (h : Q (vX9_takeNumber s a1 a2) (mX9_takeNumber s a1 a2)) : KI MX9_takeNumber 3 [.ref 3, .int a1, .int a2] s Q := by
  replace h : Q (fX9_takeNumber s a1 a2).1 (fX9_takeNumber s a1 a2).2 := h
  unfold rX9_takeNumber at hr
  unfold fX9_takeNumber at h
  refine bX9_takeNumber a1 a2 ?_
  refine ⟨hr.1, ?_⟩
  replace hr := hr.2
  refine ⟨fun c => ?_, fun c => ?_⟩
  · replace hr := hr c
    replace h := q3p c h
    refine ⟨fun c => ?_, fun c => ?_⟩
    · replace hr := hr.1 c
      replace h := q3p c h
      first | exact (gX9_takeNumber  FU) a1 a2 _ Q hr h | contradiction
    · replace hr := hr.2 c
      replace h := q3n c h
      refine ⟨fun c => ?_, fun c => ?_⟩
      · replace h := q3p c h
        first | exact h | contradiction
      · replace hr := hr c
        replace h := q3n c h
        first | exact (gX9_takeNumber  FU) a1 a2 _ Q hr h | contradiction
  · replace h := q3n c h
    first | exact h | contradiction
set_option maxRecDepth 1000000 in
theorem bX9_takeStop  {s : SM} {Q : Int32 → SM → Prop} (h : rX9_nextToken s  ∧ Q (vX9_isStop (mX9_nextToken s ) ) (mX9_isStop (mX9_nextToken s ) )) : KI MX9_takeStop 3 [.ref 3] s Q := by
  show BI MX9_takeStop 3 0 [(0, .ref 3)] s Q
  refine JT_aload_n (q := 0) dX9_takeStop_0 rfl rfl ?_
  obtain ⟨o2, h⟩ := h
  refine JS_callVV (M' := MX9_nextToken) (d' := 2) (As := []) (rest := []) (P := (fun wm9 => (mX9_nextToken s ) = wm9)) dX9_takeStop_1 cvX9_70 okX9_nextToken rfl (Nat.le_of_ble_eq_true rfl) BS_3 (Nat.le_of_ble_eq_true rfl) (Nat.le_of_ble_eq_true rfl) hci_9 (Nat.le_of_ble_eq_true rfl) (Nat.le_of_ble_eq_true rfl) (pX9_nextToken   o2 rfl) (fun wm9 hq9 => ?_)
  subst hq9
  refine JT_aload_n (q := 0) dX9_takeStop_4 rfl rfl ?_
  refine JS_callVI (M' := MX9_isStop) (d' := 1) (As := []) (rest := []) (P := (fun zv9 wm9 => (vX9_isStop (mX9_nextToken s ) ) = zv9 ∧ (mX9_isStop (mX9_nextToken s ) ) = wm9)) dX9_takeStop_5 cvX9_89 okX9_isStop rfl (Nat.le_of_ble_eq_true rfl) BS_3 (Nat.le_of_ble_eq_true rfl) (Nat.le_of_ble_eq_true rfl) hci_9 (Nat.le_of_ble_eq_true rfl) (Nat.le_of_ble_eq_true rfl) (pX9_isStop    ⟨rfl, rfl⟩) (fun zv9 wm9 hq9 => ?_)
  obtain ⟨rfl, rfl⟩ := hq9
  exact JS_iret dX9_takeStop_8 rfl (n01 (zX9_isStop (mX9_nextToken s ) )) h
set_option maxRecDepth 1000000 in
theorem zX9_takeStop (s : SM)  : vX9_takeStop s  = 0 ∨ vX9_takeStop s  = 1 := (zX9_isStop (mX9_nextToken s ) )
set_option maxRecDepth 1000000 in
theorem pX9_takeStop  {s : SM} {Q : Int32 → SM → Prop} (hr : rX9_takeStop s ) (h : Q (vX9_takeStop s ) (mX9_takeStop s )) : KI MX9_takeStop 3 [.ref 3] s Q := by
  refine bX9_takeStop  ?_
  unfold rX9_takeStop at hr
  unfold vX9_takeStop mX9_takeStop at h
  refine ⟨hr, ?_⟩
  first | exact h | contradiction
set_option maxRecDepth 1000000 in
theorem bX0_readDeal {k0 : Nat} (hk0 : k0 ∈ BX) {s : SM} {Q : Int32 → SM → Prop} (h : rX9_takeNumber s (0 : Int32) (59 : Int32) ∧ ((¬ (vX9_takeNumber s (0 : Int32) (59 : Int32)) = 0 → vp_in (gI (mX9_takeNumber s (0 : Int32) (59 : Int32)) k0 0) 40 ∧ (∀ s2, s2 = (pI (mX9_takeNumber s (0 : Int32) (59 : Int32)) (k0 + 2) ((gI (mX9_takeNumber s (0 : Int32) (59 : Int32)) k0 0)).toNatClampNeg (gI (mX9_takeNumber s (0 : Int32) (59 : Int32)) 3 5)) → Q (1 : Int32) s2)) ∧ ((vX9_takeNumber s (0 : Int32) (59 : Int32)) = 0 → Q (0 : Int32) (mX9_takeNumber s (0 : Int32) (59 : Int32))))) : KI MX0_readDeal 4 [.ref k0, .ref 3] s Q := by
  show BI MX0_readDeal 4 0 [(0, .ref k0), (1, .ref 3)] s Q
  refine JT_aload_n (q := 1) dX0_readDeal_0 rfl rfl ?_
  refine JT_iconst (v := 0) dX0_readDeal_1 ic_0 ?_
  refine JT_bipush (v := 59) dX0_readDeal_2 bp_59 ?_
  obtain ⟨o4, h⟩ := h
  refine JS_callVI (M' := MX9_takeNumber) (d' := 3) (As := [.int (0 : Int32), .int (59 : Int32)]) (rest := []) (P := (fun zv9 wm9 => (vX9_takeNumber s (0 : Int32) (59 : Int32)) = zv9 ∧ (mX9_takeNumber s (0 : Int32) (59 : Int32)) = wm9)) dX0_readDeal_4 cvX0_104 okX9_takeNumber rfl (Nat.le_of_ble_eq_true rfl) BS_3 (Nat.le_of_ble_eq_true rfl) (Nat.le_of_ble_eq_true rfl) hci_9 (Nat.le_of_ble_eq_true rfl) (Nat.le_of_ble_eq_true rfl) (pX9_takeNumber  ((0 : Int32)) ((59 : Int32)) o4 ⟨rfl, rfl⟩) (fun zv9 wm9 hq9 => ?_)
  obtain ⟨rfl, rfl⟩ := hq9
  refine JT_if_ne (tgt := 12) dX0_readDeal_7 (by decide) (fun hc3 => ?_) (fun hc3 => ?_)
  · have h := h.1 hc3
    refine JT_aload_n (q := 0) dX0_readDeal_12 rfl rfl ?_
    refine JS_getR (x := (k0 + 2)) dX0_readDeal_13 flX0_15 (bxB hk0) (bx2 hk0) (bxN hk0) (Or.inr ⟨_, ct_0_2⟩) (bxR2 hk0) ?_
    refine JT_aload_n (q := 0) dX0_readDeal_16 rfl rfl ?_
    refine JS_getI dX0_readDeal_17 flX0_33 (bxB hk0) (bx2 hk0) (bxN hk0) (Or.inl ct_0_0) ?_
    refine JT_aload_n (q := 1) dX0_readDeal_20 rfl rfl ?_
    refine JS_getI dX0_readDeal_21 flX0_108 BS_3 (Nat.le_of_ble_eq_true rfl) (Nat.le_of_ble_eq_true rfl) (Or.inl ct_9_5) ?_
    obtain ⟨o1, h⟩ := h
    refine JS_iast dX0_readDeal_24 (bxB2 hk0) (bx2k hk0 _) (bxNk hk0 (Nat.le_of_ble_eq_true rfl)) o1 ?_
    obtain ⟨s2, hs2⟩ : ∃ z, z = (pI (mX9_takeNumber s (0 : Int32) (59 : Int32)) (k0 + 2) ((gI (mX9_takeNumber s (0 : Int32) (59 : Int32)) k0 0)).toNatClampNeg (gI (mX9_takeNumber s (0 : Int32) (59 : Int32)) 3 5)) := ⟨_, rfl⟩
    replace h := h s2 hs2
    rw [← hs2]
    refine JT_iconst (v := 1) dX0_readDeal_25 ic_1 ?_
    exact JS_iret dX0_readDeal_26 rfl (n01 (Or.inr rfl)) h
  · have h := h.2 hc3
    refine JT_iconst (v := 0) dX0_readDeal_10 ic_0 ?_
    exact JS_iret dX0_readDeal_11 rfl (n01 (Or.inl rfl)) h
set_option maxRecDepth 1000000 in
theorem zX0_readDeal (s : SM) (k0 : Nat) : vX0_readDeal s k0 = 0 ∨ vX0_readDeal s k0 = 1 := (i01 (Or.inl rfl) (Or.inr rfl))
set_option maxRecDepth 1000000 in
theorem pX0_readDeal {k0 : Nat} (hk0 : k0 ∈ BX) {s : SM} {Q : Int32 → SM → Prop} (hr : rX0_readDeal s k0) (h : Q (vX0_readDeal s k0) (mX0_readDeal s k0)) : KI MX0_readDeal 4 [.ref k0, .ref 3] s Q := by
  refine bX0_readDeal hk0 ?_
  unfold rX0_readDeal at hr
  unfold vX0_readDeal mX0_readDeal at h
  refine ⟨hr.1, ?_⟩
  replace hr := hr.2
  refine ⟨fun c => ?_, fun c => ?_⟩
  · replace hr := hr c
    replace h := q2n c h
    refine ⟨hr, ?_⟩
    intro s2 e9
    try rw [← e9] at h
    try dsimp only at h
    first | exact h | contradiction
  · replace h := q2p c h
    first | exact h | contradiction
set_option maxRecDepth 1000000 in
theorem bX0_readSumAndKind {k0 : Nat} (hk0 : k0 ∈ BX) {p2 : Nat} (hp2 : p2 ∈ PX) {s : SM} {Q : Int32 → SM → Prop} (h : rX9_takeNumber s (1 : Int32) (99 : Int32) ∧ ((¬ (vX9_takeNumber s (1 : Int32) (99 : Int32)) = 0 → vp_in (gI (mX9_takeNumber s (1 : Int32) (99 : Int32)) k0 0) 40 ∧ (∀ s2, s2 = (pI (mX9_takeNumber s (1 : Int32) (99 : Int32)) (k0 + 4) ((gI (mX9_takeNumber s (1 : Int32) (99 : Int32)) k0 0)).toNatClampNeg (gI (mX9_takeNumber s (1 : Int32) (99 : Int32)) 3 5)) → rX9_takeKind s2 p2 ∧ ((¬ (vX9_takeKind s2 p2) = 0 → vp_in (gI (mX9_takeKind s2 p2) k0 0) 40 ∧ Q (1 : Int32) (pI (mX9_takeKind s2 p2) (k0 + 5) ((gI (mX9_takeKind s2 p2) k0 0)).toNatClampNeg (gI (mX9_takeKind s2 p2) 3 6))) ∧ ((vX9_takeKind s2 p2) = 0 → Q (0 : Int32) (mX9_takeKind s2 p2))))) ∧ ((vX9_takeNumber s (1 : Int32) (99 : Int32)) = 0 → Q (0 : Int32) (mX9_takeNumber s (1 : Int32) (99 : Int32))))) : KI MX0_readSumAndKind 4 [.ref k0, .ref 3, .ref p2] s Q := by
  show BI MX0_readSumAndKind 4 0 [(0, .ref k0), (1, .ref 3), (2, .ref p2)] s Q
  refine JT_aload_n (q := 1) dX0_readSumAndKind_0 rfl rfl ?_
  refine JT_iconst (v := 1) dX0_readSumAndKind_1 ic_1 ?_
  refine JT_bipush (v := 99) dX0_readSumAndKind_2 bp_99 ?_
  obtain ⟨o7, h⟩ := h
  refine JS_callVI (M' := MX9_takeNumber) (d' := 3) (As := [.int (1 : Int32), .int (99 : Int32)]) (rest := []) (P := (fun zv9 wm9 => (vX9_takeNumber s (1 : Int32) (99 : Int32)) = zv9 ∧ (mX9_takeNumber s (1 : Int32) (99 : Int32)) = wm9)) dX0_readSumAndKind_4 cvX0_104 okX9_takeNumber rfl (Nat.le_of_ble_eq_true rfl) BS_3 (Nat.le_of_ble_eq_true rfl) (Nat.le_of_ble_eq_true rfl) hci_9 (Nat.le_of_ble_eq_true rfl) (Nat.le_of_ble_eq_true rfl) (pX9_takeNumber  ((1 : Int32)) ((99 : Int32)) o7 ⟨rfl, rfl⟩) (fun zv9 wm9 hq9 => ?_)
  obtain ⟨rfl, rfl⟩ := hq9
  refine JT_if_ne (tgt := 12) dX0_readSumAndKind_7 (by decide) (fun hc6 => ?_) (fun hc6 => ?_)
  · have h := h.1 hc6
    refine JT_aload_n (q := 0) dX0_readSumAndKind_12 rfl rfl ?_
    refine JS_getR (x := (k0 + 4)) dX0_readSumAndKind_13 flX0_21 (bxB hk0) (bx2 hk0) (bxN hk0) (Or.inr ⟨_, ct_0_4⟩) (bxR4 hk0) ?_
    refine JT_aload_n (q := 0) dX0_readSumAndKind_16 rfl rfl ?_
    refine JS_getI dX0_readSumAndKind_17 flX0_33 (bxB hk0) (bx2 hk0) (bxN hk0) (Or.inl ct_0_0) ?_
    refine JT_aload_n (q := 1) dX0_readSumAndKind_20 rfl rfl ?_
    refine JS_getI dX0_readSumAndKind_21 flX0_108 BS_3 (Nat.le_of_ble_eq_true rfl) (Nat.le_of_ble_eq_true rfl) (Or.inl ct_9_5) ?_
    obtain ⟨o1, h⟩ := h
    refine JS_iast dX0_readSumAndKind_24 (bxB4 hk0) (bx2k hk0 _) (bxNk hk0 (Nat.le_of_ble_eq_true rfl)) o1 ?_
    obtain ⟨s2, hs2⟩ : ∃ z, z = (pI (mX9_takeNumber s (1 : Int32) (99 : Int32)) (k0 + 4) ((gI (mX9_takeNumber s (1 : Int32) (99 : Int32)) k0 0)).toNatClampNeg (gI (mX9_takeNumber s (1 : Int32) (99 : Int32)) 3 5)) := ⟨_, rfl⟩
    replace h := h s2 hs2
    rw [← hs2]
    refine JT_aload_n (q := 1) dX0_readSumAndKind_25 rfl rfl ?_
    refine JT_aload_n (q := 2) dX0_readSumAndKind_26 rfl rfl ?_
    obtain ⟨o5, h⟩ := h
    refine JS_callVI (M' := MX9_takeKind) (d' := 3) (As := [.ref p2]) (rest := []) (P := (fun zv9 wm9 => (vX9_takeKind s2 p2) = zv9 ∧ (mX9_takeKind s2 p2) = wm9)) dX0_readSumAndKind_27 cvX0_111 okX9_takeKind rfl (Nat.le_of_ble_eq_true rfl) BS_3 (Nat.le_of_ble_eq_true rfl) (Nat.le_of_ble_eq_true rfl) hci_9 (Nat.le_of_ble_eq_true rfl) (Nat.le_of_ble_eq_true rfl) (pX9_takeKind hp2  o5 ⟨rfl, rfl⟩) (fun zv9 wm9 hq9 => ?_)
    obtain ⟨rfl, rfl⟩ := hq9
    refine JT_if_ne (tgt := 35) dX0_readSumAndKind_30 (by decide) (fun hc4 => ?_) (fun hc4 => ?_)
    · have h := h.1 hc4
      refine JT_aload_n (q := 0) dX0_readSumAndKind_35 rfl rfl ?_
      refine JS_getR (x := (k0 + 5)) dX0_readSumAndKind_36 flX0_24 (bxB hk0) (bx2 hk0) (bxN hk0) (Or.inr ⟨_, ct_0_5⟩) (bxR5 hk0) ?_
      refine JT_aload_n (q := 0) dX0_readSumAndKind_39 rfl rfl ?_
      refine JS_getI dX0_readSumAndKind_40 flX0_33 (bxB hk0) (bx2 hk0) (bxN hk0) (Or.inl ct_0_0) ?_
      refine JT_aload_n (q := 1) dX0_readSumAndKind_43 rfl rfl ?_
      refine JS_getI dX0_readSumAndKind_44 flX0_101 BS_3 (Nat.le_of_ble_eq_true rfl) (Nat.le_of_ble_eq_true rfl) (Or.inl ct_9_6) ?_
      obtain ⟨o3, h⟩ := h
      refine JS_iast dX0_readSumAndKind_47 (bxB5 hk0) (bx2k hk0 _) (bxNk hk0 (Nat.le_of_ble_eq_true rfl)) o3 ?_
      refine JT_iconst (v := 1) dX0_readSumAndKind_48 ic_1 ?_
      exact JS_iret dX0_readSumAndKind_49 rfl (n01 (Or.inr rfl)) h
    · have h := h.2 hc4
      refine JT_iconst (v := 0) dX0_readSumAndKind_33 ic_0 ?_
      exact JS_iret dX0_readSumAndKind_34 rfl (n01 (Or.inl rfl)) h
  · have h := h.2 hc6
    refine JT_iconst (v := 0) dX0_readSumAndKind_10 ic_0 ?_
    exact JS_iret dX0_readSumAndKind_11 rfl (n01 (Or.inl rfl)) h
set_option maxRecDepth 1000000 in
theorem zX0_readSumAndKind (s : SM) (k0 : Nat) (p2 : Nat) : vX0_readSumAndKind s k0 p2 = 0 ∨ vX0_readSumAndKind s k0 p2 = 1 := (i01 (Or.inl rfl) (i01 (Or.inl rfl) (Or.inr rfl)))
set_option maxRecDepth 1000000 in
theorem pX0_readSumAndKind {k0 : Nat} (hk0 : k0 ∈ BX) {p2 : Nat} (hp2 : p2 ∈ PX) {s : SM} {Q : Int32 → SM → Prop} (hr : rX0_readSumAndKind s k0 p2) (h : Q (vX0_readSumAndKind s k0 p2) (mX0_readSumAndKind s k0 p2)) : KI MX0_readSumAndKind 4 [.ref k0, .ref 3, .ref p2] s Q := by
  refine bX0_readSumAndKind hk0 hp2 ?_
  unfold rX0_readSumAndKind at hr
  unfold vX0_readSumAndKind mX0_readSumAndKind at h
  refine ⟨hr.1, ?_⟩
  replace hr := hr.2
  refine ⟨fun c => ?_, fun c => ?_⟩
  · replace hr := hr c
    replace h := q2n c h
    refine ⟨hr.1, ?_⟩
    replace hr := hr.2
    intro s2 e9
    replace hr := hr s2 e9
    try rw [← e9] at h
    try dsimp only at h
    refine ⟨hr.1, ?_⟩
    replace hr := hr.2
    refine ⟨fun c => ?_, fun c => ?_⟩
    · replace hr := hr c
      replace h := q2n c h
      refine ⟨hr, ?_⟩
      first | exact h | contradiction
    · replace h := q2p c h
      first | exact h | contradiction
  · replace h := q2p c h
    first | exact h | contradiction
set_option maxRecDepth 1000000 in
theorem bX0_readTwoBodies {k0 : Nat} (hk0 : k0 ∈ BX) {p2 : Nat} (hp2 : p2 ∈ PX) {s : SM} {Q : Int32 → SM → Prop} (h : rX9_takeBody s p2 ∧ ((¬ (vX9_takeBody s p2) = 0 → vp_in (gI (mX9_takeBody s p2) k0 0) 40 ∧ rX9_takeBody (pI (mX9_takeBody s p2) (k0 + 2) ((gI (mX9_takeBody s p2) k0 0)).toNatClampNeg (gI (mX9_takeBody s p2) 3 6)) p2 ∧ (∀ s2, s2 = (mX9_takeBody (pI (mX9_takeBody s p2) (k0 + 2) ((gI (mX9_takeBody s p2) k0 0)).toNatClampNeg (gI (mX9_takeBody s p2) 3 6)) p2) → ((¬ (vX9_takeBody (pI (mX9_takeBody s p2) (k0 + 2) ((gI (mX9_takeBody s p2) k0 0)).toNatClampNeg (gI (mX9_takeBody s p2) 3 6)) p2) = 0 → vp_in (gI s2 k0 0) 40 ∧ Q (1 : Int32) (pI s2 (k0 + 3) ((gI s2 k0 0)).toNatClampNeg (gI s2 3 6))) ∧ ((vX9_takeBody (pI (mX9_takeBody s p2) (k0 + 2) ((gI (mX9_takeBody s p2) k0 0)).toNatClampNeg (gI (mX9_takeBody s p2) 3 6)) p2) = 0 → Q (0 : Int32) s2)))) ∧ ((vX9_takeBody s p2) = 0 → Q (0 : Int32) (mX9_takeBody s p2)))) : KI MX0_readTwoBodies 4 [.ref k0, .ref 3, .ref p2] s Q := by
  show BI MX0_readTwoBodies 4 0 [(0, .ref k0), (1, .ref 3), (2, .ref p2)] s Q
  refine JT_aload_n (q := 1) dX0_readTwoBodies_0 rfl rfl ?_
  refine JT_aload_n (q := 2) dX0_readTwoBodies_1 rfl rfl ?_
  obtain ⟨o7, h⟩ := h
  refine JS_callVI (M' := MX9_takeBody) (d' := 3) (As := [.ref p2]) (rest := []) (P := (fun zv9 wm9 => (vX9_takeBody s p2) = zv9 ∧ (mX9_takeBody s p2) = wm9)) dX0_readTwoBodies_2 cvX0_97 okX9_takeBody rfl (Nat.le_of_ble_eq_true rfl) BS_3 (Nat.le_of_ble_eq_true rfl) (Nat.le_of_ble_eq_true rfl) hci_9 (Nat.le_of_ble_eq_true rfl) (Nat.le_of_ble_eq_true rfl) (pX9_takeBody hp2  o7 ⟨rfl, rfl⟩) (fun zv9 wm9 hq9 => ?_)
  obtain ⟨rfl, rfl⟩ := hq9
  refine JT_if_ne (tgt := 10) dX0_readTwoBodies_5 (by decide) (fun hc6 => ?_) (fun hc6 => ?_)
  · have h := h.1 hc6
    refine JT_aload_n (q := 0) dX0_readTwoBodies_10 rfl rfl ?_
    refine JS_getR (x := (k0 + 2)) dX0_readTwoBodies_11 flX0_15 (bxB hk0) (bx2 hk0) (bxN hk0) (Or.inr ⟨_, ct_0_2⟩) (bxR2 hk0) ?_
    refine JT_aload_n (q := 0) dX0_readTwoBodies_14 rfl rfl ?_
    refine JS_getI dX0_readTwoBodies_15 flX0_33 (bxB hk0) (bx2 hk0) (bxN hk0) (Or.inl ct_0_0) ?_
    refine JT_aload_n (q := 1) dX0_readTwoBodies_18 rfl rfl ?_
    refine JS_getI dX0_readTwoBodies_19 flX0_101 BS_3 (Nat.le_of_ble_eq_true rfl) (Nat.le_of_ble_eq_true rfl) (Or.inl ct_9_6) ?_
    obtain ⟨o1, h⟩ := h
    refine JS_iast dX0_readTwoBodies_22 (bxB2 hk0) (bx2k hk0 _) (bxNk hk0 (Nat.le_of_ble_eq_true rfl)) o1 ?_
    refine JT_aload_n (q := 1) dX0_readTwoBodies_23 rfl rfl ?_
    refine JT_aload_n (q := 2) dX0_readTwoBodies_24 rfl rfl ?_
    obtain ⟨o5, h⟩ := h
    refine JS_callVI (M' := MX9_takeBody) (d' := 3) (As := [.ref p2]) (rest := []) (P := (fun zv9 wm9 => (vX9_takeBody (pI (mX9_takeBody s p2) (k0 + 2) ((gI (mX9_takeBody s p2) k0 0)).toNatClampNeg (gI (mX9_takeBody s p2) 3 6)) p2) = zv9 ∧ (mX9_takeBody (pI (mX9_takeBody s p2) (k0 + 2) ((gI (mX9_takeBody s p2) k0 0)).toNatClampNeg (gI (mX9_takeBody s p2) 3 6)) p2) = wm9)) dX0_readTwoBodies_25 cvX0_97 okX9_takeBody rfl (Nat.le_of_ble_eq_true rfl) BS_3 (Nat.le_of_ble_eq_true rfl) (Nat.le_of_ble_eq_true rfl) hci_9 (Nat.le_of_ble_eq_true rfl) (Nat.le_of_ble_eq_true rfl) (pX9_takeBody hp2  o5 ⟨rfl, rfl⟩) (fun zv9 wm9 hq9 => ?_)
    obtain ⟨rfl, rfl⟩ := hq9
    obtain ⟨s2, hs2⟩ : ∃ z, z = (mX9_takeBody (pI (mX9_takeBody s p2) (k0 + 2) ((gI (mX9_takeBody s p2) k0 0)).toNatClampNeg (gI (mX9_takeBody s p2) 3 6)) p2) := ⟨_, rfl⟩
    replace h := h s2 hs2
    rw [← hs2]
    refine JT_if_ne (tgt := 33) dX0_readTwoBodies_28 (by decide) (fun hc4 => ?_) (fun hc4 => ?_)
    · have h := h.1 hc4
      refine JT_aload_n (q := 0) dX0_readTwoBodies_33 rfl rfl ?_
      refine JS_getR (x := (k0 + 3)) dX0_readTwoBodies_34 flX0_18 (bxB hk0) (bx2 hk0) (bxN hk0) (Or.inr ⟨_, ct_0_3⟩) (bxR3 hk0) ?_
      refine JT_aload_n (q := 0) dX0_readTwoBodies_37 rfl rfl ?_
      refine JS_getI dX0_readTwoBodies_38 flX0_33 (bxB hk0) (bx2 hk0) (bxN hk0) (Or.inl ct_0_0) ?_
      refine JT_aload_n (q := 1) dX0_readTwoBodies_41 rfl rfl ?_
      refine JS_getI dX0_readTwoBodies_42 flX0_101 BS_3 (Nat.le_of_ble_eq_true rfl) (Nat.le_of_ble_eq_true rfl) (Or.inl ct_9_6) ?_
      obtain ⟨o3, h⟩ := h
      refine JS_iast dX0_readTwoBodies_45 (bxB3 hk0) (bx2k hk0 _) (bxNk hk0 (Nat.le_of_ble_eq_true rfl)) o3 ?_
      refine JT_iconst (v := 1) dX0_readTwoBodies_46 ic_1 ?_
      exact JS_iret dX0_readTwoBodies_47 rfl (n01 (Or.inr rfl)) h
    · have h := h.2 hc4
      refine JT_iconst (v := 0) dX0_readTwoBodies_31 ic_0 ?_
      exact JS_iret dX0_readTwoBodies_32 rfl (n01 (Or.inl rfl)) h
  · have h := h.2 hc6
    refine JT_iconst (v := 0) dX0_readTwoBodies_8 ic_0 ?_
    exact JS_iret dX0_readTwoBodies_9 rfl (n01 (Or.inl rfl)) h
set_option maxRecDepth 1000000 in
theorem zX0_readTwoBodies (s : SM) (k0 : Nat) (p2 : Nat) : vX0_readTwoBodies s k0 p2 = 0 ∨ vX0_readTwoBodies s k0 p2 = 1 := (i01 (Or.inl rfl) (i01 (Or.inl rfl) (Or.inr rfl)))
set_option maxRecDepth 1000000 in
theorem pX0_readTwoBodies {k0 : Nat} (hk0 : k0 ∈ BX) {p2 : Nat} (hp2 : p2 ∈ PX) {s : SM} {Q : Int32 → SM → Prop} (hr : rX0_readTwoBodies s k0 p2) (h : Q (vX0_readTwoBodies s k0 p2) (mX0_readTwoBodies s k0 p2)) : KI MX0_readTwoBodies 4 [.ref k0, .ref 3, .ref p2] s Q := by
  refine bX0_readTwoBodies hk0 hp2 ?_
  unfold rX0_readTwoBodies at hr
  unfold vX0_readTwoBodies mX0_readTwoBodies at h
  refine ⟨hr.1, ?_⟩
  replace hr := hr.2
  refine ⟨fun c => ?_, fun c => ?_⟩
  · replace hr := hr c
    replace h := q2n c h
    refine ⟨hr.1, ?_⟩
    replace hr := hr.2
    refine ⟨hr.1, ?_⟩
    replace hr := hr.2
    intro s2 e9
    replace hr := hr s2 e9
    try rw [← e9] at h
    try dsimp only at h
    refine ⟨fun c => ?_, fun c => ?_⟩
    · replace hr := hr c
      replace h := q2n c h
      refine ⟨hr, ?_⟩
      first | exact h | contradiction
    · replace h := q2p c h
      first | exact h | contradiction
  · replace h := q2p c h
    first | exact h | contradiction
set_option maxRecDepth 1000000 in
theorem bX11_can_29 (a1 : Int32) (a2 : Int32) (a3 : Int32) (a4 : Int32) {s : SM} {Q : Int32 → SM → Prop} (h : (((gI s 5 6) ≤ a4 → Q a3 s) ∧ (¬ (gI s 5 6) ≤ a4 → rX4_wrongToWrite s 31 5 a1 a4 a2 ∧ ((¬ (vX4_wrongToWrite s 31 5 a1 a4 a2) = 0 → BI MX11_can 4 29 [(0, .ref 2), (1, .int a1), (2, .int a2), (3, .int a3), (4, .int (a4 + 1))] (mX4_wrongToWrite s 31 5 a1 a4 a2) Q) ∧ ((vX4_wrongToWrite s 31 5 a1 a4 a2) = 0 → BI MX11_can 4 29 [(0, .ref 2), (1, .int a1), (2, .int a2), (3, .int (a3 ||| ((1 : Int32) <<< (a4 &&& 31)))), (4, .int (a4 + 1))] (mX4_wrongToWrite s 31 5 a1 a4 a2) Q))))) : BI MX11_can 4 29 [(0, .ref 2), (1, .int a1), (2, .int a2), (3, .int a3), (4, .int a4)] s Q := by
  refine JT_iload (q := 4) dX11_can_29 rfl ?_
  refine JT_aload_n (q := 0) dX11_can_31 rfl rfl ?_
  refine JS_getR (x := 5) dX11_can_32 flX11_19 BS_2 (Nat.le_of_ble_eq_true rfl) (Nat.le_of_ble_eq_true rfl) (Or.inl ⟨_, ct_11_1⟩) RF_2_1 ?_
  refine JS_getI dX11_can_35 flX11_150 BS_5 (Nat.le_of_ble_eq_true rfl) (Nat.le_of_ble_eq_true rfl) (Or.inl ct_6_6) ?_
  refine JT_icmp_ge (tgt := 68) dX11_can_38 (by decide) (fun hc3 => ?_) (fun hc3 => ?_)
  · have h := h.1 hc3
    refine JT_iload_n (q := 3) dX11_can_68 rfl rfl ?_
    exact JS_iret dX11_can_69 rfl rfl h
  · have h := h.2 hc3
    refine JT_aload_n (q := 0) dX11_can_41 rfl rfl ?_
    refine JS_getR (x := 31) dX11_can_42 flX11_41 BS_2 (Nat.le_of_ble_eq_true rfl) (Nat.le_of_ble_eq_true rfl) (Or.inl ⟨_, ct_11_5⟩) RF_2_5 ?_
    refine JT_iload_n (q := 1) dX11_can_45 rfl rfl ?_
    refine JT_iload (q := 4) dX11_can_46 rfl ?_
    refine JT_iload_n (q := 2) dX11_can_48 rfl rfl ?_
    obtain ⟨o2, h⟩ := h
    refine JS_callVI (M' := MX4_wrongToWrite) (d' := 3) (As := [.int a1, .int a4, .int a2]) (rest := []) (P := (fun zv9 wm9 => (vX4_wrongToWrite s 31 5 a1 a4 a2) = zv9 ∧ (mX4_wrongToWrite s 31 5 a1 a4 a2) = wm9)) dX11_can_49 cvX11_354 okX4_wrongToWrite rfl (Nat.le_of_ble_eq_true rfl) BS_31 (Nat.le_of_ble_eq_true rfl) (Nat.le_of_ble_eq_true rfl) hci_4 (Nat.le_of_ble_eq_true rfl) (Nat.le_of_ble_eq_true rfl) (pX4_wrongToWrite hL_31 (a1) (a4) (a2) o2 ⟨rfl, rfl⟩) (fun zv9 wm9 hq9 => ?_)
    obtain ⟨rfl, rfl⟩ := hq9
    refine JT_if_ne (tgt := 62) dX11_can_52 (by decide) (fun hc1 => ?_) (fun hc1 => ?_)
    · have h := h.1 hc1
      refine JT_iinc (q := 4) (v := (a4 + 1)) (lv' := [(4, .int (a4 + 1)), (0, .ref 2), (1, .int a1), (2, .int a2), (3, .int a3)]) dX11_can_62 rfl (by rfl) (Nat.le_of_ble_eq_true rfl) rfl ?_
      refine JT_goto (tgt := 29) dX11_can_65 (by decide) ?_
      exact JT_sub [1, 2, 3, 4, 0] rfl h
    · have h := h.2 hc1
      refine JT_iload_n (q := 3) dX11_can_55 rfl rfl ?_
      refine JT_iconst (v := 1) dX11_can_56 ic_1 ?_
      refine JT_iload (q := 4) dX11_can_57 rfl ?_
      refine JT_ishl dX11_can_59 ?_
      refine JT_ior dX11_can_60 ?_
      refine JT_istore_n (lv' := [(3, .int (a3 ||| ((1 : Int32) <<< (a4 &&& 31)))), (0, .ref 2), (1, .int a1), (2, .int a2), (4, .int a4)]) dX11_can_61 rfl (Nat.le_of_ble_eq_true rfl) rfl ?_
      refine JT_iinc (q := 4) (v := (a4 + 1)) (lv' := [(4, .int (a4 + 1)), (3, .int (a3 ||| ((1 : Int32) <<< (a4 &&& 31)))), (0, .ref 2), (1, .int a1), (2, .int a2)]) dX11_can_62 rfl (by rfl) (Nat.le_of_ble_eq_true rfl) rfl ?_
      refine JT_goto (tgt := 29) dX11_can_65 (by decide) ?_
      exact JT_sub [2, 3, 4, 1, 0] rfl h
set_option maxRecDepth 1000000 in
theorem bX11_can (a1 : Int32) (a2 : Int32) {s : SM} {Q : Int32 → SM → Prop} (h : (((vX6_hasBody s 5 a1) = 0 → Q (-1 : Int32) s) ∧ (¬ (vX6_hasBody s 5 a1) = 0 → ((¬ (vX6_hasKind s 5 a2) = 0 → BI MX11_can 4 29 [(0, .ref 2), (1, .int a1), (2, .int a2), (3, .int (0 : Int32)), (4, .int (0 : Int32))] s Q) ∧ ((vX6_hasKind s 5 a2) = 0 → Q (-1 : Int32) s))))) : KI MX11_can 4 [.ref 2, .int a1, .int a2] s Q := by
  show BI MX11_can 4 0 [(0, .ref 2), (1, .int a1), (2, .int a2)] s Q
  refine JT_aload_n (q := 0) dX11_can_0 rfl rfl ?_
  refine JS_getR (x := 5) dX11_can_1 flX11_19 BS_2 (Nat.le_of_ble_eq_true rfl) (Nat.le_of_ble_eq_true rfl) (Or.inl ⟨_, ct_11_1⟩) RF_2_1 ?_
  refine JT_iload_n (q := 1) dX11_can_4 rfl rfl ?_
  refine JS_callVI (M' := MX6_hasBody) (d' := 0) (As := [.int a1]) (rest := []) (P := (fun zv9 wm9 => (vX6_hasBody s 5 a1) = zv9 ∧ s = wm9)) dX11_can_5 cvX11_172 okX6_hasBody rfl (Nat.le_of_ble_eq_true rfl) BS_5 (Nat.le_of_ble_eq_true rfl) (Nat.le_of_ble_eq_true rfl) hci_6 (Nat.le_of_ble_eq_true rfl) (Nat.le_of_ble_eq_true rfl) (pX6_hasBody hp_5 (a1)  ⟨rfl, rfl⟩) (fun zv9 wm9 hq9 => ?_)
  obtain ⟨rfl, rfl⟩ := hq9
  refine JT_if_eq (tgt := 22) dX11_can_8 (by decide) (fun hc3 => ?_) (fun hc3 => ?_)
  · have h := h.1 hc3
    refine JT_iconst (v := -1) dX11_can_22 ic_m1 ?_
    exact JS_iret dX11_can_23 rfl rfl h
  · have h := h.2 hc3
    refine JT_aload_n (q := 0) dX11_can_11 rfl rfl ?_
    refine JS_getR (x := 5) dX11_can_12 flX11_19 BS_2 (Nat.le_of_ble_eq_true rfl) (Nat.le_of_ble_eq_true rfl) (Or.inl ⟨_, ct_11_1⟩) RF_2_1 ?_
    refine JT_iload_n (q := 2) dX11_can_15 rfl rfl ?_
    refine JS_callVI (M' := MX6_hasKind) (d' := 0) (As := [.int a2]) (rest := []) (P := (fun zv9 wm9 => (vX6_hasKind s 5 a2) = zv9 ∧ s = wm9)) dX11_can_16 cvX11_202 okX6_hasKind rfl (Nat.le_of_ble_eq_true rfl) BS_5 (Nat.le_of_ble_eq_true rfl) (Nat.le_of_ble_eq_true rfl) hci_6 (Nat.le_of_ble_eq_true rfl) (Nat.le_of_ble_eq_true rfl) (pX6_hasKind hp_5 (a2)  ⟨rfl, rfl⟩) (fun zv9 wm9 hq9 => ?_)
    obtain ⟨rfl, rfl⟩ := hq9
    refine JT_if_ne (tgt := 24) dX11_can_19 (by decide) (fun hc1 => ?_) (fun hc1 => ?_)
    · have h := h.1 hc1
      refine JT_iconst (v := 0) dX11_can_24 ic_0 ?_
      refine JT_istore_n (lv' := [(3, .int (0 : Int32)), (0, .ref 2), (1, .int a1), (2, .int a2)]) dX11_can_25 rfl (Nat.le_of_ble_eq_true rfl) rfl ?_
      refine JT_iconst (v := 0) dX11_can_26 ic_0 ?_
      refine JT_istore (lv' := [(4, .int (0 : Int32)), (3, .int (0 : Int32)), (0, .ref 2), (1, .int a1), (2, .int a2)]) dX11_can_27 (Nat.le_of_ble_eq_true rfl) rfl ?_
      exact JT_sub [2, 3, 4, 1, 0] rfl h
    · have h := h.2 hc1
      refine JT_iconst (v := -1) dX11_can_22 ic_m1 ?_
      exact JS_iret dX11_can_23 rfl rfl h
set_option maxRecDepth 1000000 in
theorem gX11_can  : ∀ n : Nat, (∀ (a1 : Int32) (a2 : Int32) (a3 : Int32) (a4 : Int32) (s : SM) (Q : Int32 → SM → Prop), ((qX11_can n) s a1 a2 a3 a4) → Q ((lX11_can n) s a1 a2 a3 a4).1 ((lX11_can n) s a1 a2 a3 a4).2 → BI MX11_can 4 29 [(0, .ref 2), (1, .int a1), (2, .int a2), (3, .int a3), (4, .int a4)] s Q) := by
  intro n
  induction n with
  | zero => exact fun _ _ _ _ _ _ hq _ => absurd hq id
  | succ n ih =>
    intro a1 a2 a3 a4 s Q hr h
    replace hr : uX11_can_29 (qX11_can n) s a1 a2 a3 a4 := hr
    replace h : Q (tX11_can_29 (lX11_can n) s a1 a2 a3 a4).1 (tX11_can_29 (lX11_can n) s a1 a2 a3 a4).2 := h
    unfold uX11_can_29 at hr
    unfold tX11_can_29 at h
    refine bX11_can_29 a1 a2 a3 a4 ?_
    refine ⟨fun c => ?_, fun c => ?_⟩
    · replace h := q3p c h
      first | exact h | contradiction
    · replace hr := hr c
      replace h := q3n c h
      refine ⟨hr.1, ?_⟩
      replace hr := hr.2
      refine ⟨fun c => ?_, fun c => ?_⟩
      · replace hr := hr.1 c
        replace h := q3n c h
        first | exact ih a1 a2 a3 (a4 + 1) _ Q hr h | contradiction
      · replace hr := hr.2 c
        replace h := q3p c h
        first | exact ih a1 a2 (a3 ||| ((1 : Int32) <<< (a4 &&& 31))) (a4 + 1) _ Q hr h | contradiction
set_option maxRecDepth 1000000 in
theorem pX11_can (a1 : Int32) (a2 : Int32) {s : SM} {Q : Int32 → SM → Prop} (hr : rX11_can s a1 a2) (h : Q (vX11_can s a1 a2) (mX11_can s a1 a2)) : KI MX11_can 4 [.ref 2, .int a1, .int a2] s Q := by
  replace h : Q (fX11_can s a1 a2).1 (fX11_can s a1 a2).2 := h
  unfold rX11_can at hr
  unfold fX11_can at h
  refine bX11_can a1 a2 ?_
  refine ⟨fun c => ?_, fun c => ?_⟩
  · replace h := q3p c h
    first | exact h | contradiction
  · replace hr := hr c
    replace h := q3n c h
    refine ⟨fun c => ?_, fun c => ?_⟩
    · replace hr := hr c
      replace h := q3n c h
      first | exact (gX11_can  FU) a1 a2 (0 : Int32) (0 : Int32) _ Q hr h | contradiction
    · replace h := q3p c h
      first | exact h | contradiction
