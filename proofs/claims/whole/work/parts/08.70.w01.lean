set_option maxRecDepth 1000000 in
theorem bX0_actTold  {s : SM} {Q : Int32 → SM → Prop} (h : (((vX9_says s (1684365676 : Int64)) = 0 → (((vX9_says s (126943972911973 : Int64)) = 0 → (((vX9_says s (1935892850 : Int64)) = 0 → (((vX9_says s (1919512167 : Int64)) = 0 → (((vX9_says s (1684628851 : Int64)) = 0 → Q (if (vX9_says s (2036687218 : Int64)) = 0 then (-1 : Int32) else (5 : Int32)) s) ∧ (¬ (vX9_says s (1684628851 : Int64)) = 0 → Q (4 : Int32) s))) ∧ (¬ (vX9_says s (1919512167 : Int64)) = 0 → Q (3 : Int32) s))) ∧ (¬ (vX9_says s (1935892850 : Int64)) = 0 → Q (2 : Int32) s))) ∧ (¬ (vX9_says s (126943972911973 : Int64)) = 0 → Q (1 : Int32) s))) ∧ (¬ (vX9_says s (1684365676 : Int64)) = 0 → Q (0 : Int32) s))) : KI MX0_actTold 1 [.ref 3] s Q := by
  show BI MX0_actTold 1 0 [(0, .ref 3)] s Q
  refine JT_aload_n (q := 0) dX0_actTold_0 rfl rfl ?_
  refine JT_ldc2 dX0_actTold_1 kwX0_67 ?_
  refine JS_callVI (M' := MX9_says) (d' := 0) (As := [.long (1684365676 : Int64)]) (rest := []) (P := (fun zv9 wm9 => (vX9_says s (1684365676 : Int64)) = zv9 ∧ s = wm9)) dX0_actTold_4 cvX0_69 okX9_says rfl (Nat.le_of_ble_eq_true rfl) BS_3 (Nat.le_of_ble_eq_true rfl) (Nat.le_of_ble_eq_true rfl) hci_9 (Nat.le_of_ble_eq_true rfl) (Nat.le_of_ble_eq_true rfl) (pX9_says  ((1684365676 : Int64))  ⟨rfl, rfl⟩) (fun zv9 wm9 hq9 => ?_)
  obtain ⟨rfl, rfl⟩ := hq9
  refine JT_if_eq (tgt := 12) dX0_actTold_7 (by decide) (fun hc12 => ?_) (fun hc12 => ?_)
  · have h := h.1 hc12
    refine JT_aload_n (q := 0) dX0_actTold_12 rfl rfl ?_
    refine JT_ldc2 dX0_actTold_13 kwX0_73 ?_
    refine JS_callVI (M' := MX9_says) (d' := 0) (As := [.long (126943972911973 : Int64)]) (rest := []) (P := (fun zv9 wm9 => (vX9_says s (126943972911973 : Int64)) = zv9 ∧ s = wm9)) dX0_actTold_16 cvX0_69 okX9_says rfl (Nat.le_of_ble_eq_true rfl) BS_3 (Nat.le_of_ble_eq_true rfl) (Nat.le_of_ble_eq_true rfl) hci_9 (Nat.le_of_ble_eq_true rfl) (Nat.le_of_ble_eq_true rfl) (pX9_says  ((126943972911973 : Int64))  ⟨rfl, rfl⟩) (fun zv9 wm9 hq9 => ?_)
    obtain ⟨rfl, rfl⟩ := hq9
    refine JT_if_eq (tgt := 24) dX0_actTold_19 (by decide) (fun hc10 => ?_) (fun hc10 => ?_)
    · have h := h.1 hc10
      refine JT_aload_n (q := 0) dX0_actTold_24 rfl rfl ?_
      refine JT_ldc2 dX0_actTold_25 kwX0_75 ?_
      refine JS_callVI (M' := MX9_says) (d' := 0) (As := [.long (1935892850 : Int64)]) (rest := []) (P := (fun zv9 wm9 => (vX9_says s (1935892850 : Int64)) = zv9 ∧ s = wm9)) dX0_actTold_28 cvX0_69 okX9_says rfl (Nat.le_of_ble_eq_true rfl) BS_3 (Nat.le_of_ble_eq_true rfl) (Nat.le_of_ble_eq_true rfl) hci_9 (Nat.le_of_ble_eq_true rfl) (Nat.le_of_ble_eq_true rfl) (pX9_says  ((1935892850 : Int64))  ⟨rfl, rfl⟩) (fun zv9 wm9 hq9 => ?_)
      obtain ⟨rfl, rfl⟩ := hq9
      refine JT_if_eq (tgt := 36) dX0_actTold_31 (by decide) (fun hc8 => ?_) (fun hc8 => ?_)
      · have h := h.1 hc8
        refine JT_aload_n (q := 0) dX0_actTold_36 rfl rfl ?_
        refine JT_ldc2 dX0_actTold_37 kwX0_77 ?_
        refine JS_callVI (M' := MX9_says) (d' := 0) (As := [.long (1919512167 : Int64)]) (rest := []) (P := (fun zv9 wm9 => (vX9_says s (1919512167 : Int64)) = zv9 ∧ s = wm9)) dX0_actTold_40 cvX0_69 okX9_says rfl (Nat.le_of_ble_eq_true rfl) BS_3 (Nat.le_of_ble_eq_true rfl) (Nat.le_of_ble_eq_true rfl) hci_9 (Nat.le_of_ble_eq_true rfl) (Nat.le_of_ble_eq_true rfl) (pX9_says  ((1919512167 : Int64))  ⟨rfl, rfl⟩) (fun zv9 wm9 hq9 => ?_)
        obtain ⟨rfl, rfl⟩ := hq9
        refine JT_if_eq (tgt := 48) dX0_actTold_43 (by decide) (fun hc6 => ?_) (fun hc6 => ?_)
        · have h := h.1 hc6
          refine JT_aload_n (q := 0) dX0_actTold_48 rfl rfl ?_
          refine JT_ldc2 dX0_actTold_49 kwX0_79 ?_
          refine JS_callVI (M' := MX9_says) (d' := 0) (As := [.long (1684628851 : Int64)]) (rest := []) (P := (fun zv9 wm9 => (vX9_says s (1684628851 : Int64)) = zv9 ∧ s = wm9)) dX0_actTold_52 cvX0_69 okX9_says rfl (Nat.le_of_ble_eq_true rfl) BS_3 (Nat.le_of_ble_eq_true rfl) (Nat.le_of_ble_eq_true rfl) hci_9 (Nat.le_of_ble_eq_true rfl) (Nat.le_of_ble_eq_true rfl) (pX9_says  ((1684628851 : Int64))  ⟨rfl, rfl⟩) (fun zv9 wm9 hq9 => ?_)
          obtain ⟨rfl, rfl⟩ := hq9
          refine JT_if_eq (tgt := 60) dX0_actTold_55 (by decide) (fun hc4 => ?_) (fun hc4 => ?_)
          · have h := h.1 hc4
            refine JT_aload_n (q := 0) dX0_actTold_60 rfl rfl ?_
            refine JT_ldc2 dX0_actTold_61 kwX0_81 ?_
            refine JS_callVI (M' := MX9_says) (d' := 0) (As := [.long (2036687218 : Int64)]) (rest := []) (P := (fun zv9 wm9 => (vX9_says s (2036687218 : Int64)) = zv9 ∧ s = wm9)) dX0_actTold_64 cvX0_69 okX9_says rfl (Nat.le_of_ble_eq_true rfl) BS_3 (Nat.le_of_ble_eq_true rfl) (Nat.le_of_ble_eq_true rfl) hci_9 (Nat.le_of_ble_eq_true rfl) (Nat.le_of_ble_eq_true rfl) (pX9_says  ((2036687218 : Int64))  ⟨rfl, rfl⟩) (fun zv9 wm9 hq9 => ?_)
            obtain ⟨rfl, rfl⟩ := hq9
            have hj1 : ∀ v : Int32, v = (if (vX9_says s (2036687218 : Int64)) = 0 then (-1 : Int32) else (5 : Int32)) → JT MX0_actTold 1 0 0 75 [(0, .ref 3)] [.int v] (std s) (KQ Q) := by
              intro v hv
              subst hv
              exact JS_iret dX0_actTold_75 rfl rfl h
            refine JT_if_eq (tgt := 74) dX0_actTold_67 (by decide) (fun hc2 => ?_) (fun hc2 => ?_)
            · refine JT_iconst (v := -1) dX0_actTold_74 ic_m1 ?_
              exact hj1 _ (by rw [if_pos hc2])
            · refine JT_iconst (v := 5) dX0_actTold_70 ic_5 ?_
              refine JT_goto (tgt := 75) dX0_actTold_71 (by decide) ?_
              exact hj1 _ (by rw [if_neg hc2])
          · have h := h.2 hc4
            refine JT_iconst (v := 4) dX0_actTold_58 ic_4 ?_
            exact JS_iret dX0_actTold_59 rfl rfl h
        · have h := h.2 hc6
          refine JT_iconst (v := 3) dX0_actTold_46 ic_3 ?_
          exact JS_iret dX0_actTold_47 rfl rfl h
      · have h := h.2 hc8
        refine JT_iconst (v := 2) dX0_actTold_34 ic_2 ?_
        exact JS_iret dX0_actTold_35 rfl rfl h
    · have h := h.2 hc10
      refine JT_iconst (v := 1) dX0_actTold_22 ic_1 ?_
      exact JS_iret dX0_actTold_23 rfl rfl h
  · have h := h.2 hc12
    refine JT_iconst (v := 0) dX0_actTold_10 ic_0 ?_
    exact JS_iret dX0_actTold_11 rfl rfl h
set_option maxRecDepth 1000000 in
theorem pX0_actTold  {s : SM} {Q : Int32 → SM → Prop} (h : Q (vX0_actTold s ) s) : KI MX0_actTold 1 [.ref 3] s Q := by
  refine bX0_actTold  ?_
  unfold vX0_actTold at h
  refine ⟨fun c => ?_, fun c => ?_⟩
  · replace h := qlp c h
    refine ⟨fun c => ?_, fun c => ?_⟩
    · replace h := qlp c h
      refine ⟨fun c => ?_, fun c => ?_⟩
      · replace h := qlp c h
        refine ⟨fun c => ?_, fun c => ?_⟩
        · replace h := qlp c h
          refine ⟨fun c => ?_, fun c => ?_⟩
          · replace h := qlp c h
            first | exact h | contradiction
          · replace h := qln c h
            first | exact h | contradiction
        · replace h := qln c h
          first | exact h | contradiction
      · replace h := qln c h
        first | exact h | contradiction
    · replace h := qln c h
      first | exact h | contradiction
  · replace h := qln c h
    first | exact h | contradiction
set_option maxRecDepth 1000000 in
theorem bX0_copyFrom {k0 : Nat} (hk0 : k0 ∈ BX) {k1 : Nat} (hk1 : k1 ∈ BX) {s : SM} {Q : SM → Prop} (h : (∀ s1, s1 = (cI s (k0 + 1) (va_cpy (gI s (k1 + 1)) (gI s (k0 + 1)) ((0 : Int32)).toNatClampNeg ((0 : Int32)).toNatClampNeg ((40 : Int32)).toNatClampNeg)) → (∀ s2, s2 = (cI s1 (k0 + 2) (va_cpy (gI s1 (k1 + 2)) (gI s1 (k0 + 2)) ((0 : Int32)).toNatClampNeg ((0 : Int32)).toNatClampNeg ((40 : Int32)).toNatClampNeg)) → (∀ s3, s3 = (cI s2 (k0 + 3) (va_cpy (gI s2 (k1 + 3)) (gI s2 (k0 + 3)) ((0 : Int32)).toNatClampNeg ((0 : Int32)).toNatClampNeg ((40 : Int32)).toNatClampNeg)) → (∀ s4, s4 = (cI s3 (k0 + 4) (va_cpy (gI s3 (k1 + 4)) (gI s3 (k0 + 4)) ((0 : Int32)).toNatClampNeg ((0 : Int32)).toNatClampNeg ((40 : Int32)).toNatClampNeg)) → (∀ s5, s5 = (cI s4 (k0 + 5) (va_cpy (gI s4 (k1 + 5)) (gI s4 (k0 + 5)) ((0 : Int32)).toNatClampNeg ((0 : Int32)).toNatClampNeg ((40 : Int32)).toNatClampNeg)) → Q (pI s5 k0 0 (gI s5 k1 0)))))))) : KV MX0_copyFrom 1 [.ref k0, .ref k1] s Q := by
  show BV MX0_copyFrom 1 0 [(0, .ref k0), (1, .ref k1)] s Q
  refine JT_aload_n (q := 1) dX0_copyFrom_0 rfl rfl ?_
  refine JS_getR (x := (k1 + 1)) dX0_copyFrom_1 flX0_9 (bxB hk1) (bx2 hk1) (bxN hk1) (Or.inr ⟨_, ct_0_1⟩) (bxR1 hk1) ?_
  refine JT_iconst (v := 0) dX0_copyFrom_4 ic_0 ?_
  refine JT_aload_n (q := 0) dX0_copyFrom_5 rfl rfl ?_
  refine JS_getR (x := (k0 + 1)) dX0_copyFrom_6 flX0_9 (bxB hk0) (bx2 hk0) (bxN hk0) (Or.inr ⟨_, ct_0_1⟩) (bxR1 hk0) ?_
  refine JT_iconst (v := 0) dX0_copyFrom_9 ic_0 ?_
  refine JT_bipush (v := 40) dX0_copyFrom_10 bp_40 ?_
  refine JS_copyI (d2 := 0) (na := 40) (nb := 40) dX0_copyFrom_12 mlX0_27 (bxB1 hk0) (bx2k hk0 _) (bxNk hk0 (Nat.le_of_ble_eq_true rfl)) (bxB1 hk1) (bx2k hk1 _) (bxNk hk1 (Nat.le_of_ble_eq_true rfl)) (by decide) (by decide) (by decide) (by decide) (by decide) (Nat.le_of_ble_eq_true rfl) rfl ?_
  obtain ⟨s1, hs1⟩ : ∃ z, z = (cI s (k0 + 1) (va_cpy (gI s (k1 + 1)) (gI s (k0 + 1)) ((0 : Int32)).toNatClampNeg ((0 : Int32)).toNatClampNeg ((40 : Int32)).toNatClampNeg)) := ⟨_, rfl⟩
  replace h := h s1 hs1
  rw [← hs1]
  refine JT_aload_n (q := 1) dX0_copyFrom_15 rfl rfl ?_
  refine JS_getR (x := (k1 + 2)) dX0_copyFrom_16 flX0_15 (bxB hk1) (bx2 hk1) (bxN hk1) (Or.inr ⟨_, ct_0_2⟩) (bxR2 hk1) ?_
  refine JT_iconst (v := 0) dX0_copyFrom_19 ic_0 ?_
  refine JT_aload_n (q := 0) dX0_copyFrom_20 rfl rfl ?_
  refine JS_getR (x := (k0 + 2)) dX0_copyFrom_21 flX0_15 (bxB hk0) (bx2 hk0) (bxN hk0) (Or.inr ⟨_, ct_0_2⟩) (bxR2 hk0) ?_
  refine JT_iconst (v := 0) dX0_copyFrom_24 ic_0 ?_
  refine JT_bipush (v := 40) dX0_copyFrom_25 bp_40 ?_
  refine JS_copyI (d2 := 0) (na := 40) (nb := 40) dX0_copyFrom_27 mlX0_27 (bxB2 hk0) (bx2k hk0 _) (bxNk hk0 (Nat.le_of_ble_eq_true rfl)) (bxB2 hk1) (bx2k hk1 _) (bxNk hk1 (Nat.le_of_ble_eq_true rfl)) (by decide) (by decide) (by decide) (by decide) (by decide) (Nat.le_of_ble_eq_true rfl) rfl ?_
  obtain ⟨s2, hs2⟩ : ∃ z, z = (cI s1 (k0 + 2) (va_cpy (gI s1 (k1 + 2)) (gI s1 (k0 + 2)) ((0 : Int32)).toNatClampNeg ((0 : Int32)).toNatClampNeg ((40 : Int32)).toNatClampNeg)) := ⟨_, rfl⟩
  replace h := h s2 hs2
  rw [← hs2]
  refine JT_aload_n (q := 1) dX0_copyFrom_30 rfl rfl ?_
  refine JS_getR (x := (k1 + 3)) dX0_copyFrom_31 flX0_18 (bxB hk1) (bx2 hk1) (bxN hk1) (Or.inr ⟨_, ct_0_3⟩) (bxR3 hk1) ?_
  refine JT_iconst (v := 0) dX0_copyFrom_34 ic_0 ?_
  refine JT_aload_n (q := 0) dX0_copyFrom_35 rfl rfl ?_
  refine JS_getR (x := (k0 + 3)) dX0_copyFrom_36 flX0_18 (bxB hk0) (bx2 hk0) (bxN hk0) (Or.inr ⟨_, ct_0_3⟩) (bxR3 hk0) ?_
  refine JT_iconst (v := 0) dX0_copyFrom_39 ic_0 ?_
  refine JT_bipush (v := 40) dX0_copyFrom_40 bp_40 ?_
  refine JS_copyI (d2 := 0) (na := 40) (nb := 40) dX0_copyFrom_42 mlX0_27 (bxB3 hk0) (bx2k hk0 _) (bxNk hk0 (Nat.le_of_ble_eq_true rfl)) (bxB3 hk1) (bx2k hk1 _) (bxNk hk1 (Nat.le_of_ble_eq_true rfl)) (by decide) (by decide) (by decide) (by decide) (by decide) (Nat.le_of_ble_eq_true rfl) rfl ?_
  obtain ⟨s3, hs3⟩ : ∃ z, z = (cI s2 (k0 + 3) (va_cpy (gI s2 (k1 + 3)) (gI s2 (k0 + 3)) ((0 : Int32)).toNatClampNeg ((0 : Int32)).toNatClampNeg ((40 : Int32)).toNatClampNeg)) := ⟨_, rfl⟩
  replace h := h s3 hs3
  rw [← hs3]
  refine JT_aload_n (q := 1) dX0_copyFrom_45 rfl rfl ?_
  refine JS_getR (x := (k1 + 4)) dX0_copyFrom_46 flX0_21 (bxB hk1) (bx2 hk1) (bxN hk1) (Or.inr ⟨_, ct_0_4⟩) (bxR4 hk1) ?_
  refine JT_iconst (v := 0) dX0_copyFrom_49 ic_0 ?_
  refine JT_aload_n (q := 0) dX0_copyFrom_50 rfl rfl ?_
  refine JS_getR (x := (k0 + 4)) dX0_copyFrom_51 flX0_21 (bxB hk0) (bx2 hk0) (bxN hk0) (Or.inr ⟨_, ct_0_4⟩) (bxR4 hk0) ?_
  refine JT_iconst (v := 0) dX0_copyFrom_54 ic_0 ?_
  refine JT_bipush (v := 40) dX0_copyFrom_55 bp_40 ?_
  refine JS_copyI (d2 := 0) (na := 40) (nb := 40) dX0_copyFrom_57 mlX0_27 (bxB4 hk0) (bx2k hk0 _) (bxNk hk0 (Nat.le_of_ble_eq_true rfl)) (bxB4 hk1) (bx2k hk1 _) (bxNk hk1 (Nat.le_of_ble_eq_true rfl)) (by decide) (by decide) (by decide) (by decide) (by decide) (Nat.le_of_ble_eq_true rfl) rfl ?_
  obtain ⟨s4, hs4⟩ : ∃ z, z = (cI s3 (k0 + 4) (va_cpy (gI s3 (k1 + 4)) (gI s3 (k0 + 4)) ((0 : Int32)).toNatClampNeg ((0 : Int32)).toNatClampNeg ((40 : Int32)).toNatClampNeg)) := ⟨_, rfl⟩
  replace h := h s4 hs4
  rw [← hs4]
  refine JT_aload_n (q := 1) dX0_copyFrom_60 rfl rfl ?_
  refine JS_getR (x := (k1 + 5)) dX0_copyFrom_61 flX0_24 (bxB hk1) (bx2 hk1) (bxN hk1) (Or.inr ⟨_, ct_0_5⟩) (bxR5 hk1) ?_
  refine JT_iconst (v := 0) dX0_copyFrom_64 ic_0 ?_
  refine JT_aload_n (q := 0) dX0_copyFrom_65 rfl rfl ?_
  refine JS_getR (x := (k0 + 5)) dX0_copyFrom_66 flX0_24 (bxB hk0) (bx2 hk0) (bxN hk0) (Or.inr ⟨_, ct_0_5⟩) (bxR5 hk0) ?_
  refine JT_iconst (v := 0) dX0_copyFrom_69 ic_0 ?_
  refine JT_bipush (v := 40) dX0_copyFrom_70 bp_40 ?_
  refine JS_copyI (d2 := 0) (na := 40) (nb := 40) dX0_copyFrom_72 mlX0_27 (bxB5 hk0) (bx2k hk0 _) (bxNk hk0 (Nat.le_of_ble_eq_true rfl)) (bxB5 hk1) (bx2k hk1 _) (bxNk hk1 (Nat.le_of_ble_eq_true rfl)) (by decide) (by decide) (by decide) (by decide) (by decide) (Nat.le_of_ble_eq_true rfl) rfl ?_
  obtain ⟨s5, hs5⟩ : ∃ z, z = (cI s4 (k0 + 5) (va_cpy (gI s4 (k1 + 5)) (gI s4 (k0 + 5)) ((0 : Int32)).toNatClampNeg ((0 : Int32)).toNatClampNeg ((40 : Int32)).toNatClampNeg)) := ⟨_, rfl⟩
  replace h := h s5 hs5
  rw [← hs5]
  refine JT_aload_n (q := 0) dX0_copyFrom_75 rfl rfl ?_
  refine JT_aload_n (q := 1) dX0_copyFrom_76 rfl rfl ?_
  refine JS_getI dX0_copyFrom_77 flX0_33 (bxB hk1) (bx2 hk1) (bxN hk1) (Or.inl ct_0_0) ?_
  refine JS_putI dX0_copyFrom_80 flX0_33 (bxB hk0) (bx2 hk0) (bxN hk0) ct_0_0 ?_
  exact JS_vret dX0_copyFrom_83 rfl h
set_option maxRecDepth 1000000 in
theorem pX0_copyFrom {k0 : Nat} (hk0 : k0 ∈ BX) {k1 : Nat} (hk1 : k1 ∈ BX) {s : SM} {Q : SM → Prop} (h : Q (mX0_copyFrom s k0 k1)) : KV MX0_copyFrom 1 [.ref k0, .ref k1] s Q := by
  refine bX0_copyFrom hk0 hk1 ?_
  unfold mX0_copyFrom at h
  intro s1 e9
  try rw [← e9] at h
  try dsimp only at h
  intro s2 e9
  try rw [← e9] at h
  try dsimp only at h
  intro s3 e9
  try rw [← e9] at h
  try dsimp only at h
  intro s4 e9
  try rw [← e9] at h
  try dsimp only at h
  intro s5 e9
  try rw [← e9] at h
  try dsimp only at h
  first | exact h | contradiction
set_option maxRecDepth 1000000 in
theorem bX10_addName_3 (b1 : Int64) (a3 : Int32) {s : SM} {Q : SM → Prop} (h : ((a3 < 0 → Q s) ∧ (¬ a3 < 0 → (((((b1 >>> ((a3).toInt64 &&& 63)) &&& (255 : Int64))).toInt32 = 0 → BV MX10_addName 1 3 [(0, .ref 244), (1, .long b1), (3, .int (a3 + (-8)))] s Q) ∧ (¬ (((b1 >>> ((a3).toInt64 &&& 63)) &&& (255 : Int64))).toInt32 = 0 → rX10_add s (((b1 >>> ((a3).toInt64 &&& 63)) &&& (255 : Int64))).toInt32 ∧ BV MX10_addName 1 3 [(0, .ref 244), (1, .long b1), (3, .int (a3 + (-8)))] (mX10_add s (((b1 >>> ((a3).toInt64 &&& 63)) &&& (255 : Int64))).toInt32) Q))))) : BV MX10_addName 1 3 [(0, .ref 244), (1, .long b1), (3, .int a3)] s Q := by
  refine JT_iload_n (q := 2) dX10_addName_3 rfl rfl ?_
  refine JT_if_lt (tgt := 34) dX10_addName_4 (by decide) (fun hc3 => ?_) (fun hc3 => ?_)
  · have h := h.1 hc3
    exact JS_vret dX10_addName_34 rfl h
  · have h := h.2 hc3
    refine JT_lload_n (q := 1) dX10_addName_7 rfl rfl ?_
    refine JT_iload_n (q := 2) dX10_addName_8 rfl rfl ?_
    refine JT_lshr dX10_addName_9 ?_
    refine JT_ldc2 dX10_addName_10 kwX10_19 ?_
    refine JT_land dX10_addName_13 ?_
    refine JT_l2i dX10_addName_14 ?_
    refine JT_istore (lv' := [(4, .int (((b1 >>> ((a3).toInt64 &&& 63)) &&& (255 : Int64))).toInt32), (0, .ref 244), (1, .long b1), (3, .int a3)]) dX10_addName_15 (Nat.le_of_ble_eq_true rfl) rfl ?_
    refine JT_iload (q := 0) dX10_addName_17 rfl ?_
    refine JT_if_eq (tgt := 28) dX10_addName_19 (by decide) (fun hc2 => ?_) (fun hc2 => ?_)
    · have h := h.1 hc2
      refine JT_iinc (q := 3) (v := (a3 + (-8))) (lv' := [(3, .int (a3 + (-8))), (4, .int (((b1 >>> ((a3).toInt64 &&& 63)) &&& (255 : Int64))).toInt32), (0, .ref 244), (1, .long b1)]) dX10_addName_28 rfl (by rfl) (Nat.le_of_ble_eq_true rfl) rfl ?_
      refine JT_goto (tgt := 3) dX10_addName_31 (by decide) ?_
      exact JT_sub [2, 3, 0] rfl h
    · have h := h.2 hc2
      refine JT_aload_n (q := 1) dX10_addName_22 rfl rfl ?_
      refine JT_iload (q := 0) dX10_addName_23 rfl ?_
      obtain ⟨o1, h⟩ := h
      refine JS_callVV (M' := MX10_add) (d' := 0) (As := [.int (((b1 >>> ((a3).toInt64 &&& 63)) &&& (255 : Int64))).toInt32]) (rest := []) (P := (fun wm9 => (mX10_add s (((b1 >>> ((a3).toInt64 &&& 63)) &&& (255 : Int64))).toInt32) = wm9)) dX10_addName_25 cvX10_21 okX10_add rfl (Nat.le_of_ble_eq_true rfl) BS_244 (Nat.le_of_ble_eq_true rfl) (Nat.le_of_ble_eq_true rfl) hci_10 (Nat.le_of_ble_eq_true rfl) (Nat.le_of_ble_eq_true rfl) (pX10_add  ((((b1 >>> ((a3).toInt64 &&& 63)) &&& (255 : Int64))).toInt32) o1 rfl) (fun wm9 hq9 => ?_)
      subst hq9
      refine JT_iinc (q := 3) (v := (a3 + (-8))) (lv' := [(3, .int (a3 + (-8))), (4, .int (((b1 >>> ((a3).toInt64 &&& 63)) &&& (255 : Int64))).toInt32), (0, .ref 244), (1, .long b1)]) dX10_addName_28 rfl (by rfl) (Nat.le_of_ble_eq_true rfl) rfl ?_
      refine JT_goto (tgt := 3) dX10_addName_31 (by decide) ?_
      exact JT_sub [2, 3, 0] rfl h
set_option maxRecDepth 1000000 in
theorem bX10_addName (b1 : Int64) {s : SM} {Q : SM → Prop} (h : BV MX10_addName 1 3 [(0, .ref 244), (1, .long b1), (3, .int (48 : Int32))] s Q) : KV MX10_addName 1 [.ref 244, .long b1] s Q := by
  show BV MX10_addName 1 0 [(0, .ref 244), (1, .long b1)] s Q
  refine JT_bipush (v := 48) dX10_addName_0 bp_48 ?_
  refine JT_istore_n (lv' := [(3, .int (48 : Int32)), (0, .ref 244), (1, .long b1)]) dX10_addName_2 rfl (Nat.le_of_ble_eq_true rfl) rfl ?_
  exact JT_sub [1, 2, 0] rfl h
set_option maxRecDepth 1000000 in
theorem gX10_addName  : ∀ n : Nat, (∀ (b1 : Int64) (a3 : Int32) (s : SM) (Q : SM → Prop), ((qX10_addName n) s b1 a3) → Q ((lX10_addName n) s b1 a3) → BV MX10_addName 1 3 [(0, .ref 244), (1, .long b1), (3, .int a3)] s Q) := by
  intro n
  induction n with
  | zero => exact fun _ _ _ _ hq _ => absurd hq id
  | succ n ih =>
    intro b1 a3 s Q hr h
    replace hr : uX10_addName_3 (qX10_addName n) s b1 a3 := hr
    replace h : Q (tX10_addName_3 (lX10_addName n) s b1 a3) := h
    unfold uX10_addName_3 at hr
    unfold tX10_addName_3 at h
    refine bX10_addName_3 b1 a3 ?_
    refine ⟨fun c => ?_, fun c => ?_⟩
    · replace h := q1p c h
      first | exact h | contradiction
    · replace hr := hr c
      replace h := q1n c h
      refine ⟨fun c => ?_, fun c => ?_⟩
      · replace hr := hr.1 c
        replace h := q1p c h
        first | exact ih b1 (a3 + (-8)) _ Q hr h | contradiction
      · replace hr := hr.2 c
        replace h := q1n c h
        refine ⟨hr.1, ?_⟩
        replace hr := hr.2
        first | exact ih b1 (a3 + (-8)) _ Q hr h | contradiction
set_option maxRecDepth 1000000 in
theorem pX10_addName (b1 : Int64) {s : SM} {Q : SM → Prop} (hr : rX10_addName s b1) (h : Q (mX10_addName s b1)) : KV MX10_addName 1 [.ref 244, .long b1] s Q := by
  replace h : Q (fX10_addName s b1) := h
  unfold rX10_addName at hr
  unfold fX10_addName at h
  refine bX10_addName b1 ?_
  first | exact (gX10_addName  FU) b1 (48 : Int32) _ Q hr h | contradiction
set_option maxRecDepth 1000000 in
theorem bX10_addNumber_17 (a1 : Int32) {s : SM} {Q : SM → Prop} (h : rX10_add s ((48 : Int32) + (a1 - a1 / (10 : Int32) * (10 : Int32))) ∧ Q (mX10_add s ((48 : Int32) + (a1 - a1 / (10 : Int32) * (10 : Int32))))) : BV MX10_addNumber 1 17 [(0, .ref 244), (1, .int a1)] s Q := by
  refine JT_aload_n (q := 0) dX10_addNumber_17 rfl rfl ?_
  refine JT_bipush (v := 48) dX10_addNumber_18 bp_48 ?_
  refine JT_iload_n (q := 1) dX10_addNumber_20 rfl rfl ?_
  refine JT_bipush (v := 10) dX10_addNumber_21 bp_10 ?_
  refine JT_irem dX10_addNumber_23 (by decide) ?_
  refine JT_iadd dX10_addNumber_24 ?_
  obtain ⟨o1, h⟩ := h
  refine JS_callVV (M' := MX10_add) (d' := 0) (As := [.int ((48 : Int32) + (a1 - a1 / (10 : Int32) * (10 : Int32)))]) (rest := []) (P := (fun wm9 => (mX10_add s ((48 : Int32) + (a1 - a1 / (10 : Int32) * (10 : Int32)))) = wm9)) dX10_addNumber_25 cvX10_21 okX10_add rfl (Nat.le_of_ble_eq_true rfl) BS_244 (Nat.le_of_ble_eq_true rfl) (Nat.le_of_ble_eq_true rfl) hci_10 (Nat.le_of_ble_eq_true rfl) (Nat.le_of_ble_eq_true rfl) (pX10_add  (((48 : Int32) + (a1 - a1 / (10 : Int32) * (10 : Int32)))) o1 rfl) (fun wm9 hq9 => ?_)
  subst hq9
  exact JS_vret dX10_addNumber_28 rfl h
set_option maxRecDepth 1000000 in
theorem bX10_addNumber (a1 : Int32) {s : SM} {Q : SM → Prop} (h : ((a1 ≤ (9 : Int32) → BV MX10_addNumber 1 17 [(0, .ref 244), (1, .int a1)] s Q) ∧ (¬ a1 ≤ (9 : Int32) → rX10_add s ((48 : Int32) + (a1 / (10 : Int32))) ∧ BV MX10_addNumber 1 17 [(0, .ref 244), (1, .int a1)] (mX10_add s ((48 : Int32) + (a1 / (10 : Int32)))) Q))) : KV MX10_addNumber 1 [.ref 244, .int a1] s Q := by
  show BV MX10_addNumber 1 0 [(0, .ref 244), (1, .int a1)] s Q
  refine JT_iload_n (q := 1) dX10_addNumber_0 rfl rfl ?_
  refine JT_bipush (v := 9) dX10_addNumber_1 bp_9 ?_
  refine JT_icmp_le (tgt := 17) dX10_addNumber_3 (by decide) (fun hc2 => ?_) (fun hc2 => ?_)
  · have h := h.1 hc2
    exact JT_sub [0, 1] rfl h
  · have h := h.2 hc2
    refine JT_aload_n (q := 0) dX10_addNumber_6 rfl rfl ?_
    refine JT_bipush (v := 48) dX10_addNumber_7 bp_48 ?_
    refine JT_iload_n (q := 1) dX10_addNumber_9 rfl rfl ?_
    refine JT_bipush (v := 10) dX10_addNumber_10 bp_10 ?_
    refine JT_idiv dX10_addNumber_12 (by decide) ?_
    refine JT_iadd dX10_addNumber_13 ?_
    obtain ⟨o1, h⟩ := h
    refine JS_callVV (M' := MX10_add) (d' := 0) (As := [.int ((48 : Int32) + (a1 / (10 : Int32)))]) (rest := []) (P := (fun wm9 => (mX10_add s ((48 : Int32) + (a1 / (10 : Int32)))) = wm9)) dX10_addNumber_14 cvX10_21 okX10_add rfl (Nat.le_of_ble_eq_true rfl) BS_244 (Nat.le_of_ble_eq_true rfl) (Nat.le_of_ble_eq_true rfl) hci_10 (Nat.le_of_ble_eq_true rfl) (Nat.le_of_ble_eq_true rfl) (pX10_add  (((48 : Int32) + (a1 / (10 : Int32)))) o1 rfl) (fun wm9 hq9 => ?_)
    subst hq9
    exact JT_sub [0, 1] rfl h
set_option maxRecDepth 1000000 in
theorem gX10_addNumber  : ∀ n : Nat, (∀ (a1 : Int32) (s : SM) (Q : SM → Prop), ((qX10_addNumber n) s a1) → Q ((lX10_addNumber n) s a1) → BV MX10_addNumber 1 17 [(0, .ref 244), (1, .int a1)] s Q) := by
  intro n
  induction n with
  | zero => exact fun _ _ _ hq _ => absurd hq id
  | succ n ih =>
    intro a1 s Q hr h
    replace hr : uX10_addNumber_17 (qX10_addNumber n) s a1 := hr
    replace h : Q (tX10_addNumber_17 (lX10_addNumber n) s a1) := h
    unfold uX10_addNumber_17 at hr
    unfold tX10_addNumber_17 at h
    refine bX10_addNumber_17 a1 ?_
    refine ⟨hr, ?_⟩
    first | exact h | contradiction
set_option maxRecDepth 1000000 in
theorem pX10_addNumber (a1 : Int32) {s : SM} {Q : SM → Prop} (hr : rX10_addNumber s a1) (h : Q (mX10_addNumber s a1)) : KV MX10_addNumber 1 [.ref 244, .int a1] s Q := by
  replace h : Q (fX10_addNumber s a1) := h
  unfold rX10_addNumber at hr
  unfold fX10_addNumber at h
  refine bX10_addNumber a1 ?_
  refine ⟨fun c => ?_, fun c => ?_⟩
  · replace hr := hr.1 c
    replace h := q1p c h
    first | exact (gX10_addNumber  FU) a1 _ Q hr h | contradiction
  · replace hr := hr.2 c
    replace h := q1n c h
    refine ⟨hr.1, ?_⟩
    replace hr := hr.2
    first | exact (gX10_addNumber  FU) a1 _ Q hr h | contradiction
set_option maxRecDepth 1000000 in
theorem bX11_aged (a1 : Int32) (a2 : Int32) {s : SM} {Q : Int32 → SM → Prop} (h : (((vX6_hasBody s 5 a1) = 0 → Q (-1 : Int32) s) ∧ (¬ (vX6_hasBody s 5 a1) = 0 → (((vX11_isYear s a2) = 0 → Q (-1 : Int32) s) ∧ (¬ (vX11_isYear s a2) = 0 → rX4_marksOn s 31 5 a1 a2 ∧ Q (vX4_marksOn s 31 5 a1 a2) s))))) : KI MX11_aged 1 [.ref 2, .int a1, .int a2] s Q := by
  show BI MX11_aged 1 0 [(0, .ref 2), (1, .int a1), (2, .int a2)] s Q
  refine JT_aload_n (q := 0) dX11_aged_0 rfl rfl ?_
  refine JS_getR (x := 5) dX11_aged_1 flX11_19 BS_2 (Nat.le_of_ble_eq_true rfl) (Nat.le_of_ble_eq_true rfl) (Or.inl ⟨_, ct_11_1⟩) RF_2_1 ?_
  refine JT_iload_n (q := 1) dX11_aged_4 rfl rfl ?_
  refine JS_callVI (M' := MX6_hasBody) (d' := 0) (As := [.int a1]) (rest := []) (P := (fun zv9 wm9 => (vX6_hasBody s 5 a1) = zv9 ∧ s = wm9)) dX11_aged_5 cvX11_172 okX6_hasBody rfl (Nat.le_of_ble_eq_true rfl) BS_5 (Nat.le_of_ble_eq_true rfl) (Nat.le_of_ble_eq_true rfl) hci_6 (Nat.le_of_ble_eq_true rfl) (Nat.le_of_ble_eq_true rfl) (pX6_hasBody hp_5 (a1)  ⟨rfl, rfl⟩) (fun zv9 wm9 hq9 => ?_)
  obtain ⟨rfl, rfl⟩ := hq9
  refine JT_if_eq (tgt := 30) dX11_aged_8 (by decide) (fun hc4 => ?_) (fun hc4 => ?_)
  · have h := h.1 hc4
    refine JT_iconst (v := -1) dX11_aged_30 ic_m1 ?_
    exact JS_iret dX11_aged_31 rfl rfl h
  · have h := h.2 hc4
    refine JT_iload_n (q := 2) dX11_aged_11 rfl rfl ?_
    refine JS_callSI (M' := MX11_isYear) (d' := 0) (As := [.int a2]) (rest := []) (P := (fun zv9 wm9 => (vX11_isYear s a2) = zv9 ∧ s = wm9)) dX11_aged_12 cvX11_248 okX11_isYear rfl (Nat.le_of_ble_eq_true rfl) (Nat.le_of_ble_eq_true rfl) (Nat.le_of_ble_eq_true rfl) (pX11_isYear  (a2)  ⟨rfl, rfl⟩) (fun zv9 wm9 hq9 => ?_)
    obtain ⟨rfl, rfl⟩ := hq9
    refine JT_if_eq (tgt := 30) dX11_aged_15 (by decide) (fun hc2 => ?_) (fun hc2 => ?_)
    · have h := h.1 hc2
      refine JT_iconst (v := -1) dX11_aged_30 ic_m1 ?_
      exact JS_iret dX11_aged_31 rfl rfl h
    · have h := h.2 hc2
      refine JT_aload_n (q := 0) dX11_aged_18 rfl rfl ?_
      refine JS_getR (x := 31) dX11_aged_19 flX11_41 BS_2 (Nat.le_of_ble_eq_true rfl) (Nat.le_of_ble_eq_true rfl) (Or.inl ⟨_, ct_11_5⟩) RF_2_5 ?_
      refine JT_iload_n (q := 1) dX11_aged_22 rfl rfl ?_
      refine JT_iload_n (q := 2) dX11_aged_23 rfl rfl ?_
      obtain ⟨o1, h⟩ := h
      refine JS_callVI (M' := MX4_marksOn) (d' := 0) (As := [.int a1, .int a2]) (rest := []) (P := (fun zv9 wm9 => (vX4_marksOn s 31 5 a1 a2) = zv9 ∧ s = wm9)) dX11_aged_24 cvX11_195 okX4_marksOn rfl (Nat.le_of_ble_eq_true rfl) BS_31 (Nat.le_of_ble_eq_true rfl) (Nat.le_of_ble_eq_true rfl) hci_4 (Nat.le_of_ble_eq_true rfl) (Nat.le_of_ble_eq_true rfl) (pX4_marksOn hL_31 (a1) (a2) o1 ⟨rfl, rfl⟩) (fun zv9 wm9 hq9 => ?_)
      obtain ⟨rfl, rfl⟩ := hq9
      refine JT_goto (tgt := 31) dX11_aged_27 (by decide) ?_
      exact JS_iret dX11_aged_31 rfl rfl h
set_option maxRecDepth 1000000 in
theorem pX11_aged (a1 : Int32) (a2 : Int32) {s : SM} {Q : Int32 → SM → Prop} (hr : rX11_aged s a1 a2) (h : Q (vX11_aged s a1 a2) s) : KI MX11_aged 1 [.ref 2, .int a1, .int a2] s Q := by
  refine bX11_aged a1 a2 ?_
  unfold rX11_aged at hr
  unfold vX11_aged at h
  refine ⟨fun c => ?_, fun c => ?_⟩
  · replace h := qlp c h
    first | exact h | contradiction
  · replace hr := hr c
    replace h := qln c h
    refine ⟨fun c => ?_, fun c => ?_⟩
    · replace h := qlp c h
      first | exact h | contradiction
    · replace hr := hr c
      replace h := qln c h
      refine ⟨hr, ?_⟩
      first | exact h | contradiction
set_option maxRecDepth 1000000 in
theorem bX11_byteAt (a1 : Int32) {s : SM} {Q : Int32 → SM → Prop} (h : rX10_at s a1 ∧ Q (vX10_at s a1) s) : KI MX11_byteAt 1 [.ref 2, .int a1] s Q := by
  show BI MX11_byteAt 1 0 [(0, .ref 2), (1, .int a1)] s Q
  refine JT_aload_n (q := 0) dX11_byteAt_0 rfl rfl ?_
  refine JS_getR (x := 244) dX11_byteAt_1 flX11_93 BS_2 (Nat.le_of_ble_eq_true rfl) (Nat.le_of_ble_eq_true rfl) (Or.inl ⟨_, ct_11_13⟩) RF_2_13 ?_
  refine JT_iload_n (q := 1) dX11_byteAt_4 rfl rfl ?_
  obtain ⟨o1, h⟩ := h
  refine JS_callVI (M' := MX10_at) (d' := 0) (As := [.int a1]) (rest := []) (P := (fun zv9 wm9 => (vX10_at s a1) = zv9 ∧ s = wm9)) dX11_byteAt_5 cvX11_293 okX10_at rfl (Nat.le_of_ble_eq_true rfl) BS_244 (Nat.le_of_ble_eq_true rfl) (Nat.le_of_ble_eq_true rfl) hci_10 (Nat.le_of_ble_eq_true rfl) (Nat.le_of_ble_eq_true rfl) (pX10_at  (a1) o1 ⟨rfl, rfl⟩) (fun zv9 wm9 hq9 => ?_)
  obtain ⟨rfl, rfl⟩ := hq9
  exact JS_iret dX11_byteAt_8 rfl rfl h
set_option maxRecDepth 1000000 in
theorem pX11_byteAt (a1 : Int32) {s : SM} {Q : Int32 → SM → Prop} (hr : rX11_byteAt s a1) (h : Q (vX11_byteAt s a1) s) : KI MX11_byteAt 1 [.ref 2, .int a1] s Q := by
  refine bX11_byteAt a1 ?_
  unfold rX11_byteAt at hr
  unfold vX11_byteAt at h
  refine ⟨hr, ?_⟩
  first | exact h | contradiction
set_option maxRecDepth 1000000 in
theorem bX11_feed (a1 : Int32) (a2 : Int32) (a3 : Int32) (a4 : Int32) (a5 : Int32) {s : SM} {Q : Int32 → SM → Prop} (h : ((((gI s 3 1) + (20 : Int32)) ≤ (640 : Int32) → rX9_add s a1 ∧ rX9_add (mX9_add s a1) a2 ∧ rX9_add (mX9_add (mX9_add s a1) a2) a3 ∧ rX9_add (mX9_add (mX9_add (mX9_add s a1) a2) a3) a4 ∧ rX9_add (mX9_add (mX9_add (mX9_add (mX9_add s a1) a2) a3) a4) a5 ∧ Q (gI (mX9_add (mX9_add (mX9_add (mX9_add (mX9_add s a1) a2) a3) a4) a5) 3 1) (mX9_add (mX9_add (mX9_add (mX9_add (mX9_add s a1) a2) a3) a4) a5)) ∧ (¬ ((gI s 3 1) + (20 : Int32)) ≤ (640 : Int32) → Q (-1 : Int32) s))) : KI MX11_feed 1 [.ref 2, .int a1, .int a2, .int a3, .int a4, .int a5] s Q := by
  show BI MX11_feed 1 0 [(0, .ref 2), (1, .int a1), (2, .int a2), (3, .int a3), (4, .int a4), (5, .int a5)] s Q
  refine JT_aload_n (q := 0) dX11_feed_0 rfl rfl ?_
  refine JS_getR (x := 3) dX11_feed_1 flX11_10 BS_2 (Nat.le_of_ble_eq_true rfl) (Nat.le_of_ble_eq_true rfl) (Or.inl ⟨_, ct_11_0⟩) RF_2_0 ?_
  refine JS_getI dX11_feed_4 flX11_104 BS_3 (Nat.le_of_ble_eq_true rfl) (Nat.le_of_ble_eq_true rfl) (Or.inl ct_9_1) ?_
  refine JT_bipush (v := 20) dX11_feed_7 bp_20 ?_
  refine JT_iadd dX11_feed_9 ?_
  refine JT_sipush (v := 640) dX11_feed_10 sp_640 ?_
  refine JT_icmp_le (tgt := 18) dX11_feed_13 (by decide) (fun hc6 => ?_) (fun hc6 => ?_)
  · have h := h.1 hc6
    refine JT_aload_n (q := 0) dX11_feed_18 rfl rfl ?_
    refine JS_getR (x := 3) dX11_feed_19 flX11_10 BS_2 (Nat.le_of_ble_eq_true rfl) (Nat.le_of_ble_eq_true rfl) (Or.inl ⟨_, ct_11_0⟩) RF_2_0 ?_
    refine JT_iload_n (q := 1) dX11_feed_22 rfl rfl ?_
    obtain ⟨o5, h⟩ := h
    refine JS_callVV (M' := MX9_add) (d' := 0) (As := [.int a1]) (rest := []) (P := (fun wm9 => (mX9_add s a1) = wm9)) dX11_feed_23 cvX11_108 okX9_add rfl (Nat.le_of_ble_eq_true rfl) BS_3 (Nat.le_of_ble_eq_true rfl) (Nat.le_of_ble_eq_true rfl) hci_9 (Nat.le_of_ble_eq_true rfl) (Nat.le_of_ble_eq_true rfl) (pX9_add  (a1) o5 rfl) (fun wm9 hq9 => ?_)
    subst hq9
    refine JT_aload_n (q := 0) dX11_feed_26 rfl rfl ?_
    refine JS_getR (x := 3) dX11_feed_27 flX11_10 BS_2 (Nat.le_of_ble_eq_true rfl) (Nat.le_of_ble_eq_true rfl) (Or.inl ⟨_, ct_11_0⟩) RF_2_0 ?_
    refine JT_iload_n (q := 2) dX11_feed_30 rfl rfl ?_
    obtain ⟨o4, h⟩ := h
    refine JS_callVV (M' := MX9_add) (d' := 0) (As := [.int a2]) (rest := []) (P := (fun wm9 => (mX9_add (mX9_add s a1) a2) = wm9)) dX11_feed_31 cvX11_108 okX9_add rfl (Nat.le_of_ble_eq_true rfl) BS_3 (Nat.le_of_ble_eq_true rfl) (Nat.le_of_ble_eq_true rfl) hci_9 (Nat.le_of_ble_eq_true rfl) (Nat.le_of_ble_eq_true rfl) (pX9_add  (a2) o4 rfl) (fun wm9 hq9 => ?_)
    subst hq9
    refine JT_aload_n (q := 0) dX11_feed_34 rfl rfl ?_
    refine JS_getR (x := 3) dX11_feed_35 flX11_10 BS_2 (Nat.le_of_ble_eq_true rfl) (Nat.le_of_ble_eq_true rfl) (Or.inl ⟨_, ct_11_0⟩) RF_2_0 ?_
    refine JT_iload_n (q := 3) dX11_feed_38 rfl rfl ?_
    obtain ⟨o3, h⟩ := h
    refine JS_callVV (M' := MX9_add) (d' := 0) (As := [.int a3]) (rest := []) (P := (fun wm9 => (mX9_add (mX9_add (mX9_add s a1) a2) a3) = wm9)) dX11_feed_39 cvX11_108 okX9_add rfl (Nat.le_of_ble_eq_true rfl) BS_3 (Nat.le_of_ble_eq_true rfl) (Nat.le_of_ble_eq_true rfl) hci_9 (Nat.le_of_ble_eq_true rfl) (Nat.le_of_ble_eq_true rfl) (pX9_add  (a3) o3 rfl) (fun wm9 hq9 => ?_)
    subst hq9
    refine JT_aload_n (q := 0) dX11_feed_42 rfl rfl ?_
    refine JS_getR (x := 3) dX11_feed_43 flX11_10 BS_2 (Nat.le_of_ble_eq_true rfl) (Nat.le_of_ble_eq_true rfl) (Or.inl ⟨_, ct_11_0⟩) RF_2_0 ?_
    refine JT_iload (q := 4) dX11_feed_46 rfl ?_
    obtain ⟨o2, h⟩ := h
    refine JS_callVV (M' := MX9_add) (d' := 0) (As := [.int a4]) (rest := []) (P := (fun wm9 => (mX9_add (mX9_add (mX9_add (mX9_add s a1) a2) a3) a4) = wm9)) dX11_feed_48 cvX11_108 okX9_add rfl (Nat.le_of_ble_eq_true rfl) BS_3 (Nat.le_of_ble_eq_true rfl) (Nat.le_of_ble_eq_true rfl) hci_9 (Nat.le_of_ble_eq_true rfl) (Nat.le_of_ble_eq_true rfl) (pX9_add  (a4) o2 rfl) (fun wm9 hq9 => ?_)
    subst hq9
    refine JT_aload_n (q := 0) dX11_feed_51 rfl rfl ?_
    refine JS_getR (x := 3) dX11_feed_52 flX11_10 BS_2 (Nat.le_of_ble_eq_true rfl) (Nat.le_of_ble_eq_true rfl) (Or.inl ⟨_, ct_11_0⟩) RF_2_0 ?_
    refine JT_iload (q := 5) dX11_feed_55 rfl ?_
    obtain ⟨o1, h⟩ := h
    refine JS_callVV (M' := MX9_add) (d' := 0) (As := [.int a5]) (rest := []) (P := (fun wm9 => (mX9_add (mX9_add (mX9_add (mX9_add (mX9_add s a1) a2) a3) a4) a5) = wm9)) dX11_feed_57 cvX11_108 okX9_add rfl (Nat.le_of_ble_eq_true rfl) BS_3 (Nat.le_of_ble_eq_true rfl) (Nat.le_of_ble_eq_true rfl) hci_9 (Nat.le_of_ble_eq_true rfl) (Nat.le_of_ble_eq_true rfl) (pX9_add  (a5) o1 rfl) (fun wm9 hq9 => ?_)
    subst hq9
    refine JT_aload_n (q := 0) dX11_feed_60 rfl rfl ?_
    refine JS_getR (x := 3) dX11_feed_61 flX11_10 BS_2 (Nat.le_of_ble_eq_true rfl) (Nat.le_of_ble_eq_true rfl) (Or.inl ⟨_, ct_11_0⟩) RF_2_0 ?_
    refine JS_getI dX11_feed_64 flX11_104 BS_3 (Nat.le_of_ble_eq_true rfl) (Nat.le_of_ble_eq_true rfl) (Or.inl ct_9_1) ?_
    exact JS_iret dX11_feed_67 rfl rfl h
  · have h := h.2 hc6
    refine JT_iconst (v := -1) dX11_feed_16 ic_m1 ?_
    exact JS_iret dX11_feed_17 rfl rfl h
set_option maxRecDepth 1000000 in
theorem pX11_feed (a1 : Int32) (a2 : Int32) (a3 : Int32) (a4 : Int32) (a5 : Int32) {s : SM} {Q : Int32 → SM → Prop} (hr : rX11_feed s a1 a2 a3 a4 a5) (h : Q (vX11_feed s a1 a2 a3 a4 a5) (mX11_feed s a1 a2 a3 a4 a5)) : KI MX11_feed 1 [.ref 2, .int a1, .int a2, .int a3, .int a4, .int a5] s Q := by
  refine bX11_feed a1 a2 a3 a4 a5 ?_
  unfold rX11_feed at hr
  unfold vX11_feed mX11_feed at h
  refine ⟨fun c => ?_, fun c => ?_⟩
  · replace hr := hr c
    replace h := q2p c h
    refine ⟨hr.1, ?_⟩
    replace hr := hr.2
    refine ⟨hr.1, ?_⟩
    replace hr := hr.2
    refine ⟨hr.1, ?_⟩
    replace hr := hr.2
    refine ⟨hr.1, ?_⟩
    replace hr := hr.2
    refine ⟨hr, ?_⟩
    first | exact h | contradiction
  · replace h := q2n c h
    first | exact h | contradiction
set_option maxRecDepth 1000000 in
theorem bX11_fit (a1 : Int32) (a2 : Int32) {s : SM} {Q : Int32 → SM → Prop} (h : rX1_told s a1 a2 ∧ Q (vX1_told s a1 a2) s) : KI MX11_fit 1 [.ref 2, .int a1, .int a2] s Q := by
  show BI MX11_fit 1 0 [(0, .ref 2), (1, .int a1), (2, .int a2)] s Q
  refine JT_aload_n (q := 0) dX11_fit_0 rfl rfl ?_
  refine JS_getR (x := 233) dX11_fit_1 flX11_79 BS_2 (Nat.le_of_ble_eq_true rfl) (Nat.le_of_ble_eq_true rfl) (Or.inl ⟨_, ct_11_11⟩) RF_2_11 ?_
  refine JT_iload_n (q := 1) dX11_fit_4 rfl rfl ?_
  refine JT_iload_n (q := 2) dX11_fit_5 rfl rfl ?_
  obtain ⟨o1, h⟩ := h
  refine JS_callVI (M' := MX1_told) (d' := 0) (As := [.int a1, .int a2]) (rest := []) (P := (fun zv9 wm9 => (vX1_told s a1 a2) = zv9 ∧ s = wm9)) dX11_fit_6 cvX11_406 okX1_told rfl (Nat.le_of_ble_eq_true rfl) BS_233 (Nat.le_of_ble_eq_true rfl) (Nat.le_of_ble_eq_true rfl) hci_1 (Nat.le_of_ble_eq_true rfl) (Nat.le_of_ble_eq_true rfl) (pX1_told  (a1) (a2) o1 ⟨rfl, rfl⟩) (fun zv9 wm9 hq9 => ?_)
  obtain ⟨rfl, rfl⟩ := hq9
  exact JS_iret dX11_fit_9 rfl rfl h
set_option maxRecDepth 1000000 in
theorem pX11_fit (a1 : Int32) (a2 : Int32) {s : SM} {Q : Int32 → SM → Prop} (hr : rX11_fit s a1 a2) (h : Q (vX11_fit s a1 a2) s) : KI MX11_fit 1 [.ref 2, .int a1, .int a2] s Q := by
  refine bX11_fit a1 a2 ?_
  unfold rX11_fit at hr
  unfold vX11_fit at h
  refine ⟨hr, ?_⟩
  first | exact h | contradiction
set_option maxRecDepth 1000000 in
theorem bX11_kind (a1 : Int32) (a2 : Int32) {s : SM} {Q : Option Int32 → SM → Prop} (h : (((vX6_hasKind s 5 a1) = 0 → Q none s) ∧ (¬ (vX6_hasKind s 5 a1) = 0 → ((a2 < 0 → Q none s) ∧ (¬ a2 < 0 → ((a2 ≤ (1 : Int32) → ((¬ a2 = 0 → vp_in a1 6 ∧ Q (some (gI s 11 (a1).toNatClampNeg)) s) ∧ (a2 = 0 → vp_in a1 6 ∧ Q (some (gI s 10 (a1).toNatClampNeg)) s))) ∧ (¬ a2 ≤ (1 : Int32) → Q none s))))))) : KX MX11_kind 1 [.ref 2, .int a1, .int a2] s Q := by
  show BXX MX11_kind 1 0 [(0, .ref 2), (1, .int a1), (2, .int a2)] s Q
  refine JT_aload_n (q := 0) dX11_kind_0 rfl rfl ?_
  refine JS_getR (x := 5) dX11_kind_1 flX11_19 BS_2 (Nat.le_of_ble_eq_true rfl) (Nat.le_of_ble_eq_true rfl) (Or.inl ⟨_, ct_11_1⟩) RF_2_1 ?_
  refine JT_iload_n (q := 1) dX11_kind_4 rfl rfl ?_
  refine JS_callVI (M' := MX6_hasKind) (d' := 0) (As := [.int a1]) (rest := []) (P := (fun zv9 wm9 => (vX6_hasKind s 5 a1) = zv9 ∧ s = wm9)) dX11_kind_5 cvX11_202 okX6_hasKind rfl (Nat.le_of_ble_eq_true rfl) BS_5 (Nat.le_of_ble_eq_true rfl) (Nat.le_of_ble_eq_true rfl) hci_6 (Nat.le_of_ble_eq_true rfl) (Nat.le_of_ble_eq_true rfl) (pX6_hasKind hp_5 (a1)  ⟨rfl, rfl⟩) (fun zv9 wm9 hq9 => ?_)
  obtain ⟨rfl, rfl⟩ := hq9
  refine JT_if_eq (tgt := 20) dX11_kind_8 (by decide) (fun hc6 => ?_) (fun hc6 => ?_)
  · have h := h.1 hc6
    exact JS_throw ⟨dX11_kind_20, dX11_kind_23, dX11_kind_24, dX11_kind_27⟩ h
  · have h := h.2 hc6
    refine JT_iload_n (q := 2) dX11_kind_11 rfl rfl ?_
    refine JT_if_lt (tgt := 20) dX11_kind_12 (by decide) (fun hc5 => ?_) (fun hc5 => ?_)
    · have h := h.1 hc5
      exact JS_throw ⟨dX11_kind_20, dX11_kind_23, dX11_kind_24, dX11_kind_27⟩ h
    · have h := h.2 hc5
      refine JT_iload_n (q := 2) dX11_kind_15 rfl rfl ?_
      refine JT_iconst (v := 1) dX11_kind_16 ic_1 ?_
      refine JT_icmp_le (tgt := 28) dX11_kind_17 (by decide) (fun hc4 => ?_) (fun hc4 => ?_)
      · have h := h.1 hc4
        refine JT_iload_n (q := 2) dX11_kind_28 rfl rfl ?_
        refine JT_if_ne (tgt := 44) dX11_kind_29 (by decide) (fun hc3 => ?_) (fun hc3 => ?_)
        · have h := h.1 hc3
          refine JT_aload_n (q := 0) dX11_kind_44 rfl rfl ?_
          refine JS_getR (x := 5) dX11_kind_45 flX11_19 BS_2 (Nat.le_of_ble_eq_true rfl) (Nat.le_of_ble_eq_true rfl) (Or.inl ⟨_, ct_11_1⟩) RF_2_1 ?_
          refine JS_getR (x := 11) dX11_kind_48 flX11_208 BS_5 (Nat.le_of_ble_eq_true rfl) (Nat.le_of_ble_eq_true rfl) (Or.inr ⟨_, ct_6_5⟩) RF_5_5 ?_
          refine JT_iload_n (q := 1) dX11_kind_51 rfl rfl ?_
          obtain ⟨o1, h⟩ := h
          refine JS_iald dX11_kind_52 BS_11 (Nat.le_of_ble_eq_true rfl) (Nat.le_of_ble_eq_true rfl) o1 ?_
          exact JS_iretx dX11_kind_53 rfl rfl h
        · have h := h.2 hc3
          refine JT_aload_n (q := 0) dX11_kind_32 rfl rfl ?_
          refine JS_getR (x := 5) dX11_kind_33 flX11_19 BS_2 (Nat.le_of_ble_eq_true rfl) (Nat.le_of_ble_eq_true rfl) (Or.inl ⟨_, ct_11_1⟩) RF_2_1 ?_
          refine JS_getR (x := 10) dX11_kind_36 flX11_205 BS_5 (Nat.le_of_ble_eq_true rfl) (Nat.le_of_ble_eq_true rfl) (Or.inr ⟨_, ct_6_4⟩) RF_5_4 ?_
          refine JT_iload_n (q := 1) dX11_kind_39 rfl rfl ?_
          obtain ⟨o2, h⟩ := h
          refine JS_iald dX11_kind_40 BS_10 (Nat.le_of_ble_eq_true rfl) (Nat.le_of_ble_eq_true rfl) o2 ?_
          refine JT_goto (tgt := 53) dX11_kind_41 (by decide) ?_
          exact JS_iretx dX11_kind_53 rfl rfl h
      · have h := h.2 hc4
        exact JS_throw ⟨dX11_kind_20, dX11_kind_23, dX11_kind_24, dX11_kind_27⟩ h
set_option maxRecDepth 1000000 in
theorem pX11_kind (a1 : Int32) (a2 : Int32) {s : SM} {Q : Option Int32 → SM → Prop} (hr : rX11_kind s a1 a2) (h : Q (vX11_kind s a1 a2) s) : KX MX11_kind 1 [.ref 2, .int a1, .int a2] s Q := by
  refine bX11_kind a1 a2 ?_
  unfold rX11_kind at hr
  unfold vX11_kind at h
  refine ⟨fun c => ?_, fun c => ?_⟩
  · replace h := qlp c h
    first | exact h | contradiction
  · replace hr := hr c
    replace h := qln c h
    refine ⟨fun c => ?_, fun c => ?_⟩
    · replace h := qlp c h
      first | exact h | contradiction
    · replace hr := hr c
      replace h := qln c h
      refine ⟨fun c => ?_, fun c => ?_⟩
      · replace hr := hr c
        replace h := qlp c h
        refine ⟨fun c => ?_, fun c => ?_⟩
        · replace hr := hr.1 c
          replace h := qln c h
          refine ⟨hr, ?_⟩
          first | exact h | contradiction
        · replace hr := hr.2 c
          replace h := qlp c h
          refine ⟨hr, ?_⟩
          first | exact h | contradiction
      · replace h := qln c h
        first | exact h | contradiction
set_option maxRecDepth 1000000 in
theorem bX11_mark_34 (a1 : Int32) (a2 : Int32) (a3 : Int32) (a4 : Int32) {s : SM} {Q : Int32 → SM → Prop} (h : (((gI s 31 9) ≤ a4 → Q (-1 : Int32) s) ∧ (¬ (gI s 31 9) ≤ a4 → BI MX11_mark 1 49 [(0, .ref 2), (1, .int a1), (2, .int a2), (3, .int a3), (4, .int a4), (5, .int (0 : Int32))] s Q))) : BI MX11_mark 1 34 [(0, .ref 2), (1, .int a1), (2, .int a2), (3, .int a3), (4, .int a4)] s Q := by
  refine JT_iload (q := 4) dX11_mark_34 rfl ?_
  refine JT_aload_n (q := 0) dX11_mark_36 rfl rfl ?_
  refine JS_getR (x := 31) dX11_mark_37 flX11_41 BS_2 (Nat.le_of_ble_eq_true rfl) (Nat.le_of_ble_eq_true rfl) (Or.inl ⟨_, ct_11_5⟩) RF_2_5 ?_
  refine JS_getI dX11_mark_40 flX11_162 BS_31 (Nat.le_of_ble_eq_true rfl) (Nat.le_of_ble_eq_true rfl) (Or.inl ct_4_9) ?_
  refine JT_icmp_ge (tgt := 98) dX11_mark_43 (by decide) (fun hc1 => ?_) (fun hc1 => ?_)
  · have h := h.1 hc1
    refine JT_iconst (v := -1) dX11_mark_98 ic_m1 ?_
    exact JS_iret dX11_mark_99 rfl rfl h
  · have h := h.2 hc1
    refine JT_iconst (v := 0) dX11_mark_46 ic_0 ?_
    refine JT_istore (lv' := [(5, .int (0 : Int32)), (0, .ref 2), (1, .int a1), (2, .int a2), (3, .int a3), (4, .int a4)]) dX11_mark_47 (Nat.le_of_ble_eq_true rfl) rfl ?_
    exact JT_sub [1, 2, 3, 4, 5, 0] rfl h
set_option maxRecDepth 1000000 in
theorem bX11_mark_49 (a1 : Int32) (a2 : Int32) (a3 : Int32) (a4 : Int32) (a5 : Int32) {s : SM} {Q : Int32 → SM → Prop} (h : (((1 : Int32) < a5 → BI MX11_mark 1 34 [(0, .ref 2), (1, .int a1), (2, .int a2), (3, .int a3), (4, .int (a4 + 1))] s Q) ∧ (¬ (1 : Int32) < a5 → rX4_bearer s 31 5 a4 a5 ∧ ((¬ (vX4_bearer s 31 5 a4 a5) = a1 → BI MX11_mark 1 49 [(0, .ref 2), (1, .int a1), (2, .int a2), (3, .int a3), (4, .int a4), (5, .int (a5 + 1))] s Q) ∧ ((vX4_bearer s 31 5 a4 a5) = a1 → ((¬ a3 = a2 → BI MX11_mark 1 49 [(0, .ref 2), (1, .int a1), (2, .int a2), (3, .int (a3 + 1)), (4, .int a4), (5, .int (a5 + 1))] s Q) ∧ (a3 = a2 → Q (((2 : Int32) * a4) + a5) s))))))) : BI MX11_mark 1 49 [(0, .ref 2), (1, .int a1), (2, .int a2), (3, .int a3), (4, .int a4), (5, .int a5)] s Q := by
  refine JT_iload (q := 5) dX11_mark_49 rfl ?_
  refine JT_iconst (v := 1) dX11_mark_51 ic_1 ?_
  refine JT_icmp_gt (tgt := 92) dX11_mark_52 (by decide) (fun hc4 => ?_) (fun hc4 => ?_)
  · have h := h.1 hc4
    refine JT_iinc (q := 4) (v := (a4 + 1)) (lv' := [(4, .int (a4 + 1)), (0, .ref 2), (1, .int a1), (2, .int a2), (3, .int a3), (5, .int a5)]) dX11_mark_92 rfl (by rfl) (Nat.le_of_ble_eq_true rfl) rfl ?_
    refine JT_goto (tgt := 34) dX11_mark_95 (by decide) ?_
    exact JT_sub [1, 2, 3, 4, 0] rfl h
  · have h := h.2 hc4
    refine JT_aload_n (q := 0) dX11_mark_55 rfl rfl ?_
    refine JS_getR (x := 31) dX11_mark_56 flX11_41 BS_2 (Nat.le_of_ble_eq_true rfl) (Nat.le_of_ble_eq_true rfl) (Or.inl ⟨_, ct_11_5⟩) RF_2_5 ?_
    refine JT_iload (q := 4) dX11_mark_59 rfl ?_
    refine JT_iload (q := 5) dX11_mark_61 rfl ?_
    obtain ⟨o3, h⟩ := h
    refine JS_callVI (M' := MX4_bearer) (d' := 0) (As := [.int a4, .int a5]) (rest := []) (P := (fun zv9 wm9 => (vX4_bearer s 31 5 a4 a5) = zv9 ∧ s = wm9)) dX11_mark_63 cvX11_232 okX4_bearer rfl (Nat.le_of_ble_eq_true rfl) BS_31 (Nat.le_of_ble_eq_true rfl) (Nat.le_of_ble_eq_true rfl) hci_4 (Nat.le_of_ble_eq_true rfl) (Nat.le_of_ble_eq_true rfl) (pX4_bearer hL_31 (a4) (a5) o3 ⟨rfl, rfl⟩) (fun zv9 wm9 hq9 => ?_)
    obtain ⟨rfl, rfl⟩ := hq9
    refine JT_iload_n (q := 1) dX11_mark_66 rfl rfl ?_
    refine JT_icmp_ne (tgt := 86) dX11_mark_67 (by decide) (fun hc2 => ?_) (fun hc2 => ?_)
    · have h := h.1 hc2
      refine JT_iinc (q := 5) (v := (a5 + 1)) (lv' := [(5, .int (a5 + 1)), (0, .ref 2), (1, .int a1), (2, .int a2), (3, .int a3), (4, .int a4)]) dX11_mark_86 rfl (by rfl) (Nat.le_of_ble_eq_true rfl) rfl ?_
      refine JT_goto (tgt := 49) dX11_mark_89 (by decide) ?_
      exact JT_sub [1, 2, 3, 4, 5, 0] rfl h
    · have h := h.2 hc2
      refine JT_iload_n (q := 3) dX11_mark_70 rfl rfl ?_
      refine JT_iload_n (q := 2) dX11_mark_71 rfl rfl ?_
      refine JT_icmp_ne (tgt := 83) dX11_mark_72 (by decide) (fun hc1 => ?_) (fun hc1 => ?_)
      · have h := h.1 hc1
        refine JT_iinc (q := 3) (v := (a3 + 1)) (lv' := [(3, .int (a3 + 1)), (0, .ref 2), (1, .int a1), (2, .int a2), (4, .int a4), (5, .int a5)]) dX11_mark_83 rfl (by rfl) (Nat.le_of_ble_eq_true rfl) rfl ?_
        refine JT_iinc (q := 5) (v := (a5 + 1)) (lv' := [(5, .int (a5 + 1)), (3, .int (a3 + 1)), (0, .ref 2), (1, .int a1), (2, .int a2), (4, .int a4)]) dX11_mark_86 rfl (by rfl) (Nat.le_of_ble_eq_true rfl) rfl ?_
        refine JT_goto (tgt := 49) dX11_mark_89 (by decide) ?_
        exact JT_sub [2, 3, 4, 1, 5, 0] rfl h
      · have h := h.2 hc1
        refine JT_iconst (v := 2) dX11_mark_75 ic_2 ?_
        refine JT_iload (q := 4) dX11_mark_76 rfl ?_
        refine JT_imul dX11_mark_78 ?_
        refine JT_iload (q := 5) dX11_mark_79 rfl ?_
        refine JT_iadd dX11_mark_81 ?_
        exact JS_iret dX11_mark_82 rfl rfl h
set_option maxRecDepth 1000000 in
theorem bX11_mark (a1 : Int32) (a2 : Int32) {s : SM} {Q : Int32 → SM → Prop} (h : ((¬ (vX6_hasBody s 5 a1) = 0 → ((¬ a2 = (-1 : Int32) → BI MX11_mark 1 34 [(0, .ref 2), (1, .int a1), (2, .int a2), (3, .int (0 : Int32)), (4, .int (0 : Int32))] s Q) ∧ (a2 = (-1 : Int32) → rX4_marksOn s 31 5 a1 (99 : Int32) ∧ Q (vX4_marksOn s 31 5 a1 (99 : Int32)) s))) ∧ ((vX6_hasBody s 5 a1) = 0 → Q (-1 : Int32) s))) : KI MX11_mark 1 [.ref 2, .int a1, .int a2] s Q := by
  show BI MX11_mark 1 0 [(0, .ref 2), (1, .int a1), (2, .int a2)] s Q
  refine JT_aload_n (q := 0) dX11_mark_0 rfl rfl ?_
  refine JS_getR (x := 5) dX11_mark_1 flX11_19 BS_2 (Nat.le_of_ble_eq_true rfl) (Nat.le_of_ble_eq_true rfl) (Or.inl ⟨_, ct_11_1⟩) RF_2_1 ?_
  refine JT_iload_n (q := 1) dX11_mark_4 rfl rfl ?_
  refine JS_callVI (M' := MX6_hasBody) (d' := 0) (As := [.int a1]) (rest := []) (P := (fun zv9 wm9 => (vX6_hasBody s 5 a1) = zv9 ∧ s = wm9)) dX11_mark_5 cvX11_172 okX6_hasBody rfl (Nat.le_of_ble_eq_true rfl) BS_5 (Nat.le_of_ble_eq_true rfl) (Nat.le_of_ble_eq_true rfl) hci_6 (Nat.le_of_ble_eq_true rfl) (Nat.le_of_ble_eq_true rfl) (pX6_hasBody hp_5 (a1)  ⟨rfl, rfl⟩) (fun zv9 wm9 hq9 => ?_)
  obtain ⟨rfl, rfl⟩ := hq9
  refine JT_if_ne (tgt := 13) dX11_mark_8 (by decide) (fun hc3 => ?_) (fun hc3 => ?_)
  · have h := h.1 hc3
    refine JT_iload_n (q := 2) dX11_mark_13 rfl rfl ?_
    refine JT_iconst (v := -1) dX11_mark_14 ic_m1 ?_
    refine JT_icmp_ne (tgt := 29) dX11_mark_15 (by decide) (fun hc2 => ?_) (fun hc2 => ?_)
    · have h := h.1 hc2
      refine JT_iconst (v := 0) dX11_mark_29 ic_0 ?_
      refine JT_istore_n (lv' := [(3, .int (0 : Int32)), (0, .ref 2), (1, .int a1), (2, .int a2)]) dX11_mark_30 rfl (Nat.le_of_ble_eq_true rfl) rfl ?_
      refine JT_iconst (v := 0) dX11_mark_31 ic_0 ?_
      refine JT_istore (lv' := [(4, .int (0 : Int32)), (3, .int (0 : Int32)), (0, .ref 2), (1, .int a1), (2, .int a2)]) dX11_mark_32 (Nat.le_of_ble_eq_true rfl) rfl ?_
      exact JT_sub [2, 3, 4, 1, 0] rfl h
    · have h := h.2 hc2
      refine JT_aload_n (q := 0) dX11_mark_18 rfl rfl ?_
      refine JS_getR (x := 31) dX11_mark_19 flX11_41 BS_2 (Nat.le_of_ble_eq_true rfl) (Nat.le_of_ble_eq_true rfl) (Or.inl ⟨_, ct_11_5⟩) RF_2_5 ?_
      refine JT_iload_n (q := 1) dX11_mark_22 rfl rfl ?_
      refine JT_bipush (v := 99) dX11_mark_23 bp_99 ?_
      obtain ⟨o1, h⟩ := h
      refine JS_callVI (M' := MX4_marksOn) (d' := 0) (As := [.int a1, .int (99 : Int32)]) (rest := []) (P := (fun zv9 wm9 => (vX4_marksOn s 31 5 a1 (99 : Int32)) = zv9 ∧ s = wm9)) dX11_mark_25 cvX11_195 okX4_marksOn rfl (Nat.le_of_ble_eq_true rfl) BS_31 (Nat.le_of_ble_eq_true rfl) (Nat.le_of_ble_eq_true rfl) hci_4 (Nat.le_of_ble_eq_true rfl) (Nat.le_of_ble_eq_true rfl) (pX4_marksOn hL_31 (a1) ((99 : Int32)) o1 ⟨rfl, rfl⟩) (fun zv9 wm9 hq9 => ?_)
      obtain ⟨rfl, rfl⟩ := hq9
      exact JS_iret dX11_mark_28 rfl rfl h
  · have h := h.2 hc3
    refine JT_iconst (v := -1) dX11_mark_11 ic_m1 ?_
    exact JS_iret dX11_mark_12 rfl rfl h
set_option maxRecDepth 1000000 in
theorem gX11_mark  : ∀ n : Nat, (∀ (a1 : Int32) (a2 : Int32) (a3 : Int32) (a4 : Int32) (s : SM) (Q : Int32 → SM → Prop), ((qX11_mark n).1 s a1 a2 a3 a4) → Q ((lX11_mark n).1 s a1 a2 a3 a4) s → BI MX11_mark 1 34 [(0, .ref 2), (1, .int a1), (2, .int a2), (3, .int a3), (4, .int a4)] s Q) ∧ (∀ (a1 : Int32) (a2 : Int32) (a3 : Int32) (a4 : Int32) (a5 : Int32) (s : SM) (Q : Int32 → SM → Prop), ((qX11_mark n).2 s a1 a2 a3 a4 a5) → Q ((lX11_mark n).2 s a1 a2 a3 a4 a5) s → BI MX11_mark 1 49 [(0, .ref 2), (1, .int a1), (2, .int a2), (3, .int a3), (4, .int a4), (5, .int a5)] s Q) := by
  intro n
  induction n with
  | zero => exact ⟨fun _ _ _ _ _ _ hq _ => absurd hq id, fun _ _ _ _ _ _ _ hq _ => absurd hq id⟩
  | succ n ih =>
    refine ⟨?_, ?_⟩
    · intro a1 a2 a3 a4 s Q hr h
      replace hr : uX11_mark_34 (qX11_mark n) s a1 a2 a3 a4 := hr
      replace h : Q (tX11_mark_34 (lX11_mark n) s a1 a2 a3 a4) s := h
      unfold uX11_mark_34 at hr
      unfold tX11_mark_34 at h
      refine bX11_mark_34 a1 a2 a3 a4 ?_
      refine ⟨fun c => ?_, fun c => ?_⟩
      · replace h := qlp c h
        first | exact h | contradiction
      · replace hr := hr c
        replace h := qln c h
        first | exact ih.2 a1 a2 a3 a4 (0 : Int32) _ Q hr h | contradiction
    · intro a1 a2 a3 a4 a5 s Q hr h
      replace hr : uX11_mark_49 (qX11_mark n) s a1 a2 a3 a4 a5 := hr
      replace h : Q (tX11_mark_49 (lX11_mark n) s a1 a2 a3 a4 a5) s := h
      unfold uX11_mark_49 at hr
      unfold tX11_mark_49 at h
      refine bX11_mark_49 a1 a2 a3 a4 a5 ?_
      refine ⟨fun c => ?_, fun c => ?_⟩
      · replace hr := hr.1 c
        replace h := qlp c h
        first | exact ih.1 a1 a2 a3 (a4 + 1) _ Q hr h | contradiction
      · replace hr := hr.2 c
        replace h := qln c h
        refine ⟨hr.1, ?_⟩
        replace hr := hr.2
        refine ⟨fun c => ?_, fun c => ?_⟩
        · replace hr := hr.1 c
          replace h := qln c h
          first | exact ih.2 a1 a2 a3 a4 (a5 + 1) _ Q hr h | contradiction
        · replace hr := hr.2 c
          replace h := qlp c h
          refine ⟨fun c => ?_, fun c => ?_⟩
          · replace hr := hr c
            replace h := qln c h
            first | exact ih.2 a1 a2 (a3 + 1) a4 (a5 + 1) _ Q hr h | contradiction
          · replace h := qlp c h
            first | exact h | contradiction
set_option maxRecDepth 1000000 in
theorem pX11_mark (a1 : Int32) (a2 : Int32) {s : SM} {Q : Int32 → SM → Prop} (hr : rX11_mark s a1 a2) (h : Q (vX11_mark s a1 a2) s) : KI MX11_mark 1 [.ref 2, .int a1, .int a2] s Q := by
  replace h : Q (fX11_mark s a1 a2) s := h
  unfold rX11_mark at hr
  unfold fX11_mark at h
  refine bX11_mark a1 a2 ?_
  refine ⟨fun c => ?_, fun c => ?_⟩
  · replace hr := hr c
    replace h := qln c h
    refine ⟨fun c => ?_, fun c => ?_⟩
    · replace hr := hr.1 c
      replace h := qln c h
      first | exact (gX11_mark  FU).1 a1 a2 (0 : Int32) (0 : Int32) _ Q hr h | contradiction
    · replace hr := hr.2 c
      replace h := qlp c h
      refine ⟨hr, ?_⟩
      first | exact h | contradiction
  · replace h := qlp c h
    first | exact h | contradiction
set_option maxRecDepth 1000000 in
theorem bX11_packed (a1 : Int32) {s : SM} {Q : Int32 → SM → Prop} (h : rX5_told s a1 ∧ Q (vX5_told s a1) s) : KI MX11_packed 1 [.ref 2, .int a1] s Q := by
  show BI MX11_packed 1 0 [(0, .ref 2), (1, .int a1)] s Q
  refine JT_aload_n (q := 0) dX11_packed_0 rfl rfl ?_
  refine JS_getR (x := 225) dX11_packed_1 flX11_72 BS_2 (Nat.le_of_ble_eq_true rfl) (Nat.le_of_ble_eq_true rfl) (Or.inl ⟨_, ct_11_10⟩) RF_2_10 ?_
  refine JT_iload_n (q := 1) dX11_packed_4 rfl rfl ?_
  obtain ⟨o1, h⟩ := h
  refine JS_callVI (M' := MX5_told) (d' := 0) (As := [.int a1]) (rest := []) (P := (fun zv9 wm9 => (vX5_told s a1) = zv9 ∧ s = wm9)) dX11_packed_5 cvX11_391 okX5_told rfl (Nat.le_of_ble_eq_true rfl) BS_225 (Nat.le_of_ble_eq_true rfl) (Nat.le_of_ble_eq_true rfl) hci_5 (Nat.le_of_ble_eq_true rfl) (Nat.le_of_ble_eq_true rfl) (pX5_told  (a1) o1 ⟨rfl, rfl⟩) (fun zv9 wm9 hq9 => ?_)
  obtain ⟨rfl, rfl⟩ := hq9
  exact JS_iret dX11_packed_8 rfl rfl h
set_option maxRecDepth 1000000 in
theorem pX11_packed (a1 : Int32) {s : SM} {Q : Int32 → SM → Prop} (hr : rX11_packed s a1) (h : Q (vX11_packed s a1) s) : KI MX11_packed 1 [.ref 2, .int a1] s Q := by
  refine bX11_packed a1 ?_
  unfold rX11_packed at hr
  unfold vX11_packed at h
  refine ⟨hr, ?_⟩
  first | exact h | contradiction
set_option maxRecDepth 1000000 in
theorem bX12_byteAt (a1 : Int32) {s : SM} {Q : Int32 → SM → Prop} (h : (((vX12_isIn (pI s 248 0 (0 : Int32)) a1 (0 : Int32) ((gI (pI s 248 0 (0 : Int32)) 248 35) - (1 : Int32))) = 0 → Q (-1 : Int32) (pI s 248 0 (0 : Int32))) ∧ (¬ (vX12_isIn (pI s 248 0 (0 : Int32)) a1 (0 : Int32) ((gI (pI s 248 0 (0 : Int32)) 248 35) - (1 : Int32))) = 0 → vp_in a1 3600 ∧ Q ((gI (pI s 248 0 (0 : Int32)) 262 (a1).toNatClampNeg) &&& (255 : Int32)) (pI s 248 0 (0 : Int32))))) : KI MX12_byteAt 1 [.ref 248, .int a1] s Q := by
  show BI MX12_byteAt 1 0 [(0, .ref 248), (1, .int a1)] s Q
  refine JT_aload_n (q := 0) dX12_byteAt_0 rfl rfl ?_
  refine JT_iconst (v := 0) dX12_byteAt_1 ic_0 ?_
  refine JS_putI dX12_byteAt_2 flX12_1 BS_248 (Nat.le_of_ble_eq_true rfl) (Nat.le_of_ble_eq_true rfl) ct_12_0 ?_
  refine JT_iload_n (q := 1) dX12_byteAt_5 rfl rfl ?_
  refine JT_iconst (v := 0) dX12_byteAt_6 ic_0 ?_
  refine JT_aload_n (q := 0) dX12_byteAt_7 rfl rfl ?_
  refine JS_getI dX12_byteAt_8 flX12_386 BS_248 (Nat.le_of_ble_eq_true rfl) (Nat.le_of_ble_eq_true rfl) (Or.inl ct_12_35) ?_
  refine JT_iconst (v := 1) dX12_byteAt_11 ic_1 ?_
  refine JT_isub dX12_byteAt_12 ?_
  refine JS_callSI (M' := MX12_isIn) (d' := 0) (As := [.int a1, .int (0 : Int32), .int ((gI (pI s 248 0 (0 : Int32)) 248 35) - (1 : Int32))]) (rest := []) (P := (fun zv9 wm9 => (vX12_isIn (pI s 248 0 (0 : Int32)) a1 (0 : Int32) ((gI (pI s 248 0 (0 : Int32)) 248 35) - (1 : Int32))) = zv9 ∧ (pI s 248 0 (0 : Int32)) = wm9)) dX12_byteAt_13 cvX12_202 okX12_isIn rfl (Nat.le_of_ble_eq_true rfl) (Nat.le_of_ble_eq_true rfl) (Nat.le_of_ble_eq_true rfl) (pX12_isIn  (a1) ((0 : Int32)) (((gI (pI s 248 0 (0 : Int32)) 248 35) - (1 : Int32)))  ⟨rfl, rfl⟩) (fun zv9 wm9 hq9 => ?_)
  obtain ⟨rfl, rfl⟩ := hq9
  refine JT_if_eq (tgt := 32) dX12_byteAt_16 (by decide) (fun hc2 => ?_) (fun hc2 => ?_)
  · have h := h.1 hc2
    refine JT_iconst (v := -1) dX12_byteAt_32 ic_m1 ?_
    exact JS_iret dX12_byteAt_33 rfl rfl h
  · have h := h.2 hc2
    refine JT_aload_n (q := 0) dX12_byteAt_19 rfl rfl ?_
    refine JS_getR (x := 262) dX12_byteAt_20 flX12_71 BS_248 (Nat.le_of_ble_eq_true rfl) (Nat.le_of_ble_eq_true rfl) (Or.inr ⟨_, ct_12_34⟩) RF_248_34 ?_
    refine JT_iload_n (q := 1) dX12_byteAt_23 rfl rfl ?_
    obtain ⟨o1, h⟩ := h
    refine JS_bald dX12_byteAt_24 BS_262 (Nat.le_of_ble_eq_true rfl) (Nat.le_of_ble_eq_true rfl) o1 ?_
    refine JT_sipush (v := 255) dX12_byteAt_25 sp_255 ?_
    refine JT_iand dX12_byteAt_28 ?_
    refine JT_goto (tgt := 33) dX12_byteAt_29 (by decide) ?_
    exact JS_iret dX12_byteAt_33 rfl rfl h
set_option maxRecDepth 1000000 in
theorem pX12_byteAt (a1 : Int32) {s : SM} {Q : Int32 → SM → Prop} (hr : rX12_byteAt s a1) (h : Q (vX12_byteAt s a1) (mX12_byteAt s a1)) : KI MX12_byteAt 1 [.ref 248, .int a1] s Q := by
  refine bX12_byteAt a1 ?_
  unfold rX12_byteAt at hr
  unfold vX12_byteAt mX12_byteAt at h
  refine ⟨fun c => ?_, fun c => ?_⟩
  · replace h := qlp c h
    first | exact h | contradiction
  · replace hr := hr c
    replace h := qln c h
    refine ⟨hr, ?_⟩
    first | exact h | contradiction
set_option maxRecDepth 1000000 in
theorem bX12_feed (a1 : Int32) (a2 : Int32) (a3 : Int32) (a4 : Int32) (a5 : Int32) {s : SM} {Q : Int32 → SM → Prop} (h : ((((gI (pI s 248 0 (0 : Int32)) 248 2) + (20 : Int32)) ≤ (640 : Int32) → rX12_four (pI s 248 0 (0 : Int32)) a1 ∧ rX12_four (mX12_four (pI s 248 0 (0 : Int32)) a1) a2 ∧ rX12_four (mX12_four (mX12_four (pI s 248 0 (0 : Int32)) a1) a2) a3 ∧ rX12_four (mX12_four (mX12_four (mX12_four (pI s 248 0 (0 : Int32)) a1) a2) a3) a4 ∧ rX12_four (mX12_four (mX12_four (mX12_four (mX12_four (pI s 248 0 (0 : Int32)) a1) a2) a3) a4) a5 ∧ Q (gI (mX12_four (mX12_four (mX12_four (mX12_four (mX12_four (pI s 248 0 (0 : Int32)) a1) a2) a3) a4) a5) 248 2) (mX12_four (mX12_four (mX12_four (mX12_four (mX12_four (pI s 248 0 (0 : Int32)) a1) a2) a3) a4) a5)) ∧ (¬ ((gI (pI s 248 0 (0 : Int32)) 248 2) + (20 : Int32)) ≤ (640 : Int32) → Q (-1 : Int32) (pI s 248 0 (0 : Int32))))) : KI MX12_feed 1 [.ref 248, .int a1, .int a2, .int a3, .int a4, .int a5] s Q := by
  show BI MX12_feed 1 0 [(0, .ref 248), (1, .int a1), (2, .int a2), (3, .int a3), (4, .int a4), (5, .int a5)] s Q
  refine JT_aload_n (q := 0) dX12_feed_0 rfl rfl ?_
  refine JT_iconst (v := 0) dX12_feed_1 ic_0 ?_
  refine JS_putI dX12_feed_2 flX12_1 BS_248 (Nat.le_of_ble_eq_true rfl) (Nat.le_of_ble_eq_true rfl) ct_12_0 ?_
  refine JT_aload_n (q := 0) dX12_feed_5 rfl rfl ?_
  refine JS_getI dX12_feed_6 flX12_7 BS_248 (Nat.le_of_ble_eq_true rfl) (Nat.le_of_ble_eq_true rfl) (Or.inl ct_12_2) ?_
  refine JT_bipush (v := 20) dX12_feed_9 bp_20 ?_
  refine JT_iadd dX12_feed_11 ?_
  refine JT_sipush (v := 640) dX12_feed_12 sp_640 ?_
  refine JT_icmp_le (tgt := 20) dX12_feed_15 (by decide) (fun hc6 => ?_) (fun hc6 => ?_)
  · have h := h.1 hc6
    refine JT_aload_n (q := 0) dX12_feed_20 rfl rfl ?_
    refine JT_iload_n (q := 1) dX12_feed_21 rfl rfl ?_
    obtain ⟨o5, h⟩ := h
    refine JS_callVV (M' := MX12_four) (d' := 0) (As := [.int a1]) (rest := []) (P := (fun wm9 => (mX12_four (pI s 248 0 (0 : Int32)) a1) = wm9)) dX12_feed_22 cvX12_10 okX12_four rfl (Nat.le_of_ble_eq_true rfl) BS_248 (Nat.le_of_ble_eq_true rfl) (Nat.le_of_ble_eq_true rfl) hci_12 (Nat.le_of_ble_eq_true rfl) (Nat.le_of_ble_eq_true rfl) (pX12_four  (a1) o5 rfl) (fun wm9 hq9 => ?_)
    subst hq9
    refine JT_aload_n (q := 0) dX12_feed_25 rfl rfl ?_
    refine JT_iload_n (q := 2) dX12_feed_26 rfl rfl ?_
    obtain ⟨o4, h⟩ := h
    refine JS_callVV (M' := MX12_four) (d' := 0) (As := [.int a2]) (rest := []) (P := (fun wm9 => (mX12_four (mX12_four (pI s 248 0 (0 : Int32)) a1) a2) = wm9)) dX12_feed_27 cvX12_10 okX12_four rfl (Nat.le_of_ble_eq_true rfl) BS_248 (Nat.le_of_ble_eq_true rfl) (Nat.le_of_ble_eq_true rfl) hci_12 (Nat.le_of_ble_eq_true rfl) (Nat.le_of_ble_eq_true rfl) (pX12_four  (a2) o4 rfl) (fun wm9 hq9 => ?_)
    subst hq9
    refine JT_aload_n (q := 0) dX12_feed_30 rfl rfl ?_
    refine JT_iload_n (q := 3) dX12_feed_31 rfl rfl ?_
    obtain ⟨o3, h⟩ := h
    refine JS_callVV (M' := MX12_four) (d' := 0) (As := [.int a3]) (rest := []) (P := (fun wm9 => (mX12_four (mX12_four (mX12_four (pI s 248 0 (0 : Int32)) a1) a2) a3) = wm9)) dX12_feed_32 cvX12_10 okX12_four rfl (Nat.le_of_ble_eq_true rfl) BS_248 (Nat.le_of_ble_eq_true rfl) (Nat.le_of_ble_eq_true rfl) hci_12 (Nat.le_of_ble_eq_true rfl) (Nat.le_of_ble_eq_true rfl) (pX12_four  (a3) o3 rfl) (fun wm9 hq9 => ?_)
    subst hq9
    refine JT_aload_n (q := 0) dX12_feed_35 rfl rfl ?_
    refine JT_iload (q := 4) dX12_feed_36 rfl ?_
    obtain ⟨o2, h⟩ := h
    refine JS_callVV (M' := MX12_four) (d' := 0) (As := [.int a4]) (rest := []) (P := (fun wm9 => (mX12_four (mX12_four (mX12_four (mX12_four (pI s 248 0 (0 : Int32)) a1) a2) a3) a4) = wm9)) dX12_feed_38 cvX12_10 okX12_four rfl (Nat.le_of_ble_eq_true rfl) BS_248 (Nat.le_of_ble_eq_true rfl) (Nat.le_of_ble_eq_true rfl) hci_12 (Nat.le_of_ble_eq_true rfl) (Nat.le_of_ble_eq_true rfl) (pX12_four  (a4) o2 rfl) (fun wm9 hq9 => ?_)
    subst hq9
    refine JT_aload_n (q := 0) dX12_feed_41 rfl rfl ?_
    refine JT_iload (q := 5) dX12_feed_42 rfl ?_
    obtain ⟨o1, h⟩ := h
    refine JS_callVV (M' := MX12_four) (d' := 0) (As := [.int a5]) (rest := []) (P := (fun wm9 => (mX12_four (mX12_four (mX12_four (mX12_four (mX12_four (pI s 248 0 (0 : Int32)) a1) a2) a3) a4) a5) = wm9)) dX12_feed_44 cvX12_10 okX12_four rfl (Nat.le_of_ble_eq_true rfl) BS_248 (Nat.le_of_ble_eq_true rfl) (Nat.le_of_ble_eq_true rfl) hci_12 (Nat.le_of_ble_eq_true rfl) (Nat.le_of_ble_eq_true rfl) (pX12_four  (a5) o1 rfl) (fun wm9 hq9 => ?_)
    subst hq9
    refine JT_aload_n (q := 0) dX12_feed_47 rfl rfl ?_
    refine JS_getI dX12_feed_48 flX12_7 BS_248 (Nat.le_of_ble_eq_true rfl) (Nat.le_of_ble_eq_true rfl) (Or.inl ct_12_2) ?_
    exact JS_iret dX12_feed_51 rfl rfl h
  · have h := h.2 hc6
    refine JT_iconst (v := -1) dX12_feed_18 ic_m1 ?_
    exact JS_iret dX12_feed_19 rfl rfl h
set_option maxRecDepth 1000000 in
theorem pX12_feed (a1 : Int32) (a2 : Int32) (a3 : Int32) (a4 : Int32) (a5 : Int32) {s : SM} {Q : Int32 → SM → Prop} (hr : rX12_feed s a1 a2 a3 a4 a5) (h : Q (vX12_feed s a1 a2 a3 a4 a5) (mX12_feed s a1 a2 a3 a4 a5)) : KI MX12_feed 1 [.ref 248, .int a1, .int a2, .int a3, .int a4, .int a5] s Q := by
  refine bX12_feed a1 a2 a3 a4 a5 ?_
  unfold rX12_feed at hr
  unfold vX12_feed mX12_feed at h
  refine ⟨fun c => ?_, fun c => ?_⟩
  · replace hr := hr c
    replace h := q2p c h
    refine ⟨hr.1, ?_⟩
    replace hr := hr.2
    refine ⟨hr.1, ?_⟩
    replace hr := hr.2
    refine ⟨hr.1, ?_⟩
    replace hr := hr.2
    refine ⟨hr.1, ?_⟩
    replace hr := hr.2
    refine ⟨hr, ?_⟩
    first | exact h | contradiction
  · replace h := q2n c h
    first | exact h | contradiction
set_option maxRecDepth 1000000 in
theorem bX12_fit (a1 : Int32) (a2 : Int32) {s : SM} {Q : Int32 → SM → Prop} (h : (((vX12_isIn (pI s 248 0 (0 : Int32)) a1 (0 : Int32) ((gI (pI s 248 0 (0 : Int32)) 248 53) - (1 : Int32))) = 0 → Q (-1 : Int32) (pI s 248 0 (0 : Int32))) ∧ (¬ (vX12_isIn (pI s 248 0 (0 : Int32)) a1 (0 : Int32) ((gI (pI s 248 0 (0 : Int32)) 248 53) - (1 : Int32))) = 0 → (((vX12_isIn (pI s 248 0 (0 : Int32)) a2 (0 : Int32) (1 : Int32)) = 0 → Q (-1 : Int32) (pI s 248 0 (0 : Int32))) ∧ (¬ (vX12_isIn (pI s 248 0 (0 : Int32)) a2 (0 : Int32) (1 : Int32)) = 0 → ((¬ a2 = 0 → vp_in a1 4 ∧ Q (gI (pI s 248 0 (0 : Int32)) 271 (a1).toNatClampNeg) (pI s 248 0 (0 : Int32))) ∧ (a2 = 0 → vp_in a1 4 ∧ Q (gI (pI s 248 0 (0 : Int32)) 270 (a1).toNatClampNeg) (pI s 248 0 (0 : Int32))))))))) : KI MX12_fit 1 [.ref 248, .int a1, .int a2] s Q := by
  show BI MX12_fit 1 0 [(0, .ref 248), (1, .int a1), (2, .int a2)] s Q
  refine JT_aload_n (q := 0) dX12_fit_0 rfl rfl ?_
  refine JT_iconst (v := 0) dX12_fit_1 ic_0 ?_
  refine JS_putI dX12_fit_2 flX12_1 BS_248 (Nat.le_of_ble_eq_true rfl) (Nat.le_of_ble_eq_true rfl) ct_12_0 ?_
  refine JT_iload_n (q := 1) dX12_fit_5 rfl rfl ?_
  refine JT_iconst (v := 0) dX12_fit_6 ic_0 ?_
  refine JT_aload_n (q := 0) dX12_fit_7 rfl rfl ?_
  refine JS_getI dX12_fit_8 flX12_439 BS_248 (Nat.le_of_ble_eq_true rfl) (Nat.le_of_ble_eq_true rfl) (Or.inl ct_12_53) ?_
  refine JT_iconst (v := 1) dX12_fit_11 ic_1 ?_
  refine JT_isub dX12_fit_12 ?_
  refine JS_callSI (M' := MX12_isIn) (d' := 0) (As := [.int a1, .int (0 : Int32), .int ((gI (pI s 248 0 (0 : Int32)) 248 53) - (1 : Int32))]) (rest := []) (P := (fun zv9 wm9 => (vX12_isIn (pI s 248 0 (0 : Int32)) a1 (0 : Int32) ((gI (pI s 248 0 (0 : Int32)) 248 53) - (1 : Int32))) = zv9 ∧ (pI s 248 0 (0 : Int32)) = wm9)) dX12_fit_13 cvX12_202 okX12_isIn rfl (Nat.le_of_ble_eq_true rfl) (Nat.le_of_ble_eq_true rfl) (Nat.le_of_ble_eq_true rfl) (pX12_isIn  (a1) ((0 : Int32)) (((gI (pI s 248 0 (0 : Int32)) 248 53) - (1 : Int32)))  ⟨rfl, rfl⟩) (fun zv9 wm9 hq9 => ?_)
  obtain ⟨rfl, rfl⟩ := hq9
  refine JT_if_eq (tgt := 50) dX12_fit_16 (by decide) (fun hc6 => ?_) (fun hc6 => ?_)
  · have h := h.1 hc6
    refine JT_iconst (v := -1) dX12_fit_50 ic_m1 ?_
    exact JS_iret dX12_fit_51 rfl rfl h
  · have h := h.2 hc6
    refine JT_iload_n (q := 2) dX12_fit_19 rfl rfl ?_
    refine JT_iconst (v := 0) dX12_fit_20 ic_0 ?_
    refine JT_iconst (v := 1) dX12_fit_21 ic_1 ?_
    refine JS_callSI (M' := MX12_isIn) (d' := 0) (As := [.int a2, .int (0 : Int32), .int (1 : Int32)]) (rest := []) (P := (fun zv9 wm9 => (vX12_isIn (pI s 248 0 (0 : Int32)) a2 (0 : Int32) (1 : Int32)) = zv9 ∧ (pI s 248 0 (0 : Int32)) = wm9)) dX12_fit_22 cvX12_202 okX12_isIn rfl (Nat.le_of_ble_eq_true rfl) (Nat.le_of_ble_eq_true rfl) (Nat.le_of_ble_eq_true rfl) (pX12_isIn  (a2) ((0 : Int32)) ((1 : Int32))  ⟨rfl, rfl⟩) (fun zv9 wm9 hq9 => ?_)
    obtain ⟨rfl, rfl⟩ := hq9
    refine JT_if_eq (tgt := 50) dX12_fit_25 (by decide) (fun hc4 => ?_) (fun hc4 => ?_)
    · have h := h.1 hc4
      refine JT_iconst (v := -1) dX12_fit_50 ic_m1 ?_
      exact JS_iret dX12_fit_51 rfl rfl h
    · have h := h.2 hc4
      refine JT_iload_n (q := 2) dX12_fit_28 rfl rfl ?_
      refine JT_if_ne (tgt := 41) dX12_fit_29 (by decide) (fun hc3 => ?_) (fun hc3 => ?_)
      · have h := h.1 hc3
        refine JT_aload_n (q := 0) dX12_fit_41 rfl rfl ?_
        refine JS_getR (x := 271) dX12_fit_42 flX12_104 BS_248 (Nat.le_of_ble_eq_true rfl) (Nat.le_of_ble_eq_true rfl) (Or.inr ⟨_, ct_12_49⟩) RF_248_49 ?_
        refine JT_iload_n (q := 1) dX12_fit_45 rfl rfl ?_
        obtain ⟨o1, h⟩ := h
        refine JS_iald dX12_fit_46 BS_271 (Nat.le_of_ble_eq_true rfl) (Nat.le_of_ble_eq_true rfl) o1 ?_
        refine JT_goto (tgt := 51) dX12_fit_47 (by decide) ?_
        exact JS_iret dX12_fit_51 rfl rfl h
      · have h := h.2 hc3
        refine JT_aload_n (q := 0) dX12_fit_32 rfl rfl ?_
        refine JS_getR (x := 270) dX12_fit_33 flX12_101 BS_248 (Nat.le_of_ble_eq_true rfl) (Nat.le_of_ble_eq_true rfl) (Or.inr ⟨_, ct_12_48⟩) RF_248_48 ?_
        refine JT_iload_n (q := 1) dX12_fit_36 rfl rfl ?_
        obtain ⟨o2, h⟩ := h
        refine JS_iald dX12_fit_37 BS_270 (Nat.le_of_ble_eq_true rfl) (Nat.le_of_ble_eq_true rfl) o2 ?_
        refine JT_goto (tgt := 51) dX12_fit_38 (by decide) ?_
        exact JS_iret dX12_fit_51 rfl rfl h
set_option maxRecDepth 1000000 in
theorem pX12_fit (a1 : Int32) (a2 : Int32) {s : SM} {Q : Int32 → SM → Prop} (hr : rX12_fit s a1 a2) (h : Q (vX12_fit s a1 a2) (mX12_fit s a1 a2)) : KI MX12_fit 1 [.ref 248, .int a1, .int a2] s Q := by
  refine bX12_fit a1 a2 ?_
  unfold rX12_fit at hr
  unfold vX12_fit mX12_fit at h
  refine ⟨fun c => ?_, fun c => ?_⟩
  · replace h := qlp c h
    first | exact h | contradiction
  · replace hr := hr c
    replace h := qln c h
    refine ⟨fun c => ?_, fun c => ?_⟩
    · replace h := qlp c h
      first | exact h | contradiction
    · replace hr := hr c
      replace h := qln c h
      refine ⟨fun c => ?_, fun c => ?_⟩
      · replace hr := hr.1 c
        replace h := qln c h
        refine ⟨hr, ?_⟩
        first | exact h | contradiction
      · replace hr := hr.2 c
        replace h := qlp c h
        refine ⟨hr, ?_⟩
        first | exact h | contradiction
set_option maxRecDepth 1000000 in
theorem bX12_image_18 (a1 : Int32) (a2 : Int32) {s : SM} {Q : Int32 → SM → Prop} (h : (((787 : Int32) ≤ a2 → vp_in (((788 : Int32) * a1) + (787 : Int32)) 1576 ∧ BI MX12_image 1 69 [(0, .ref 248), (1, .int a1), (2, .int (0 : Int32))] (pI s 275 ((((788 : Int32) * a1) + (787 : Int32))).toNatClampNeg (gI s 248 22)) Q) ∧ (¬ (787 : Int32) ≤ a2 → vp_in a2 787 ∧ vp_in (((788 : Int32) * a1) + a2) 1576 ∧ BI MX12_image 1 18 [(0, .ref 248), (1, .int a1), (2, .int (a2 + 1))] (pI s 275 ((((788 : Int32) * a1) + a2)).toNatClampNeg (gI s 250 (a2).toNatClampNeg)) Q))) : BI MX12_image 1 18 [(0, .ref 248), (1, .int a1), (2, .int a2)] s Q := by
  refine JT_iload_n (q := 2) dX12_image_18 rfl rfl ?_
  refine JT_sipush (v := 787) dX12_image_19 sp_787 ?_
  refine JT_icmp_ge (tgt := 49) dX12_image_22 (by decide) (fun hc4 => ?_) (fun hc4 => ?_)
  · have h := h.1 hc4
    refine JT_aload_n (q := 0) dX12_image_49 rfl rfl ?_
    refine JS_getR (x := 275) dX12_image_50 flX12_116 BS_248 (Nat.le_of_ble_eq_true rfl) (Nat.le_of_ble_eq_true rfl) (Or.inr ⟨_, ct_12_55⟩) RF_248_55 ?_
    refine JT_sipush (v := 788) dX12_image_53 sp_788 ?_
    refine JT_iload_n (q := 1) dX12_image_56 rfl rfl ?_
    refine JT_imul dX12_image_57 ?_
    refine JT_sipush (v := 787) dX12_image_58 sp_787 ?_
    refine JT_iadd dX12_image_61 ?_
    refine JT_aload_n (q := 0) dX12_image_62 rfl rfl ?_
    refine JS_getI dX12_image_63 flX12_256 BS_248 (Nat.le_of_ble_eq_true rfl) (Nat.le_of_ble_eq_true rfl) (Or.inl ct_12_22) ?_
    obtain ⟨o1, h⟩ := h
    refine JS_iast dX12_image_66 BS_275 (Nat.le_of_ble_eq_true rfl) (Nat.le_of_ble_eq_true rfl) o1 ?_
    refine JT_iconst (v := 0) dX12_image_67 ic_0 ?_
    refine JT_istore_n (lv' := [(2, .int (0 : Int32)), (0, .ref 248), (1, .int a1)]) dX12_image_68 rfl (Nat.le_of_ble_eq_true rfl) rfl ?_
    exact JT_sub [1, 2, 0] rfl h
  · have h := h.2 hc4
    refine JT_aload_n (q := 0) dX12_image_25 rfl rfl ?_
    refine JS_getR (x := 275) dX12_image_26 flX12_116 BS_248 (Nat.le_of_ble_eq_true rfl) (Nat.le_of_ble_eq_true rfl) (Or.inr ⟨_, ct_12_55⟩) RF_248_55 ?_
    refine JT_sipush (v := 788) dX12_image_29 sp_788 ?_
    refine JT_iload_n (q := 1) dX12_image_32 rfl rfl ?_
    refine JT_imul dX12_image_33 ?_
    refine JT_iload_n (q := 2) dX12_image_34 rfl rfl ?_
    refine JT_iadd dX12_image_35 ?_
    refine JT_aload_n (q := 0) dX12_image_36 rfl rfl ?_
    refine JS_getR (x := 250) dX12_image_37 flX12_33 BS_248 (Nat.le_of_ble_eq_true rfl) (Nat.le_of_ble_eq_true rfl) (Or.inr ⟨_, ct_12_6⟩) RF_248_6 ?_
    refine JT_iload_n (q := 2) dX12_image_40 rfl rfl ?_
    obtain ⟨o2, h⟩ := h
    refine JS_iald dX12_image_41 BS_250 (Nat.le_of_ble_eq_true rfl) (Nat.le_of_ble_eq_true rfl) o2 ?_
    obtain ⟨o3, h⟩ := h
    refine JS_iast dX12_image_42 BS_275 (Nat.le_of_ble_eq_true rfl) (Nat.le_of_ble_eq_true rfl) o3 ?_
    refine JT_iinc (q := 2) (v := (a2 + 1)) (lv' := [(2, .int (a2 + 1)), (0, .ref 248), (1, .int a1)]) dX12_image_43 rfl (by rfl) (Nat.le_of_ble_eq_true rfl) rfl ?_
    refine JT_goto (tgt := 18) dX12_image_46 (by decide) ?_
    exact JT_sub [1, 2, 0] rfl h
set_option maxRecDepth 1000000 in
theorem bX12_image_69 (a1 : Int32) (a2 : Int32) {s : SM} {Q : Int32 → SM → Prop} (h : (((15 : Int32) ≤ a2 → vp_in a1 2 ∧ Q (1 : Int32) (pI s 277 (a1).toNatClampNeg (vp_nar .boolean (1 : Int32)))) ∧ (¬ (15 : Int32) ≤ a2 → vp_in a2 30 ∧ vp_in (((15 : Int32) * a1) + a2) 30 ∧ BI MX12_image 1 69 [(0, .ref 248), (1, .int a1), (2, .int (a2 + 1))] (pL s 276 ((((15 : Int32) * a1) + a2)).toNatClampNeg (gL s 253 (a2).toNatClampNeg)) Q))) : BI MX12_image 1 69 [(0, .ref 248), (1, .int a1), (2, .int a2)] s Q := by
  refine JT_iload_n (q := 2) dX12_image_69 rfl rfl ?_
  refine JT_bipush (v := 15) dX12_image_70 bp_15 ?_
  refine JT_icmp_ge (tgt := 98) dX12_image_72 (by decide) (fun hc4 => ?_) (fun hc4 => ?_)
  · have h := h.1 hc4
    refine JT_aload_n (q := 0) dX12_image_98 rfl rfl ?_
    refine JS_getR (x := 277) dX12_image_99 flX12_122 BS_248 (Nat.le_of_ble_eq_true rfl) (Nat.le_of_ble_eq_true rfl) (Or.inr ⟨_, ct_12_57⟩) RF_248_57 ?_
    refine JT_iload_n (q := 1) dX12_image_102 rfl rfl ?_
    refine JT_iconst (v := 1) dX12_image_103 ic_1 ?_
    obtain ⟨o1, h⟩ := h
    refine JS_zast dX12_image_104 BS_277 (Nat.le_of_ble_eq_true rfl) (Nat.le_of_ble_eq_true rfl) o1 ?_
    refine JT_iconst (v := 1) dX12_image_105 ic_1 ?_
    exact JS_iret dX12_image_106 rfl (n01 (Or.inr rfl)) h
  · have h := h.2 hc4
    refine JT_aload_n (q := 0) dX12_image_75 rfl rfl ?_
    refine JS_getR (x := 276) dX12_image_76 flX12_119 BS_248 (Nat.le_of_ble_eq_true rfl) (Nat.le_of_ble_eq_true rfl) (Or.inr ⟨_, ct_12_56⟩) RF_248_56 ?_
    refine JT_bipush (v := 15) dX12_image_79 bp_15 ?_
    refine JT_iload_n (q := 1) dX12_image_81 rfl rfl ?_
    refine JT_imul dX12_image_82 ?_
    refine JT_iload_n (q := 2) dX12_image_83 rfl rfl ?_
    refine JT_iadd dX12_image_84 ?_
    refine JT_aload_n (q := 0) dX12_image_85 rfl rfl ?_
    refine JS_getR (x := 253) dX12_image_86 flX12_43 BS_248 (Nat.le_of_ble_eq_true rfl) (Nat.le_of_ble_eq_true rfl) (Or.inr ⟨_, ct_12_9⟩) RF_248_9 ?_
    refine JT_iload_n (q := 2) dX12_image_89 rfl rfl ?_
    obtain ⟨o2, h⟩ := h
    refine JS_lald dX12_image_90 BS_253 (Nat.le_of_ble_eq_true rfl) (Nat.le_of_ble_eq_true rfl) o2 ?_
    obtain ⟨o3, h⟩ := h
    refine JS_last dX12_image_91 BS_276 (Nat.le_of_ble_eq_true rfl) (Nat.le_of_ble_eq_true rfl) o3 ?_
    refine JT_iinc (q := 2) (v := (a2 + 1)) (lv' := [(2, .int (a2 + 1)), (0, .ref 248), (1, .int a1)]) dX12_image_92 rfl (by rfl) (Nat.le_of_ble_eq_true rfl) rfl ?_
    refine JT_goto (tgt := 69) dX12_image_95 (by decide) ?_
    exact JT_sub [1, 2, 0] rfl h
set_option maxRecDepth 1000000 in
theorem bX12_image (a1 : Int32) {s : SM} {Q : Int32 → SM → Prop} (h : ((¬ (vX12_isIn (pI s 248 0 (0 : Int32)) a1 (0 : Int32) (1 : Int32)) = 0 → BI MX12_image 1 18 [(0, .ref 248), (1, .int a1), (2, .int (0 : Int32))] (pI s 248 0 (0 : Int32)) Q) ∧ ((vX12_isIn (pI s 248 0 (0 : Int32)) a1 (0 : Int32) (1 : Int32)) = 0 → Q (0 : Int32) (pI s 248 0 (0 : Int32))))) : KI MX12_image 1 [.ref 248, .int a1] s Q := by
  show BI MX12_image 1 0 [(0, .ref 248), (1, .int a1)] s Q
  refine JT_aload_n (q := 0) dX12_image_0 rfl rfl ?_
  refine JT_iconst (v := 0) dX12_image_1 ic_0 ?_
  refine JS_putI dX12_image_2 flX12_1 BS_248 (Nat.le_of_ble_eq_true rfl) (Nat.le_of_ble_eq_true rfl) ct_12_0 ?_
  refine JT_iload_n (q := 1) dX12_image_5 rfl rfl ?_
  refine JT_iconst (v := 0) dX12_image_6 ic_0 ?_
  refine JT_iconst (v := 1) dX12_image_7 ic_1 ?_
  refine JS_callSI (M' := MX12_isIn) (d' := 0) (As := [.int a1, .int (0 : Int32), .int (1 : Int32)]) (rest := []) (P := (fun zv9 wm9 => (vX12_isIn (pI s 248 0 (0 : Int32)) a1 (0 : Int32) (1 : Int32)) = zv9 ∧ (pI s 248 0 (0 : Int32)) = wm9)) dX12_image_8 cvX12_202 okX12_isIn rfl (Nat.le_of_ble_eq_true rfl) (Nat.le_of_ble_eq_true rfl) (Nat.le_of_ble_eq_true rfl) (pX12_isIn  (a1) ((0 : Int32)) ((1 : Int32))  ⟨rfl, rfl⟩) (fun zv9 wm9 hq9 => ?_)
  obtain ⟨rfl, rfl⟩ := hq9
  refine JT_if_ne (tgt := 16) dX12_image_11 (by decide) (fun hc1 => ?_) (fun hc1 => ?_)
  · have h := h.1 hc1
    refine JT_iconst (v := 0) dX12_image_16 ic_0 ?_
    refine JT_istore_n (lv' := [(2, .int (0 : Int32)), (0, .ref 248), (1, .int a1)]) dX12_image_17 rfl (Nat.le_of_ble_eq_true rfl) rfl ?_
    exact JT_sub [1, 2, 0] rfl h
  · have h := h.2 hc1
    refine JT_iconst (v := 0) dX12_image_14 ic_0 ?_
    exact JS_iret dX12_image_15 rfl (n01 (Or.inl rfl)) h
set_option maxRecDepth 1000000 in
theorem gX12_image  : ∀ n : Nat, (∀ (a1 : Int32) (a2 : Int32) (s : SM) (Q : Int32 → SM → Prop), ((qX12_image n).1 s a1 a2) → Q ((lX12_image n).1 s a1 a2).1 ((lX12_image n).1 s a1 a2).2 → BI MX12_image 1 18 [(0, .ref 248), (1, .int a1), (2, .int a2)] s Q) ∧ (∀ (a1 : Int32) (a2 : Int32) (s : SM) (Q : Int32 → SM → Prop), ((qX12_image n).2 s a1 a2) → Q ((lX12_image n).2 s a1 a2).1 ((lX12_image n).2 s a1 a2).2 → BI MX12_image 1 69 [(0, .ref 248), (1, .int a1), (2, .int a2)] s Q) := by
  intro n
  induction n with
  | zero => exact ⟨fun _ _ _ _ hq _ => absurd hq id, fun _ _ _ _ hq _ => absurd hq id⟩
  | succ n ih =>
    refine ⟨?_, ?_⟩
    · intro a1 a2 s Q hr h
      replace hr : uX12_image_18 (qX12_image n) s a1 a2 := hr
      replace h : Q (tX12_image_18 (lX12_image n) s a1 a2).1 (tX12_image_18 (lX12_image n) s a1 a2).2 := h
      unfold uX12_image_18 at hr
      unfold tX12_image_18 at h
      refine bX12_image_18 a1 a2 ?_
      refine ⟨fun c => ?_, fun c => ?_⟩
      · replace hr := hr.1 c
        replace h := q3p c h
        refine ⟨hr.1, ?_⟩
        replace hr := hr.2
        first | exact ih.2 a1 (0 : Int32) _ Q hr h | contradiction
      · replace hr := hr.2 c
        replace h := q3n c h
        refine ⟨hr.1, ?_⟩
        replace hr := hr.2
        refine ⟨hr.1, ?_⟩
        replace hr := hr.2
        first | exact ih.1 a1 (a2 + 1) _ Q hr h | contradiction
    · intro a1 a2 s Q hr h
      replace hr : uX12_image_69 (qX12_image n) s a1 a2 := hr
      replace h : Q (tX12_image_69 (lX12_image n) s a1 a2).1 (tX12_image_69 (lX12_image n) s a1 a2).2 := h
      unfold uX12_image_69 at hr
      unfold tX12_image_69 at h
      refine bX12_image_69 a1 a2 ?_
      refine ⟨fun c => ?_, fun c => ?_⟩
      · replace hr := hr.1 c
        replace h := q3p c h
        refine ⟨hr, ?_⟩
        first | exact h | contradiction
      · replace hr := hr.2 c
        replace h := q3n c h
        refine ⟨hr.1, ?_⟩
        replace hr := hr.2
        refine ⟨hr.1, ?_⟩
        replace hr := hr.2
        first | exact ih.2 a1 (a2 + 1) _ Q hr h | contradiction
set_option maxRecDepth 1000000 in
theorem pX12_image (a1 : Int32) {s : SM} {Q : Int32 → SM → Prop} (hr : rX12_image s a1) (h : Q (vX12_image s a1) (mX12_image s a1)) : KI MX12_image 1 [.ref 248, .int a1] s Q := by
  replace h : Q (fX12_image s a1).1 (fX12_image s a1).2 := h
  unfold rX12_image at hr
  unfold fX12_image at h
  refine bX12_image a1 ?_
  refine ⟨fun c => ?_, fun c => ?_⟩
  · replace hr := hr c
    replace h := q3n c h
    first | exact (gX12_image  FU).1 a1 (0 : Int32) _ Q hr h | contradiction
  · replace h := q3p c h
    first | exact h | contradiction
set_option maxRecDepth 1000000 in
theorem bX12_isBody (a1 : Int32) {s : SM} {Q : Int32 → SM → Prop} (h : Q (vX12_isIn s a1 (0 : Int32) ((gI s 250 ((0 : Int32)).toNatClampNeg) - (1 : Int32))) s) : KI MX12_isBody 1 [.ref 248, .int a1] s Q := by
  show BI MX12_isBody 1 0 [(0, .ref 248), (1, .int a1)] s Q
  refine JT_iload_n (q := 1) dX12_isBody_0 rfl rfl ?_
  refine JT_iconst (v := 0) dX12_isBody_1 ic_0 ?_
  refine JT_aload_n (q := 0) dX12_isBody_2 rfl rfl ?_
  refine JS_getR (x := 250) dX12_isBody_3 flX12_33 BS_248 (Nat.le_of_ble_eq_true rfl) (Nat.le_of_ble_eq_true rfl) (Or.inr ⟨_, ct_12_6⟩) RF_248_6 ?_
  refine JT_iconst (v := 0) dX12_isBody_6 ic_0 ?_
  refine JS_iald dX12_isBody_7 BS_250 (Nat.le_of_ble_eq_true rfl) (Nat.le_of_ble_eq_true rfl) (by unfold vp_in; decide) ?_
  refine JT_iconst (v := 1) dX12_isBody_8 ic_1 ?_
  refine JT_isub dX12_isBody_9 ?_
  refine JS_callSI (M' := MX12_isIn) (d' := 0) (As := [.int a1, .int (0 : Int32), .int ((gI s 250 ((0 : Int32)).toNatClampNeg) - (1 : Int32))]) (rest := []) (P := (fun zv9 wm9 => (vX12_isIn s a1 (0 : Int32) ((gI s 250 ((0 : Int32)).toNatClampNeg) - (1 : Int32))) = zv9 ∧ s = wm9)) dX12_isBody_10 cvX12_202 okX12_isIn rfl (Nat.le_of_ble_eq_true rfl) (Nat.le_of_ble_eq_true rfl) (Nat.le_of_ble_eq_true rfl) (pX12_isIn  (a1) ((0 : Int32)) (((gI s 250 ((0 : Int32)).toNatClampNeg) - (1 : Int32)))  ⟨rfl, rfl⟩) (fun zv9 wm9 hq9 => ?_)
  obtain ⟨rfl, rfl⟩ := hq9
  exact JS_iret dX12_isBody_13 rfl (n01 (zX12_isIn s a1 (0 : Int32) ((gI s 250 ((0 : Int32)).toNatClampNeg) - (1 : Int32)))) h
set_option maxRecDepth 1000000 in
theorem zX12_isBody (s : SM) (a1 : Int32) : vX12_isBody s a1 = 0 ∨ vX12_isBody s a1 = 1 := (zX12_isIn s a1 (0 : Int32) ((gI s 250 ((0 : Int32)).toNatClampNeg) - (1 : Int32)))
set_option maxRecDepth 1000000 in
theorem pX12_isBody (a1 : Int32) {s : SM} {Q : Int32 → SM → Prop} (h : Q (vX12_isBody s a1) s) : KI MX12_isBody 1 [.ref 248, .int a1] s Q := by
  refine bX12_isBody a1 ?_
  unfold vX12_isBody at h
  first | exact h | contradiction
set_option maxRecDepth 1000000 in
theorem bX12_isDeal (a1 : Int32) {s : SM} {Q : Int32 → SM → Prop} (h : Q (vX12_isIn s a1 (0 : Int32) ((gI s 250 ((34 : Int32)).toNatClampNeg) - (1 : Int32))) s) : KI MX12_isDeal 1 [.ref 248, .int a1] s Q := by
  show BI MX12_isDeal 1 0 [(0, .ref 248), (1, .int a1)] s Q
  refine JT_iload_n (q := 1) dX12_isDeal_0 rfl rfl ?_
  refine JT_iconst (v := 0) dX12_isDeal_1 ic_0 ?_
  refine JT_aload_n (q := 0) dX12_isDeal_2 rfl rfl ?_
  refine JS_getR (x := 250) dX12_isDeal_3 flX12_33 BS_248 (Nat.le_of_ble_eq_true rfl) (Nat.le_of_ble_eq_true rfl) (Or.inr ⟨_, ct_12_6⟩) RF_248_6 ?_
  refine JT_bipush (v := 34) dX12_isDeal_6 bp_34 ?_
  refine JS_iald dX12_isDeal_8 BS_250 (Nat.le_of_ble_eq_true rfl) (Nat.le_of_ble_eq_true rfl) (by unfold vp_in; decide) ?_
  refine JT_iconst (v := 1) dX12_isDeal_9 ic_1 ?_
  refine JT_isub dX12_isDeal_10 ?_
  refine JS_callSI (M' := MX12_isIn) (d' := 0) (As := [.int a1, .int (0 : Int32), .int ((gI s 250 ((34 : Int32)).toNatClampNeg) - (1 : Int32))]) (rest := []) (P := (fun zv9 wm9 => (vX12_isIn s a1 (0 : Int32) ((gI s 250 ((34 : Int32)).toNatClampNeg) - (1 : Int32))) = zv9 ∧ s = wm9)) dX12_isDeal_11 cvX12_202 okX12_isIn rfl (Nat.le_of_ble_eq_true rfl) (Nat.le_of_ble_eq_true rfl) (Nat.le_of_ble_eq_true rfl) (pX12_isIn  (a1) ((0 : Int32)) (((gI s 250 ((34 : Int32)).toNatClampNeg) - (1 : Int32)))  ⟨rfl, rfl⟩) (fun zv9 wm9 hq9 => ?_)
  obtain ⟨rfl, rfl⟩ := hq9
  exact JS_iret dX12_isDeal_14 rfl (n01 (zX12_isIn s a1 (0 : Int32) ((gI s 250 ((34 : Int32)).toNatClampNeg) - (1 : Int32)))) h
set_option maxRecDepth 1000000 in
theorem zX12_isDeal (s : SM) (a1 : Int32) : vX12_isDeal s a1 = 0 ∨ vX12_isDeal s a1 = 1 := (zX12_isIn s a1 (0 : Int32) ((gI s 250 ((34 : Int32)).toNatClampNeg) - (1 : Int32)))
set_option maxRecDepth 1000000 in
theorem pX12_isDeal (a1 : Int32) {s : SM} {Q : Int32 → SM → Prop} (h : Q (vX12_isDeal s a1) s) : KI MX12_isDeal 1 [.ref 248, .int a1] s Q := by
  refine bX12_isDeal a1 ?_
  unfold vX12_isDeal at h
  first | exact h | contradiction
set_option maxRecDepth 1000000 in
theorem bX12_isFound (a1 : Int32) {s : SM} {Q : Int32 → SM → Prop} (h : Q (vX12_isIn s a1 (0 : Int32) (((1 : Int32) <<< ((gI s 250 ((0 : Int32)).toNatClampNeg) &&& 31)) - (1 : Int32))) s) : KI MX12_isFound 1 [.ref 248, .int a1] s Q := by
  show BI MX12_isFound 1 0 [(0, .ref 248), (1, .int a1)] s Q
  refine JT_iload_n (q := 1) dX12_isFound_0 rfl rfl ?_
  refine JT_iconst (v := 0) dX12_isFound_1 ic_0 ?_
  refine JT_iconst (v := 1) dX12_isFound_2 ic_1 ?_
  refine JT_aload_n (q := 0) dX12_isFound_3 rfl rfl ?_
  refine JS_getR (x := 250) dX12_isFound_4 flX12_33 BS_248 (Nat.le_of_ble_eq_true rfl) (Nat.le_of_ble_eq_true rfl) (Or.inr ⟨_, ct_12_6⟩) RF_248_6 ?_
  refine JT_iconst (v := 0) dX12_isFound_7 ic_0 ?_
  refine JS_iald dX12_isFound_8 BS_250 (Nat.le_of_ble_eq_true rfl) (Nat.le_of_ble_eq_true rfl) (by unfold vp_in; decide) ?_
  refine JT_ishl dX12_isFound_9 ?_
  refine JT_iconst (v := 1) dX12_isFound_10 ic_1 ?_
  refine JT_isub dX12_isFound_11 ?_
  refine JS_callSI (M' := MX12_isIn) (d' := 0) (As := [.int a1, .int (0 : Int32), .int (((1 : Int32) <<< ((gI s 250 ((0 : Int32)).toNatClampNeg) &&& 31)) - (1 : Int32))]) (rest := []) (P := (fun zv9 wm9 => (vX12_isIn s a1 (0 : Int32) (((1 : Int32) <<< ((gI s 250 ((0 : Int32)).toNatClampNeg) &&& 31)) - (1 : Int32))) = zv9 ∧ s = wm9)) dX12_isFound_12 cvX12_202 okX12_isIn rfl (Nat.le_of_ble_eq_true rfl) (Nat.le_of_ble_eq_true rfl) (Nat.le_of_ble_eq_true rfl) (pX12_isIn  (a1) ((0 : Int32)) ((((1 : Int32) <<< ((gI s 250 ((0 : Int32)).toNatClampNeg) &&& 31)) - (1 : Int32)))  ⟨rfl, rfl⟩) (fun zv9 wm9 hq9 => ?_)
  obtain ⟨rfl, rfl⟩ := hq9
  exact JS_iret dX12_isFound_15 rfl (n01 (zX12_isIn s a1 (0 : Int32) (((1 : Int32) <<< ((gI s 250 ((0 : Int32)).toNatClampNeg) &&& 31)) - (1 : Int32)))) h
set_option maxRecDepth 1000000 in
theorem zX12_isFound (s : SM) (a1 : Int32) : vX12_isFound s a1 = 0 ∨ vX12_isFound s a1 = 1 := (zX12_isIn s a1 (0 : Int32) (((1 : Int32) <<< ((gI s 250 ((0 : Int32)).toNatClampNeg) &&& 31)) - (1 : Int32)))
set_option maxRecDepth 1000000 in
theorem pX12_isFound (a1 : Int32) {s : SM} {Q : Int32 → SM → Prop} (h : Q (vX12_isFound s a1) s) : KI MX12_isFound 1 [.ref 248, .int a1] s Q := by
  refine bX12_isFound a1 ?_
  unfold vX12_isFound at h
  first | exact h | contradiction
set_option maxRecDepth 1000000 in
theorem bX12_isKind (a1 : Int32) {s : SM} {Q : Int32 → SM → Prop} (h : Q (vX12_isIn s a1 (0 : Int32) ((gI s 250 ((1 : Int32)).toNatClampNeg) - (1 : Int32))) s) : KI MX12_isKind 1 [.ref 248, .int a1] s Q := by
  show BI MX12_isKind 1 0 [(0, .ref 248), (1, .int a1)] s Q
  refine JT_iload_n (q := 1) dX12_isKind_0 rfl rfl ?_
  refine JT_iconst (v := 0) dX12_isKind_1 ic_0 ?_
  refine JT_aload_n (q := 0) dX12_isKind_2 rfl rfl ?_
  refine JS_getR (x := 250) dX12_isKind_3 flX12_33 BS_248 (Nat.le_of_ble_eq_true rfl) (Nat.le_of_ble_eq_true rfl) (Or.inr ⟨_, ct_12_6⟩) RF_248_6 ?_
  refine JT_iconst (v := 1) dX12_isKind_6 ic_1 ?_
  refine JS_iald dX12_isKind_7 BS_250 (Nat.le_of_ble_eq_true rfl) (Nat.le_of_ble_eq_true rfl) (by unfold vp_in; decide) ?_
  refine JT_iconst (v := 1) dX12_isKind_8 ic_1 ?_
  refine JT_isub dX12_isKind_9 ?_
  refine JS_callSI (M' := MX12_isIn) (d' := 0) (As := [.int a1, .int (0 : Int32), .int ((gI s 250 ((1 : Int32)).toNatClampNeg) - (1 : Int32))]) (rest := []) (P := (fun zv9 wm9 => (vX12_isIn s a1 (0 : Int32) ((gI s 250 ((1 : Int32)).toNatClampNeg) - (1 : Int32))) = zv9 ∧ s = wm9)) dX12_isKind_10 cvX12_202 okX12_isIn rfl (Nat.le_of_ble_eq_true rfl) (Nat.le_of_ble_eq_true rfl) (Nat.le_of_ble_eq_true rfl) (pX12_isIn  (a1) ((0 : Int32)) (((gI s 250 ((1 : Int32)).toNatClampNeg) - (1 : Int32)))  ⟨rfl, rfl⟩) (fun zv9 wm9 hq9 => ?_)
  obtain ⟨rfl, rfl⟩ := hq9
  exact JS_iret dX12_isKind_13 rfl (n01 (zX12_isIn s a1 (0 : Int32) ((gI s 250 ((1 : Int32)).toNatClampNeg) - (1 : Int32)))) h
set_option maxRecDepth 1000000 in
theorem zX12_isKind (s : SM) (a1 : Int32) : vX12_isKind s a1 = 0 ∨ vX12_isKind s a1 = 1 := (zX12_isIn s a1 (0 : Int32) ((gI s 250 ((1 : Int32)).toNatClampNeg) - (1 : Int32)))
set_option maxRecDepth 1000000 in
theorem pX12_isKind (a1 : Int32) {s : SM} {Q : Int32 → SM → Prop} (h : Q (vX12_isKind s a1) s) : KI MX12_isKind 1 [.ref 248, .int a1] s Q := by
  refine bX12_isKind a1 ?_
  unfold vX12_isKind at h
  first | exact h | contradiction
set_option maxRecDepth 1000000 in
theorem bX12_isLiving (a1 : Int32) {s : SM} {Q : Int32 → SM → Prop} (h : Q (if (vX12_has s (gI s 250 ((36 : Int32)).toNatClampNeg) a1) = 0 then (1 : Int32) else (0 : Int32)) s) : KI MX12_isLiving 1 [.ref 248, .int a1] s Q := by
  show BI MX12_isLiving 1 0 [(0, .ref 248), (1, .int a1)] s Q
  refine JT_aload_n (q := 0) dX12_isLiving_0 rfl rfl ?_
  refine JS_getR (x := 250) dX12_isLiving_1 flX12_33 BS_248 (Nat.le_of_ble_eq_true rfl) (Nat.le_of_ble_eq_true rfl) (Or.inr ⟨_, ct_12_6⟩) RF_248_6 ?_
  refine JT_bipush (v := 36) dX12_isLiving_4 bp_36 ?_
  refine JS_iald dX12_isLiving_6 BS_250 (Nat.le_of_ble_eq_true rfl) (Nat.le_of_ble_eq_true rfl) (by unfold vp_in; decide) ?_
  refine JT_iload_n (q := 1) dX12_isLiving_7 rfl rfl ?_
  refine JS_callSI (M' := MX12_has) (d' := 0) (As := [.int (gI s 250 ((36 : Int32)).toNatClampNeg), .int a1]) (rest := []) (P := (fun zv9 wm9 => (vX12_has s (gI s 250 ((36 : Int32)).toNatClampNeg) a1) = zv9 ∧ s = wm9)) dX12_isLiving_8 cvX12_259 okX12_has rfl (Nat.le_of_ble_eq_true rfl) (Nat.le_of_ble_eq_true rfl) (Nat.le_of_ble_eq_true rfl) (pX12_has  ((gI s 250 ((36 : Int32)).toNatClampNeg)) (a1)  ⟨rfl, rfl⟩) (fun zv9 wm9 hq9 => ?_)
  obtain ⟨rfl, rfl⟩ := hq9
  have hj1 : ∀ v : Int32, v = (if (vX12_has s (gI s 250 ((36 : Int32)).toNatClampNeg) a1) = 0 then (1 : Int32) else (0 : Int32)) → JT MX12_isLiving 1 0 0 19 [(0, .ref 248), (1, .int a1)] [.int v] (std s) (KQ Q) := by
    intro v hv
    subst hv
    exact JS_iret dX12_isLiving_19 rfl (n01 (i01 (Or.inr rfl) (Or.inl rfl))) h
  refine JT_if_ne (tgt := 18) dX12_isLiving_11 (by decide) (fun hc2 => ?_) (fun hc2 => ?_)
  · refine JT_iconst (v := 0) dX12_isLiving_18 ic_0 ?_
    exact hj1 _ (by rw [if_neg hc2])
  · refine JT_iconst (v := 1) dX12_isLiving_14 ic_1 ?_
    refine JT_goto (tgt := 19) dX12_isLiving_15 (by decide) ?_
    exact hj1 _ (by rw [if_pos hc2])
set_option maxRecDepth 1000000 in
theorem zX12_isLiving (s : SM) (a1 : Int32) : vX12_isLiving s a1 = 0 ∨ vX12_isLiving s a1 = 1 := (i01 (Or.inr rfl) (Or.inl rfl))
set_option maxRecDepth 1000000 in
theorem pX12_isLiving (a1 : Int32) {s : SM} {Q : Int32 → SM → Prop} (h : Q (vX12_isLiving s a1) s) : KI MX12_isLiving 1 [.ref 248, .int a1] s Q := by
  refine bX12_isLiving a1 ?_
  unfold vX12_isLiving at h
  first | exact h | contradiction
set_option maxRecDepth 1000000 in
theorem bX12_isRead (a1 : Int32) (a2 : Int32) (a3 : Int32) {s : SM} {Q : Int32 → SM → Prop} (h : rX12_of s a1 ((6 : Int32) + a2) ∧ (((vX12_of s a1 ((6 : Int32) + a2)) < 0 → Q (0 : Int32) s) ∧ (¬ (vX12_of s a1 ((6 : Int32) + a2)) < 0 → rX12_of s a1 (8 : Int32) ∧ ((¬ (vX12_has s (vX12_of s a1 (8 : Int32)) a2) = 0 → Q (0 : Int32) s) ∧ ((vX12_has s (vX12_of s a1 (8 : Int32)) a2) = 0 → Q (if (vX12_has s a3 (vX12_of s a1 ((6 : Int32) + a2))) = 0 then (0 : Int32) else (1 : Int32)) s))))) : KI MX12_isRead 1 [.ref 248, .int a1, .int a2, .int a3] s Q := by
  show BI MX12_isRead 1 0 [(0, .ref 248), (1, .int a1), (2, .int a2), (3, .int a3)] s Q
  refine JT_aload_n (q := 0) dX12_isRead_0 rfl rfl ?_
  refine JT_iload_n (q := 1) dX12_isRead_1 rfl rfl ?_
  refine JT_bipush (v := 6) dX12_isRead_2 bp_6 ?_
  refine JT_iload_n (q := 2) dX12_isRead_4 rfl rfl ?_
  refine JT_iadd dX12_isRead_5 ?_
  obtain ⟨o8, h⟩ := h
  refine JS_callVI (M' := MX12_of) (d' := 0) (As := [.int a1, .int ((6 : Int32) + a2)]) (rest := []) (P := (fun zv9 wm9 => (vX12_of s a1 ((6 : Int32) + a2)) = zv9 ∧ s = wm9)) dX12_isRead_6 cvX12_265 okX12_of rfl (Nat.le_of_ble_eq_true rfl) BS_248 (Nat.le_of_ble_eq_true rfl) (Nat.le_of_ble_eq_true rfl) hci_12 (Nat.le_of_ble_eq_true rfl) (Nat.le_of_ble_eq_true rfl) (pX12_of  (a1) (((6 : Int32) + a2)) o8 ⟨rfl, rfl⟩) (fun zv9 wm9 hq9 => ?_)
  obtain ⟨rfl, rfl⟩ := hq9
  refine JT_istore (lv' := [(4, .int (vX12_of s a1 ((6 : Int32) + a2))), (0, .ref 248), (1, .int a1), (2, .int a2), (3, .int a3)]) dX12_isRead_9 (Nat.le_of_ble_eq_true rfl) rfl ?_
  refine JT_iload (q := 0) dX12_isRead_11 rfl ?_
  refine JT_if_lt (tgt := 43) dX12_isRead_13 (by decide) (fun hc7 => ?_) (fun hc7 => ?_)
  · have h := h.1 hc7
    refine JT_iconst (v := 0) dX12_isRead_43 ic_0 ?_
    exact JS_iret dX12_isRead_44 rfl (n01 (Or.inl rfl)) h
  · have h := h.2 hc7
    refine JT_aload_n (q := 1) dX12_isRead_16 rfl rfl ?_
    refine JT_iload_n (q := 2) dX12_isRead_17 rfl rfl ?_
    refine JT_bipush (v := 8) dX12_isRead_18 bp_8 ?_
    obtain ⟨o6, h⟩ := h
    refine JS_callVI (M' := MX12_of) (d' := 0) (As := [.int a1, .int (8 : Int32)]) (rest := []) (P := (fun zv9 wm9 => (vX12_of s a1 (8 : Int32)) = zv9 ∧ s = wm9)) dX12_isRead_20 cvX12_265 okX12_of rfl (Nat.le_of_ble_eq_true rfl) BS_248 (Nat.le_of_ble_eq_true rfl) (Nat.le_of_ble_eq_true rfl) hci_12 (Nat.le_of_ble_eq_true rfl) (Nat.le_of_ble_eq_true rfl) (pX12_of  (a1) ((8 : Int32)) o6 ⟨rfl, rfl⟩) (fun zv9 wm9 hq9 => ?_)
    obtain ⟨rfl, rfl⟩ := hq9
    refine JT_iload_n (q := 3) dX12_isRead_23 rfl rfl ?_
    refine JS_callSI (M' := MX12_has) (d' := 0) (As := [.int (vX12_of s a1 (8 : Int32)), .int a2]) (rest := []) (P := (fun zv9 wm9 => (vX12_has s (vX12_of s a1 (8 : Int32)) a2) = zv9 ∧ s = wm9)) dX12_isRead_24 cvX12_259 okX12_has rfl (Nat.le_of_ble_eq_true rfl) (Nat.le_of_ble_eq_true rfl) (Nat.le_of_ble_eq_true rfl) (pX12_has  ((vX12_of s a1 (8 : Int32))) (a2)  ⟨rfl, rfl⟩) (fun zv9 wm9 hq9 => ?_)
    obtain ⟨rfl, rfl⟩ := hq9
    refine JT_if_ne (tgt := 43) dX12_isRead_27 (by decide) (fun hc4 => ?_) (fun hc4 => ?_)
    · have h := h.1 hc4
      refine JT_iconst (v := 0) dX12_isRead_43 ic_0 ?_
      exact JS_iret dX12_isRead_44 rfl (n01 (Or.inl rfl)) h
    · have h := h.2 hc4
      refine JT_iload_n (q := 4) dX12_isRead_30 rfl rfl ?_
      refine JT_iload (q := 0) dX12_isRead_31 rfl ?_
      refine JS_callSI (M' := MX12_has) (d' := 0) (As := [.int a3, .int (vX12_of s a1 ((6 : Int32) + a2))]) (rest := []) (P := (fun zv9 wm9 => (vX12_has s a3 (vX12_of s a1 ((6 : Int32) + a2))) = zv9 ∧ s = wm9)) dX12_isRead_33 cvX12_259 okX12_has rfl (Nat.le_of_ble_eq_true rfl) (Nat.le_of_ble_eq_true rfl) (Nat.le_of_ble_eq_true rfl) (pX12_has  (a3) ((vX12_of s a1 ((6 : Int32) + a2)))  ⟨rfl, rfl⟩) (fun zv9 wm9 hq9 => ?_)
      obtain ⟨rfl, rfl⟩ := hq9
      have hj1 : ∀ v : Int32, v = (if (vX12_has s a3 (vX12_of s a1 ((6 : Int32) + a2))) = 0 then (0 : Int32) else (1 : Int32)) → JT MX12_isRead 1 0 0 44 [(4, .int (vX12_of s a1 ((6 : Int32) + a2))), (0, .ref 248), (1, .int a1), (2, .int a2), (3, .int a3)] [.int v] (std s) (KQ Q) := by
        intro v hv
        subst hv
        exact JS_iret dX12_isRead_44 rfl (n01 (i01 (Or.inl rfl) (Or.inr rfl))) h
      refine JT_if_eq (tgt := 43) dX12_isRead_36 (by decide) (fun hc2 => ?_) (fun hc2 => ?_)
      · refine JT_iconst (v := 0) dX12_isRead_43 ic_0 ?_
        exact hj1 _ (by rw [if_pos hc2])
      · refine JT_iconst (v := 1) dX12_isRead_39 ic_1 ?_
        refine JT_goto (tgt := 44) dX12_isRead_40 (by decide) ?_
        exact hj1 _ (by rw [if_neg hc2])
set_option maxRecDepth 1000000 in
theorem zX12_isRead (s : SM) (a1 : Int32) (a2 : Int32) (a3 : Int32) : vX12_isRead s a1 a2 a3 = 0 ∨ vX12_isRead s a1 a2 a3 = 1 := (i01 (Or.inl rfl) (i01 (i01 (Or.inl rfl) (Or.inr rfl)) (Or.inl rfl)))
set_option maxRecDepth 1000000 in
theorem pX12_isRead (a1 : Int32) (a2 : Int32) (a3 : Int32) {s : SM} {Q : Int32 → SM → Prop} (hr : rX12_isRead s a1 a2 a3) (h : Q (vX12_isRead s a1 a2 a3) s) : KI MX12_isRead 1 [.ref 248, .int a1, .int a2, .int a3] s Q := by
  refine bX12_isRead a1 a2 a3 ?_
  unfold rX12_isRead at hr
  unfold vX12_isRead at h
  refine ⟨hr.1, ?_⟩
  replace hr := hr.2
  refine ⟨fun c => ?_, fun c => ?_⟩
  · replace h := qlp c h
    first | exact h | contradiction
  · replace hr := hr c
    replace h := qln c h
    refine ⟨hr, ?_⟩
    refine ⟨fun c => ?_, fun c => ?_⟩
    · replace h := qln c h
      first | exact h | contradiction
    · replace h := qlp c h
      first | exact h | contradiction
set_option maxRecDepth 1000000 in
theorem bX12_judged (a1 : Int32) {s : SM} {Q : Int32 → SM → Prop} (h : (((gI (pI s 248 0 (0 : Int32)) 248 38) = 0 → Q (-1 : Int32) (pI s 248 0 (0 : Int32))) ∧ (¬ (gI (pI s 248 0 (0 : Int32)) 248 38) = 0 → (((vX12_isIn (pI s 248 0 (0 : Int32)) a1 (0 : Int32) (4 : Int32)) = 0 → Q (-1 : Int32) (pI s 248 0 (0 : Int32))) ∧ (¬ (vX12_isIn (pI s 248 0 (0 : Int32)) a1 (0 : Int32) (4 : Int32)) = 0 → vp_in a1 5 ∧ Q (gI (pI s 248 0 (0 : Int32)) 263 (a1).toNatClampNeg) (pI s 248 0 (0 : Int32))))))) : KI MX12_judged 1 [.ref 248, .int a1] s Q := by
  show BI MX12_judged 1 0 [(0, .ref 248), (1, .int a1)] s Q
  refine JT_aload_n (q := 0) dX12_judged_0 rfl rfl ?_
  refine JT_iconst (v := 0) dX12_judged_1 ic_0 ?_
  refine JS_putI dX12_judged_2 flX12_1 BS_248 (Nat.le_of_ble_eq_true rfl) (Nat.le_of_ble_eq_true rfl) ct_12_0 ?_
  refine JT_aload_n (q := 0) dX12_judged_5 rfl rfl ?_
  refine JS_getI dX12_judged_6 flX12_413 BS_248 (Nat.le_of_ble_eq_true rfl) (Nat.le_of_ble_eq_true rfl) (Or.inr ct_12_38) ?_
  refine JT_if_eq (tgt := 30) dX12_judged_9 (by decide) (fun hc4 => ?_) (fun hc4 => ?_)
  · have h := h.1 hc4
    refine JT_iconst (v := -1) dX12_judged_30 ic_m1 ?_
    exact JS_iret dX12_judged_31 rfl rfl h
  · have h := h.2 hc4
    refine JT_iload_n (q := 1) dX12_judged_12 rfl rfl ?_
    refine JT_iconst (v := 0) dX12_judged_13 ic_0 ?_
    refine JT_iconst (v := 4) dX12_judged_14 ic_4 ?_
    refine JS_callSI (M' := MX12_isIn) (d' := 0) (As := [.int a1, .int (0 : Int32), .int (4 : Int32)]) (rest := []) (P := (fun zv9 wm9 => (vX12_isIn (pI s 248 0 (0 : Int32)) a1 (0 : Int32) (4 : Int32)) = zv9 ∧ (pI s 248 0 (0 : Int32)) = wm9)) dX12_judged_15 cvX12_202 okX12_isIn rfl (Nat.le_of_ble_eq_true rfl) (Nat.le_of_ble_eq_true rfl) (Nat.le_of_ble_eq_true rfl) (pX12_isIn  (a1) ((0 : Int32)) ((4 : Int32))  ⟨rfl, rfl⟩) (fun zv9 wm9 hq9 => ?_)
    obtain ⟨rfl, rfl⟩ := hq9
    refine JT_if_eq (tgt := 30) dX12_judged_18 (by decide) (fun hc2 => ?_) (fun hc2 => ?_)
    · have h := h.1 hc2
      refine JT_iconst (v := -1) dX12_judged_30 ic_m1 ?_
      exact JS_iret dX12_judged_31 rfl rfl h
    · have h := h.2 hc2
      refine JT_aload_n (q := 0) dX12_judged_21 rfl rfl ?_
      refine JS_getR (x := 263) dX12_judged_22 flX12_74 BS_248 (Nat.le_of_ble_eq_true rfl) (Nat.le_of_ble_eq_true rfl) (Or.inr ⟨_, ct_12_37⟩) RF_248_37 ?_
      refine JT_iload_n (q := 1) dX12_judged_25 rfl rfl ?_
      obtain ⟨o1, h⟩ := h
      refine JS_iald dX12_judged_26 BS_263 (Nat.le_of_ble_eq_true rfl) (Nat.le_of_ble_eq_true rfl) o1 ?_
      refine JT_goto (tgt := 31) dX12_judged_27 (by decide) ?_
      exact JS_iret dX12_judged_31 rfl rfl h
set_option maxRecDepth 1000000 in
theorem pX12_judged (a1 : Int32) {s : SM} {Q : Int32 → SM → Prop} (hr : rX12_judged s a1) (h : Q (vX12_judged s a1) (mX12_judged s a1)) : KI MX12_judged 1 [.ref 248, .int a1] s Q := by
  refine bX12_judged a1 ?_
  unfold rX12_judged at hr
  unfold vX12_judged mX12_judged at h
  refine ⟨fun c => ?_, fun c => ?_⟩
  · replace h := qlp c h
    first | exact h | contradiction
  · replace hr := hr c
    replace h := qln c h
    refine ⟨fun c => ?_, fun c => ?_⟩
    · replace h := qlp c h
      first | exact h | contradiction
    · replace hr := hr c
      replace h := qln c h
      refine ⟨hr, ?_⟩
      first | exact h | contradiction
set_option maxRecDepth 1000000 in
theorem bX12_keepsBefore_6 (a1 : Int32) {s : SM} {Q : SM → Prop} (h : (((552 : Int32) ≤ a1 → Q s) ∧ (¬ (552 : Int32) ≤ a1 → vp_in a1 552 ∧ vp_in (((552 : Int32) * ((gI s 248 25) - (1 : Int32))) + a1) 4416 ∧ BV MX12_keepsBefore 1 6 [(0, .ref 248), (1, .int (a1 + 1))] (pI s 255 ((((552 : Int32) * ((gI s 248 25) - (1 : Int32))) + a1)).toNatClampNeg (gI s 259 (a1).toNatClampNeg)) Q))) : BV MX12_keepsBefore 1 6 [(0, .ref 248), (1, .int a1)] s Q := by
  refine JT_iload_n (q := 1) dX12_keepsBefore_6 rfl rfl ?_
  refine JT_sipush (v := 552) dX12_keepsBefore_7 sp_552 ?_
  refine JT_icmp_ge (tgt := 42) dX12_keepsBefore_10 (by decide) (fun hc3 => ?_) (fun hc3 => ?_)
  · have h := h.1 hc3
    exact JS_vret dX12_keepsBefore_42 rfl h
  · have h := h.2 hc3
    refine JT_aload_n (q := 0) dX12_keepsBefore_13 rfl rfl ?_
    refine JS_getR (x := 255) dX12_keepsBefore_14 flX12_50 BS_248 (Nat.le_of_ble_eq_true rfl) (Nat.le_of_ble_eq_true rfl) (Or.inr ⟨_, ct_12_24⟩) RF_248_24 ?_
    refine JT_sipush (v := 552) dX12_keepsBefore_17 sp_552 ?_
    refine JT_aload_n (q := 0) dX12_keepsBefore_20 rfl rfl ?_
    refine JS_getI dX12_keepsBefore_21 flX12_250 BS_248 (Nat.le_of_ble_eq_true rfl) (Nat.le_of_ble_eq_true rfl) (Or.inl ct_12_25) ?_
    refine JT_iconst (v := 1) dX12_keepsBefore_24 ic_1 ?_
    refine JT_isub dX12_keepsBefore_25 ?_
    refine JT_imul dX12_keepsBefore_26 ?_
    refine JT_iload_n (q := 1) dX12_keepsBefore_27 rfl rfl ?_
    refine JT_iadd dX12_keepsBefore_28 ?_
    refine JT_aload_n (q := 0) dX12_keepsBefore_29 rfl rfl ?_
    refine JS_getR (x := 259) dX12_keepsBefore_30 flX12_62 BS_248 (Nat.le_of_ble_eq_true rfl) (Nat.le_of_ble_eq_true rfl) (Or.inr ⟨_, ct_12_31⟩) RF_248_31 ?_
    refine JT_iload_n (q := 1) dX12_keepsBefore_33 rfl rfl ?_
    obtain ⟨o1, h⟩ := h
    refine JS_iald dX12_keepsBefore_34 BS_259 (Nat.le_of_ble_eq_true rfl) (Nat.le_of_ble_eq_true rfl) o1 ?_
    obtain ⟨o2, h⟩ := h
    refine JS_iast dX12_keepsBefore_35 BS_255 (Nat.le_of_ble_eq_true rfl) (Nat.le_of_ble_eq_true rfl) o2 ?_
    refine JT_iinc (q := 1) (v := (a1 + 1)) (lv' := [(1, .int (a1 + 1)), (0, .ref 248)]) dX12_keepsBefore_36 rfl (by rfl) (Nat.le_of_ble_eq_true rfl) rfl ?_
    refine JT_goto (tgt := 6) dX12_keepsBefore_39 (by decide) ?_
    exact JT_sub [1, 0] rfl h
set_option maxRecDepth 1000000 in
theorem bX12_keepsBefore  {s : SM} {Q : SM → Prop} (h : rX12_keep s  ∧ BV MX12_keepsBefore 1 6 [(0, .ref 248), (1, .int (0 : Int32))] (mX12_keep s ) Q) : KV MX12_keepsBefore 1 [.ref 248] s Q := by
  show BV MX12_keepsBefore 1 0 [(0, .ref 248)] s Q
  refine JT_aload_n (q := 0) dX12_keepsBefore_0 rfl rfl ?_
  obtain ⟨o1, h⟩ := h
  refine JS_callVV (M' := MX12_keep) (d' := 0) (As := []) (rest := []) (P := (fun wm9 => (mX12_keep s ) = wm9)) dX12_keepsBefore_1 cvX12_329 okX12_keep rfl (Nat.le_of_ble_eq_true rfl) BS_248 (Nat.le_of_ble_eq_true rfl) (Nat.le_of_ble_eq_true rfl) hci_12 (Nat.le_of_ble_eq_true rfl) (Nat.le_of_ble_eq_true rfl) (pX12_keep   o1 rfl) (fun wm9 hq9 => ?_)
  subst hq9
  refine JT_iconst (v := 0) dX12_keepsBefore_4 ic_0 ?_
  refine JT_istore_n (lv' := [(1, .int (0 : Int32)), (0, .ref 248)]) dX12_keepsBefore_5 rfl (Nat.le_of_ble_eq_true rfl) rfl ?_
  exact JT_sub [1, 0] rfl h
set_option maxRecDepth 1000000 in
theorem gX12_keepsBefore  : ∀ n : Nat, (∀ (a1 : Int32) (s : SM) (Q : SM → Prop), ((qX12_keepsBefore n) s a1) → Q ((lX12_keepsBefore n) s a1) → BV MX12_keepsBefore 1 6 [(0, .ref 248), (1, .int a1)] s Q) := by
  intro n
  induction n with
  | zero => exact fun _ _ _ hq _ => absurd hq id
  | succ n ih =>
    intro a1 s Q hr h
    replace hr : uX12_keepsBefore_6 (qX12_keepsBefore n) s a1 := hr
    replace h : Q (tX12_keepsBefore_6 (lX12_keepsBefore n) s a1) := h
    unfold uX12_keepsBefore_6 at hr
    unfold tX12_keepsBefore_6 at h
    refine bX12_keepsBefore_6 a1 ?_
    refine ⟨fun c => ?_, fun c => ?_⟩
    · replace h := q1p c h
      first | exact h | contradiction
    · replace hr := hr c
      replace h := q1n c h
      refine ⟨hr.1, ?_⟩
      replace hr := hr.2
      refine ⟨hr.1, ?_⟩
      replace hr := hr.2
      first | exact ih (a1 + 1) _ Q hr h | contradiction
set_option maxRecDepth 1000000 in
theorem pX12_keepsBefore  {s : SM} {Q : SM → Prop} (hr : rX12_keepsBefore s ) (h : Q (mX12_keepsBefore s )) : KV MX12_keepsBefore 1 [.ref 248] s Q := by
  replace h : Q (fX12_keepsBefore s ) := h
  unfold rX12_keepsBefore at hr
  unfold fX12_keepsBefore at h
  refine bX12_keepsBefore  ?_
  refine ⟨hr.1, ?_⟩
  replace hr := hr.2
  first | exact (gX12_keepsBefore  FU) (0 : Int32) _ Q hr h | contradiction
set_option maxRecDepth 1000000 in
theorem bX12_leastOf_7 {r1 n1 : Nat} (hr1 : BS r1 = (some .int, n1) ∧ 2 ≤ r1 ∧ r1 < 279) (a2 : Int32) (a3 : Int32) (a4 : Int32) {s : SM} {Q : Int32 → SM → Prop} (h : ((a2 ≤ a4 → Q a3 s) ∧ (¬ a2 ≤ a4 → vp_in a4 n1 ∧ rX12_of s (gI s r1 (a4).toNatClampNeg) (2 : Int32) ∧ ((a3 ≤ (vX12_of s (gI s r1 (a4).toNatClampNeg) (2 : Int32)) → BI MX12_leastOf 1 7 [(0, .ref 248), (1, .ref r1), (2, .int a2), (3, .int a3), (4, .int (a4 + 1))] s Q) ∧ (¬ a3 ≤ (vX12_of s (gI s r1 (a4).toNatClampNeg) (2 : Int32)) → vp_in a4 n1 ∧ rX12_of s (gI s r1 (a4).toNatClampNeg) (2 : Int32) ∧ BI MX12_leastOf 1 7 [(0, .ref 248), (1, .ref r1), (2, .int a2), (3, .int (vX12_of s (gI s r1 (a4).toNatClampNeg) (2 : Int32))), (4, .int (a4 + 1))] s Q))))) : BI MX12_leastOf 1 7 [(0, .ref 248), (1, .ref r1), (2, .int a2), (3, .int a3), (4, .int a4)] s Q := by
  refine JT_iload (q := 4) dX12_leastOf_7 rfl ?_
  refine JT_iload_n (q := 2) dX12_leastOf_9 rfl rfl ?_
  refine JT_icmp_ge (tgt := 46) dX12_leastOf_10 (by decide) (fun hc6 => ?_) (fun hc6 => ?_)
  · have h := h.1 hc6
    refine JT_iload_n (q := 3) dX12_leastOf_46 rfl rfl ?_
    exact JS_iret dX12_leastOf_47 rfl rfl h
  · have h := h.2 hc6
    refine JT_aload_n (q := 0) dX12_leastOf_13 rfl rfl ?_
    refine JT_aload_n (q := 1) dX12_leastOf_14 rfl rfl ?_
    refine JT_iload (q := 4) dX12_leastOf_15 rfl ?_
    obtain ⟨o1, h⟩ := h
    refine JS_iald dX12_leastOf_17 hr1.1 hr1.2.1 hr1.2.2 o1 ?_
    refine JT_iconst (v := 2) dX12_leastOf_18 ic_2 ?_
    obtain ⟨o5, h⟩ := h
    refine JS_callVI (M' := MX12_of) (d' := 0) (As := [.int (gI s r1 (a4).toNatClampNeg), .int (2 : Int32)]) (rest := []) (P := (fun zv9 wm9 => (vX12_of s (gI s r1 (a4).toNatClampNeg) (2 : Int32)) = zv9 ∧ s = wm9)) dX12_leastOf_19 cvX12_265 okX12_of rfl (Nat.le_of_ble_eq_true rfl) BS_248 (Nat.le_of_ble_eq_true rfl) (Nat.le_of_ble_eq_true rfl) hci_12 (Nat.le_of_ble_eq_true rfl) (Nat.le_of_ble_eq_true rfl) (pX12_of  ((gI s r1 (a4).toNatClampNeg)) ((2 : Int32)) o5 ⟨rfl, rfl⟩) (fun zv9 wm9 hq9 => ?_)
    obtain ⟨rfl, rfl⟩ := hq9
    refine JT_iload_n (q := 3) dX12_leastOf_22 rfl rfl ?_
    refine JT_icmp_ge (tgt := 38) dX12_leastOf_23 (by decide) (fun hc4 => ?_) (fun hc4 => ?_)
    · have h := h.1 hc4
      refine JT_iload_n (q := 3) dX12_leastOf_38 rfl rfl ?_
      refine JT_istore_n (lv' := [(3, .int a3), (0, .ref 248), (1, .ref r1), (2, .int a2), (4, .int a4)]) dX12_leastOf_39 rfl (Nat.le_of_ble_eq_true rfl) rfl ?_
      refine JT_iinc (q := 4) (v := (a4 + 1)) (lv' := [(4, .int (a4 + 1)), (3, .int a3), (0, .ref 248), (1, .ref r1), (2, .int a2)]) dX12_leastOf_40 rfl (by rfl) (Nat.le_of_ble_eq_true rfl) rfl ?_
      refine JT_goto (tgt := 7) dX12_leastOf_43 (by decide) ?_
      exact JT_sub [2, 3, 4, 1, 0] rfl h
    · have h := h.2 hc4
      refine JT_aload_n (q := 0) dX12_leastOf_26 rfl rfl ?_
      refine JT_aload_n (q := 1) dX12_leastOf_27 rfl rfl ?_
      refine JT_iload (q := 4) dX12_leastOf_28 rfl ?_
      obtain ⟨o2, h⟩ := h
      refine JS_iald dX12_leastOf_30 hr1.1 hr1.2.1 hr1.2.2 o2 ?_
      refine JT_iconst (v := 2) dX12_leastOf_31 ic_2 ?_
      obtain ⟨o3, h⟩ := h
      refine JS_callVI (M' := MX12_of) (d' := 0) (As := [.int (gI s r1 (a4).toNatClampNeg), .int (2 : Int32)]) (rest := []) (P := (fun zv9 wm9 => (vX12_of s (gI s r1 (a4).toNatClampNeg) (2 : Int32)) = zv9 ∧ s = wm9)) dX12_leastOf_32 cvX12_265 okX12_of rfl (Nat.le_of_ble_eq_true rfl) BS_248 (Nat.le_of_ble_eq_true rfl) (Nat.le_of_ble_eq_true rfl) hci_12 (Nat.le_of_ble_eq_true rfl) (Nat.le_of_ble_eq_true rfl) (pX12_of  ((gI s r1 (a4).toNatClampNeg)) ((2 : Int32)) o3 ⟨rfl, rfl⟩) (fun zv9 wm9 hq9 => ?_)
      obtain ⟨rfl, rfl⟩ := hq9
      refine JT_goto (tgt := 39) dX12_leastOf_35 (by decide) ?_
      refine JT_istore_n (lv' := [(3, .int (vX12_of s (gI s r1 (a4).toNatClampNeg) (2 : Int32))), (0, .ref 248), (1, .ref r1), (2, .int a2), (4, .int a4)]) dX12_leastOf_39 rfl (Nat.le_of_ble_eq_true rfl) rfl ?_
      refine JT_iinc (q := 4) (v := (a4 + 1)) (lv' := [(4, .int (a4 + 1)), (3, .int (vX12_of s (gI s r1 (a4).toNatClampNeg) (2 : Int32))), (0, .ref 248), (1, .ref r1), (2, .int a2)]) dX12_leastOf_40 rfl (by rfl) (Nat.le_of_ble_eq_true rfl) rfl ?_
      refine JT_goto (tgt := 7) dX12_leastOf_43 (by decide) ?_
      exact JT_sub [2, 3, 4, 1, 0] rfl h
set_option maxRecDepth 1000000 in
theorem bX12_leastOf {r1 n1 : Nat} (hr1 : BS r1 = (some .int, n1) ∧ 2 ≤ r1 ∧ r1 < 279) (a2 : Int32) {s : SM} {Q : Int32 → SM → Prop} (h : BI MX12_leastOf 1 7 [(0, .ref 248), (1, .ref r1), (2, .int a2), (3, .int (1000000000 : Int32)), (4, .int (0 : Int32))] s Q) : KI MX12_leastOf 1 [.ref 248, .ref r1, .int a2] s Q := by
  show BI MX12_leastOf 1 0 [(0, .ref 248), (1, .ref r1), (2, .int a2)] s Q
  refine JT_ldcw dX12_leastOf_0 kwX12_345 ?_
  refine JT_istore_n (lv' := [(3, .int (1000000000 : Int32)), (0, .ref 248), (1, .ref r1), (2, .int a2)]) dX12_leastOf_3 rfl (Nat.le_of_ble_eq_true rfl) rfl ?_
  refine JT_iconst (v := 0) dX12_leastOf_4 ic_0 ?_
  refine JT_istore (lv' := [(4, .int (0 : Int32)), (3, .int (1000000000 : Int32)), (0, .ref 248), (1, .ref r1), (2, .int a2)]) dX12_leastOf_5 (Nat.le_of_ble_eq_true rfl) rfl ?_
  exact JT_sub [2, 3, 4, 1, 0] rfl h
set_option maxRecDepth 1000000 in
theorem gX12_leastOf {r1 n1 : Nat} (hr1 : BS r1 = (some .int, n1) ∧ 2 ≤ r1 ∧ r1 < 279) : ∀ n : Nat, (∀ (a2 : Int32) (a3 : Int32) (a4 : Int32) (s : SM) (Q : Int32 → SM → Prop), ((qX12_leastOf n) s r1 n1 a2 a3 a4) → Q ((lX12_leastOf n) s r1 n1 a2 a3 a4) s → BI MX12_leastOf 1 7 [(0, .ref 248), (1, .ref r1), (2, .int a2), (3, .int a3), (4, .int a4)] s Q) := by
  intro n
  induction n with
  | zero => exact fun _ _ _ _ _ hq _ => absurd hq id
  | succ n ih =>
    intro a2 a3 a4 s Q hr h
    replace hr : uX12_leastOf_7 (qX12_leastOf n) s r1 n1 a2 a3 a4 := hr
    replace h : Q (tX12_leastOf_7 (lX12_leastOf n) s r1 n1 a2 a3 a4) s := h
    unfold uX12_leastOf_7 at hr
    unfold tX12_leastOf_7 at h
    refine bX12_leastOf_7 hr1 a2 a3 a4 ?_
    refine ⟨fun c => ?_, fun c => ?_⟩
    · replace h := qlp c h
      first | exact h | contradiction
    · replace hr := hr c
      replace h := qln c h
      refine ⟨hr.1, ?_⟩
      replace hr := hr.2
      refine ⟨hr.1, ?_⟩
      replace hr := hr.2
      refine ⟨fun c => ?_, fun c => ?_⟩
      · replace hr := hr.1 c
        replace h := qlp c h
        first | exact ih a2 a3 (a4 + 1) _ Q hr h | contradiction
      · replace hr := hr.2 c
        replace h := qln c h
        refine ⟨hr.1, ?_⟩
        replace hr := hr.2
        refine ⟨hr.1, ?_⟩
        replace hr := hr.2
        first | exact ih a2 (vX12_of s (gI s r1 (a4).toNatClampNeg) (2 : Int32)) (a4 + 1) _ Q hr h | contradiction
set_option maxRecDepth 1000000 in
theorem pX12_leastOf {r1 n1 : Nat} (hr1 : BS r1 = (some .int, n1) ∧ 2 ≤ r1 ∧ r1 < 279) (a2 : Int32) {s : SM} {Q : Int32 → SM → Prop} (hr : rX12_leastOf s r1 n1 a2) (h : Q (vX12_leastOf s r1 n1 a2) s) : KI MX12_leastOf 1 [.ref 248, .ref r1, .int a2] s Q := by
  replace h : Q (fX12_leastOf s r1 n1 a2) s := h
  unfold rX12_leastOf at hr
  unfold fX12_leastOf at h
  refine bX12_leastOf hr1 a2 ?_
  first | exact (gX12_leastOf hr1 FU) a2 (1000000000 : Int32) (0 : Int32) _ Q hr h | contradiction
set_option maxRecDepth 1000000 in
theorem bX12_markOf_5 (a1 : Int32) (a2 : Int32) (a3 : Int32) (a4 : Int32) {s : SM} {Q : Int32 → SM → Prop} (h : ((((2 : Int32) * (gI s 250 ((34 : Int32)).toNatClampNeg)) ≤ a4 → Q (if a2 = (-1 : Int32) then a3 else (-1 : Int32)) s) ∧ (¬ ((2 : Int32) * (gI s 250 ((34 : Int32)).toNatClampNeg)) ≤ a4 → rX12_of s (a4 / (2 : Int32)) ((6 : Int32) + (a4 - a4 / (2 : Int32) * (2 : Int32))) ∧ (((vX12_of s (a4 / (2 : Int32)) ((6 : Int32) + (a4 - a4 / (2 : Int32) * (2 : Int32)))) = a1 → ((¬ a3 = a2 → BI MX12_markOf 1 5 [(0, .ref 248), (1, .int a1), (2, .int a2), (3, .int (a3 + 1)), (4, .int (a4 + 1))] s Q) ∧ (a3 = a2 → Q a4 s))) ∧ (¬ (vX12_of s (a4 / (2 : Int32)) ((6 : Int32) + (a4 - a4 / (2 : Int32) * (2 : Int32)))) = a1 → BI MX12_markOf 1 5 [(0, .ref 248), (1, .int a1), (2, .int a2), (3, .int a3), (4, .int (a4 + 1))] s Q))))) : BI MX12_markOf 1 5 [(0, .ref 248), (1, .int a1), (2, .int a2), (3, .int a3), (4, .int a4)] s Q := by
  refine JT_iload (q := 4) dX12_markOf_5 rfl ?_
  refine JT_iconst (v := 2) dX12_markOf_7 ic_2 ?_
  refine JT_aload_n (q := 0) dX12_markOf_8 rfl rfl ?_
  refine JS_getR (x := 250) dX12_markOf_9 flX12_33 BS_248 (Nat.le_of_ble_eq_true rfl) (Nat.le_of_ble_eq_true rfl) (Or.inr ⟨_, ct_12_6⟩) RF_248_6 ?_
  refine JT_bipush (v := 34) dX12_markOf_12 bp_34 ?_
  refine JS_iald dX12_markOf_14 BS_250 (Nat.le_of_ble_eq_true rfl) (Nat.le_of_ble_eq_true rfl) (by unfold vp_in; decide) ?_
  refine JT_imul dX12_markOf_15 ?_
  refine JT_icmp_ge (tgt := 58) dX12_markOf_16 (by decide) (fun hc6 => ?_) (fun hc6 => ?_)
  · have h := h.1 hc6
    refine JT_iload_n (q := 2) dX12_markOf_58 rfl rfl ?_
    refine JT_iconst (v := -1) dX12_markOf_59 ic_m1 ?_
    have hj1 : ∀ v : Int32, v = (if a2 = (-1 : Int32) then a3 else (-1 : Int32)) → JT MX12_markOf 1 0 0 68 [(0, .ref 248), (1, .int a1), (2, .int a2), (3, .int a3), (4, .int a4)] [.int v] (std s) (KQ Q) := by
      intro v hv
      subst hv
      exact JS_iret dX12_markOf_68 rfl rfl h
    refine JT_icmp_ne (tgt := 67) dX12_markOf_60 (by decide) (fun hc2 => ?_) (fun hc2 => ?_)
    · refine JT_iconst (v := -1) dX12_markOf_67 ic_m1 ?_
      exact hj1 _ (by rw [if_neg hc2])
    · refine JT_iload_n (q := 3) dX12_markOf_63 rfl rfl ?_
      refine JT_goto (tgt := 68) dX12_markOf_64 (by decide) ?_
      exact hj1 _ (by rw [if_pos hc2])
  · have h := h.2 hc6
    refine JT_aload_n (q := 0) dX12_markOf_19 rfl rfl ?_
    refine JT_iload (q := 4) dX12_markOf_20 rfl ?_
    refine JT_iconst (v := 2) dX12_markOf_22 ic_2 ?_
    refine JT_idiv dX12_markOf_23 (by decide) ?_
    refine JT_bipush (v := 6) dX12_markOf_24 bp_6 ?_
    refine JT_iload (q := 4) dX12_markOf_26 rfl ?_
    refine JT_iconst (v := 2) dX12_markOf_28 ic_2 ?_
    refine JT_irem dX12_markOf_29 (by decide) ?_
    refine JT_iadd dX12_markOf_30 ?_
    obtain ⟨o5, h⟩ := h
    refine JS_callVI (M' := MX12_of) (d' := 0) (As := [.int (a4 / (2 : Int32)), .int ((6 : Int32) + (a4 - a4 / (2 : Int32) * (2 : Int32)))]) (rest := []) (P := (fun zv9 wm9 => (vX12_of s (a4 / (2 : Int32)) ((6 : Int32) + (a4 - a4 / (2 : Int32) * (2 : Int32)))) = zv9 ∧ s = wm9)) dX12_markOf_31 cvX12_265 okX12_of rfl (Nat.le_of_ble_eq_true rfl) BS_248 (Nat.le_of_ble_eq_true rfl) (Nat.le_of_ble_eq_true rfl) hci_12 (Nat.le_of_ble_eq_true rfl) (Nat.le_of_ble_eq_true rfl) (pX12_of  ((a4 / (2 : Int32))) (((6 : Int32) + (a4 - a4 / (2 : Int32) * (2 : Int32)))) o5 ⟨rfl, rfl⟩) (fun zv9 wm9 hq9 => ?_)
    obtain ⟨rfl, rfl⟩ := hq9
    refine JT_iload_n (q := 1) dX12_markOf_34 rfl rfl ?_
    refine JT_icmp_eq (tgt := 41) dX12_markOf_35 (by decide) (fun hc4 => ?_) (fun hc4 => ?_)
    · have h := h.1 hc4
      refine JT_iload_n (q := 3) dX12_markOf_41 rfl rfl ?_
      refine JT_iload_n (q := 2) dX12_markOf_42 rfl rfl ?_
      refine JT_icmp_ne (tgt := 49) dX12_markOf_43 (by decide) (fun hc3 => ?_) (fun hc3 => ?_)
      · have h := h.1 hc3
        refine JT_iinc (q := 3) (v := (a3 + 1)) (lv' := [(3, .int (a3 + 1)), (0, .ref 248), (1, .int a1), (2, .int a2), (4, .int a4)]) dX12_markOf_49 rfl (by rfl) (Nat.le_of_ble_eq_true rfl) rfl ?_
        refine JT_iinc (q := 4) (v := (a4 + 1)) (lv' := [(4, .int (a4 + 1)), (3, .int (a3 + 1)), (0, .ref 248), (1, .int a1), (2, .int a2)]) dX12_markOf_52 rfl (by rfl) (Nat.le_of_ble_eq_true rfl) rfl ?_
        refine JT_goto (tgt := 5) dX12_markOf_55 (by decide) ?_
        exact JT_sub [2, 3, 4, 1, 0] rfl h
      · have h := h.2 hc3
        refine JT_iload (q := 4) dX12_markOf_46 rfl ?_
        exact JS_iret dX12_markOf_48 rfl rfl h
    · have h := h.2 hc4
      refine JT_goto (tgt := 52) dX12_markOf_38 (by decide) ?_
      refine JT_iinc (q := 4) (v := (a4 + 1)) (lv' := [(4, .int (a4 + 1)), (0, .ref 248), (1, .int a1), (2, .int a2), (3, .int a3)]) dX12_markOf_52 rfl (by rfl) (Nat.le_of_ble_eq_true rfl) rfl ?_
      refine JT_goto (tgt := 5) dX12_markOf_55 (by decide) ?_
      exact JT_sub [1, 2, 3, 4, 0] rfl h
set_option maxRecDepth 1000000 in
theorem bX12_markOf (a1 : Int32) (a2 : Int32) {s : SM} {Q : Int32 → SM → Prop} (h : BI MX12_markOf 1 5 [(0, .ref 248), (1, .int a1), (2, .int a2), (3, .int (0 : Int32)), (4, .int (0 : Int32))] s Q) : KI MX12_markOf 1 [.ref 248, .int a1, .int a2] s Q := by
  show BI MX12_markOf 1 0 [(0, .ref 248), (1, .int a1), (2, .int a2)] s Q
  refine JT_iconst (v := 0) dX12_markOf_0 ic_0 ?_
  refine JT_istore_n (lv' := [(3, .int (0 : Int32)), (0, .ref 248), (1, .int a1), (2, .int a2)]) dX12_markOf_1 rfl (Nat.le_of_ble_eq_true rfl) rfl ?_
  refine JT_iconst (v := 0) dX12_markOf_2 ic_0 ?_
  refine JT_istore (lv' := [(4, .int (0 : Int32)), (3, .int (0 : Int32)), (0, .ref 248), (1, .int a1), (2, .int a2)]) dX12_markOf_3 (Nat.le_of_ble_eq_true rfl) rfl ?_
  exact JT_sub [2, 3, 4, 1, 0] rfl h
set_option maxRecDepth 1000000 in
theorem gX12_markOf  : ∀ n : Nat, (∀ (a1 : Int32) (a2 : Int32) (a3 : Int32) (a4 : Int32) (s : SM) (Q : Int32 → SM → Prop), ((qX12_markOf n) s a1 a2 a3 a4) → Q ((lX12_markOf n) s a1 a2 a3 a4) s → BI MX12_markOf 1 5 [(0, .ref 248), (1, .int a1), (2, .int a2), (3, .int a3), (4, .int a4)] s Q) := by
  intro n
  induction n with
  | zero => exact fun _ _ _ _ _ _ hq _ => absurd hq id
  | succ n ih =>
    intro a1 a2 a3 a4 s Q hr h
    replace hr : uX12_markOf_5 (qX12_markOf n) s a1 a2 a3 a4 := hr
    replace h : Q (tX12_markOf_5 (lX12_markOf n) s a1 a2 a3 a4) s := h
    unfold uX12_markOf_5 at hr
    unfold tX12_markOf_5 at h
    refine bX12_markOf_5 a1 a2 a3 a4 ?_
    refine ⟨fun c => ?_, fun c => ?_⟩
    · replace h := qlp c h
      first | exact h | contradiction
    · replace hr := hr c
      replace h := qln c h
      refine ⟨hr.1, ?_⟩
      replace hr := hr.2
      refine ⟨fun c => ?_, fun c => ?_⟩
      · replace hr := hr.1 c
        replace h := qlp c h
        refine ⟨fun c => ?_, fun c => ?_⟩
        · replace hr := hr c
          replace h := qln c h
          first | exact ih a1 a2 (a3 + 1) (a4 + 1) _ Q hr h | contradiction
        · replace h := qlp c h
          first | exact h | contradiction
      · replace hr := hr.2 c
        replace h := qln c h
        first | exact ih a1 a2 a3 (a4 + 1) _ Q hr h | contradiction
set_option maxRecDepth 1000000 in
theorem pX12_markOf (a1 : Int32) (a2 : Int32) {s : SM} {Q : Int32 → SM → Prop} (hr : rX12_markOf s a1 a2) (h : Q (vX12_markOf s a1 a2) s) : KI MX12_markOf 1 [.ref 248, .int a1, .int a2] s Q := by
  replace h : Q (fX12_markOf s a1 a2) s := h
  unfold rX12_markOf at hr
  unfold fX12_markOf at h
  refine bX12_markOf a1 a2 ?_
  first | exact (gX12_markOf  FU) a1 a2 (0 : Int32) (0 : Int32) _ Q hr h | contradiction
set_option maxRecDepth 1000000 in
theorem bX12_marksOn_5 (a1 : Int32) (a2 : Int32) (a3 : Int32) (a4 : Int32) {s : SM} {Q : Int32 → SM → Prop} (h : (((gI s 250 ((34 : Int32)).toNatClampNeg) ≤ a4 → Q a3 s) ∧ (¬ (gI s 250 ((34 : Int32)).toNatClampNeg) ≤ a4 → BI MX12_marksOn 1 20 [(0, .ref 248), (1, .int a1), (2, .int a2), (3, .int a3), (4, .int a4), (5, .int (0 : Int32))] s Q))) : BI MX12_marksOn 1 5 [(0, .ref 248), (1, .int a1), (2, .int a2), (3, .int a3), (4, .int a4)] s Q := by
  refine JT_iload (q := 4) dX12_marksOn_5 rfl ?_
  refine JT_aload_n (q := 0) dX12_marksOn_7 rfl rfl ?_
  refine JS_getR (x := 250) dX12_marksOn_8 flX12_33 BS_248 (Nat.le_of_ble_eq_true rfl) (Nat.le_of_ble_eq_true rfl) (Or.inr ⟨_, ct_12_6⟩) RF_248_6 ?_
  refine JT_bipush (v := 34) dX12_marksOn_11 bp_34 ?_
  refine JS_iald dX12_marksOn_13 BS_250 (Nat.le_of_ble_eq_true rfl) (Nat.le_of_ble_eq_true rfl) (by unfold vp_in; decide) ?_
  refine JT_icmp_ge (tgt := 72) dX12_marksOn_14 (by decide) (fun hc1 => ?_) (fun hc1 => ?_)
  · have h := h.1 hc1
    refine JT_iload_n (q := 3) dX12_marksOn_72 rfl rfl ?_
    exact JS_iret dX12_marksOn_73 rfl rfl h
  · have h := h.2 hc1
    refine JT_iconst (v := 0) dX12_marksOn_17 ic_0 ?_
    refine JT_istore (lv' := [(5, .int (0 : Int32)), (0, .ref 248), (1, .int a1), (2, .int a2), (3, .int a3), (4, .int a4)]) dX12_marksOn_18 (Nat.le_of_ble_eq_true rfl) rfl ?_
    exact JT_sub [1, 2, 3, 4, 5, 0] rfl h
set_option maxRecDepth 1000000 in
theorem bX12_marksOn_20 (a1 : Int32) (a2 : Int32) (a3 : Int32) (a4 : Int32) (a5 : Int32) {s : SM} {Q : Int32 → SM → Prop} (h : (((2 : Int32) ≤ a5 → BI MX12_marksOn 1 5 [(0, .ref 248), (1, .int a1), (2, .int a2), (3, .int a3), (4, .int (a4 + 1))] s Q) ∧ (¬ (2 : Int32) ≤ a5 → rX12_of s a4 ((6 : Int32) + a5) ∧ ((¬ (vX12_of s a4 ((6 : Int32) + a5)) = a1 → BI MX12_marksOn 1 20 [(0, .ref 248), (1, .int a1), (2, .int a2), (3, .int (a3 + (0 : Int32))), (4, .int a4), (5, .int (a5 + 1))] s Q) ∧ ((vX12_of s a4 ((6 : Int32) + a5)) = a1 → rX12_of s a4 (4 : Int32) ∧ BI MX12_marksOn 1 20 [(0, .ref 248), (1, .int a1), (2, .int a2), (3, .int (a3 + (if a2 < (vX12_of s a4 (4 : Int32)) then (0 : Int32) else (1 : Int32)))), (4, .int a4), (5, .int (a5 + 1))] s Q))))) : BI MX12_marksOn 1 20 [(0, .ref 248), (1, .int a1), (2, .int a2), (3, .int a3), (4, .int a4), (5, .int a5)] s Q := by
  refine JT_iload (q := 5) dX12_marksOn_20 rfl ?_
  refine JT_iconst (v := 2) dX12_marksOn_22 ic_2 ?_
  refine JT_icmp_ge (tgt := 66) dX12_marksOn_23 (by decide) (fun hc6 => ?_) (fun hc6 => ?_)
  · have h := h.1 hc6
    refine JT_iinc (q := 4) (v := (a4 + 1)) (lv' := [(4, .int (a4 + 1)), (0, .ref 248), (1, .int a1), (2, .int a2), (3, .int a3), (5, .int a5)]) dX12_marksOn_66 rfl (by rfl) (Nat.le_of_ble_eq_true rfl) rfl ?_
    refine JT_goto (tgt := 5) dX12_marksOn_69 (by decide) ?_
    exact JT_sub [1, 2, 3, 4, 0] rfl h
  · have h := h.2 hc6
    refine JT_iload_n (q := 3) dX12_marksOn_26 rfl rfl ?_
    refine JT_aload_n (q := 0) dX12_marksOn_27 rfl rfl ?_
    refine JT_iload (q := 4) dX12_marksOn_28 rfl ?_
    refine JT_bipush (v := 6) dX12_marksOn_30 bp_6 ?_
    refine JT_iload (q := 5) dX12_marksOn_32 rfl ?_
    refine JT_iadd dX12_marksOn_34 ?_
    obtain ⟨o5, h⟩ := h
    refine JS_callVI (M' := MX12_of) (d' := 0) (As := [.int a4, .int ((6 : Int32) + a5)]) (rest := [.int a3]) (P := (fun zv9 wm9 => (vX12_of s a4 ((6 : Int32) + a5)) = zv9 ∧ s = wm9)) dX12_marksOn_35 cvX12_265 okX12_of rfl (Nat.le_of_ble_eq_true rfl) BS_248 (Nat.le_of_ble_eq_true rfl) (Nat.le_of_ble_eq_true rfl) hci_12 (Nat.le_of_ble_eq_true rfl) (Nat.le_of_ble_eq_true rfl) (pX12_of  (a4) (((6 : Int32) + a5)) o5 ⟨rfl, rfl⟩) (fun zv9 wm9 hq9 => ?_)
    obtain ⟨rfl, rfl⟩ := hq9
    refine JT_iload_n (q := 1) dX12_marksOn_38 rfl rfl ?_
    refine JT_icmp_ne (tgt := 57) dX12_marksOn_39 (by decide) (fun hc4 => ?_) (fun hc4 => ?_)
    · have h := h.1 hc4
      refine JT_iconst (v := 0) dX12_marksOn_57 ic_0 ?_
      refine JT_iadd dX12_marksOn_58 ?_
      refine JT_istore_n (lv' := [(3, .int (a3 + (0 : Int32))), (0, .ref 248), (1, .int a1), (2, .int a2), (4, .int a4), (5, .int a5)]) dX12_marksOn_59 rfl (Nat.le_of_ble_eq_true rfl) rfl ?_
      refine JT_iinc (q := 5) (v := (a5 + 1)) (lv' := [(5, .int (a5 + 1)), (3, .int (a3 + (0 : Int32))), (0, .ref 248), (1, .int a1), (2, .int a2), (4, .int a4)]) dX12_marksOn_60 rfl (by rfl) (Nat.le_of_ble_eq_true rfl) rfl ?_
      refine JT_goto (tgt := 20) dX12_marksOn_63 (by decide) ?_
      exact JT_sub [2, 3, 4, 1, 5, 0] rfl h
    · have h := h.2 hc4
      refine JT_aload_n (q := 0) dX12_marksOn_42 rfl rfl ?_
      refine JT_iload (q := 4) dX12_marksOn_43 rfl ?_
      refine JT_iconst (v := 4) dX12_marksOn_45 ic_4 ?_
      obtain ⟨o3, h⟩ := h
      refine JS_callVI (M' := MX12_of) (d' := 0) (As := [.int a4, .int (4 : Int32)]) (rest := [.int a3]) (P := (fun zv9 wm9 => (vX12_of s a4 (4 : Int32)) = zv9 ∧ s = wm9)) dX12_marksOn_46 cvX12_265 okX12_of rfl (Nat.le_of_ble_eq_true rfl) BS_248 (Nat.le_of_ble_eq_true rfl) (Nat.le_of_ble_eq_true rfl) hci_12 (Nat.le_of_ble_eq_true rfl) (Nat.le_of_ble_eq_true rfl) (pX12_of  (a4) ((4 : Int32)) o3 ⟨rfl, rfl⟩) (fun zv9 wm9 hq9 => ?_)
      obtain ⟨rfl, rfl⟩ := hq9
      refine JT_iload_n (q := 2) dX12_marksOn_49 rfl rfl ?_
      have hj1 : ∀ v : Int32, v = (if a2 < (vX12_of s a4 (4 : Int32)) then (0 : Int32) else (1 : Int32)) → JT MX12_marksOn 1 0 0 58 [(0, .ref 248), (1, .int a1), (2, .int a2), (3, .int a3), (4, .int a4), (5, .int a5)] [.int v, .int a3] (std s) (KQ Q) := by
        intro v hv
        subst hv
        refine JT_iadd dX12_marksOn_58 ?_
        refine JT_istore_n (lv' := [(3, .int (a3 + (if a2 < (vX12_of s a4 (4 : Int32)) then (0 : Int32) else (1 : Int32)))), (0, .ref 248), (1, .int a1), (2, .int a2), (4, .int a4), (5, .int a5)]) dX12_marksOn_59 rfl (Nat.le_of_ble_eq_true rfl) rfl ?_
        refine JT_iinc (q := 5) (v := (a5 + 1)) (lv' := [(5, .int (a5 + 1)), (3, .int (a3 + (if a2 < (vX12_of s a4 (4 : Int32)) then (0 : Int32) else (1 : Int32)))), (0, .ref 248), (1, .int a1), (2, .int a2), (4, .int a4)]) dX12_marksOn_60 rfl (by rfl) (Nat.le_of_ble_eq_true rfl) rfl ?_
        refine JT_goto (tgt := 20) dX12_marksOn_63 (by decide) ?_
        exact JT_sub [2, 3, 4, 1, 5, 0] rfl h
      refine JT_icmp_gt (tgt := 57) dX12_marksOn_50 (by decide) (fun hc2 => ?_) (fun hc2 => ?_)
      · refine JT_iconst (v := 0) dX12_marksOn_57 ic_0 ?_
        exact hj1 _ (by rw [if_pos hc2])
      · refine JT_iconst (v := 1) dX12_marksOn_53 ic_1 ?_
        refine JT_goto (tgt := 58) dX12_marksOn_54 (by decide) ?_
        exact hj1 _ (by rw [if_neg hc2])
set_option maxRecDepth 1000000 in
theorem bX12_marksOn (a1 : Int32) (a2 : Int32) {s : SM} {Q : Int32 → SM → Prop} (h : BI MX12_marksOn 1 5 [(0, .ref 248), (1, .int a1), (2, .int a2), (3, .int (0 : Int32)), (4, .int (0 : Int32))] s Q) : KI MX12_marksOn 1 [.ref 248, .int a1, .int a2] s Q := by
  show BI MX12_marksOn 1 0 [(0, .ref 248), (1, .int a1), (2, .int a2)] s Q
  refine JT_iconst (v := 0) dX12_marksOn_0 ic_0 ?_
  refine JT_istore_n (lv' := [(3, .int (0 : Int32)), (0, .ref 248), (1, .int a1), (2, .int a2)]) dX12_marksOn_1 rfl (Nat.le_of_ble_eq_true rfl) rfl ?_
  refine JT_iconst (v := 0) dX12_marksOn_2 ic_0 ?_
  refine JT_istore (lv' := [(4, .int (0 : Int32)), (3, .int (0 : Int32)), (0, .ref 248), (1, .int a1), (2, .int a2)]) dX12_marksOn_3 (Nat.le_of_ble_eq_true rfl) rfl ?_
  exact JT_sub [2, 3, 4, 1, 0] rfl h
set_option maxRecDepth 1000000 in
theorem gX12_marksOn  : ∀ n : Nat, (∀ (a1 : Int32) (a2 : Int32) (a3 : Int32) (a4 : Int32) (s : SM) (Q : Int32 → SM → Prop), ((qX12_marksOn n).1 s a1 a2 a3 a4) → Q ((lX12_marksOn n).1 s a1 a2 a3 a4) s → BI MX12_marksOn 1 5 [(0, .ref 248), (1, .int a1), (2, .int a2), (3, .int a3), (4, .int a4)] s Q) ∧ (∀ (a1 : Int32) (a2 : Int32) (a3 : Int32) (a4 : Int32) (a5 : Int32) (s : SM) (Q : Int32 → SM → Prop), ((qX12_marksOn n).2 s a1 a2 a3 a4 a5) → Q ((lX12_marksOn n).2 s a1 a2 a3 a4 a5) s → BI MX12_marksOn 1 20 [(0, .ref 248), (1, .int a1), (2, .int a2), (3, .int a3), (4, .int a4), (5, .int a5)] s Q) := by
  intro n
  induction n with
  | zero => exact ⟨fun _ _ _ _ _ _ hq _ => absurd hq id, fun _ _ _ _ _ _ _ hq _ => absurd hq id⟩
  | succ n ih =>
    refine ⟨?_, ?_⟩
    · intro a1 a2 a3 a4 s Q hr h
      replace hr : uX12_marksOn_5 (qX12_marksOn n) s a1 a2 a3 a4 := hr
      replace h : Q (tX12_marksOn_5 (lX12_marksOn n) s a1 a2 a3 a4) s := h
      unfold uX12_marksOn_5 at hr
      unfold tX12_marksOn_5 at h
      refine bX12_marksOn_5 a1 a2 a3 a4 ?_
      refine ⟨fun c => ?_, fun c => ?_⟩
      · replace h := qlp c h
        first | exact h | contradiction
      · replace hr := hr c
        replace h := qln c h
        first | exact ih.2 a1 a2 a3 a4 (0 : Int32) _ Q hr h | contradiction
    · intro a1 a2 a3 a4 a5 s Q hr h
      replace hr : uX12_marksOn_20 (qX12_marksOn n) s a1 a2 a3 a4 a5 := hr
      replace h : Q (tX12_marksOn_20 (lX12_marksOn n) s a1 a2 a3 a4 a5) s := h
      unfold uX12_marksOn_20 at hr
      unfold tX12_marksOn_20 at h
      refine bX12_marksOn_20 a1 a2 a3 a4 a5 ?_
      refine ⟨fun c => ?_, fun c => ?_⟩
      · replace hr := hr.1 c
        replace h := qlp c h
        first | exact ih.1 a1 a2 a3 (a4 + 1) _ Q hr h | contradiction
      · replace hr := hr.2 c
        replace h := qln c h
        refine ⟨hr.1, ?_⟩
        replace hr := hr.2
        refine ⟨fun c => ?_, fun c => ?_⟩
        · replace hr := hr.1 c
          replace h := qln c h
          first | exact ih.2 a1 a2 (a3 + (0 : Int32)) a4 (a5 + 1) _ Q hr h | contradiction
        · replace hr := hr.2 c
          replace h := qlp c h
          refine ⟨hr.1, ?_⟩
          replace hr := hr.2
          first | exact ih.2 a1 a2 (a3 + (if a2 < (vX12_of s a4 (4 : Int32)) then (0 : Int32) else (1 : Int32))) a4 (a5 + 1) _ Q hr h | contradiction
set_option maxRecDepth 1000000 in
theorem pX12_marksOn (a1 : Int32) (a2 : Int32) {s : SM} {Q : Int32 → SM → Prop} (hr : rX12_marksOn s a1 a2) (h : Q (vX12_marksOn s a1 a2) s) : KI MX12_marksOn 1 [.ref 248, .int a1, .int a2] s Q := by
  replace h : Q (fX12_marksOn s a1 a2) s := h
  unfold rX12_marksOn at hr
  unfold fX12_marksOn at h
  refine bX12_marksOn a1 a2 ?_
  first | exact (gX12_marksOn  FU).1 a1 a2 (0 : Int32) (0 : Int32) _ Q hr h | contradiction
set_option maxRecDepth 1000000 in
theorem bX12_next_0  {s : SM} {Q : SM → Prop} (h : rX12_peek s  ∧ (((vX12_peek s ) = (32 : Int32) → BV MX12_next 1 0 [(0, .ref 248)] (pI s 248 4 ((gI s 248 4) + (1 : Int32))) Q) ∧ (¬ (vX12_peek s ) = (32 : Int32) → rX12_peek s  ∧ ((¬ (vX12_peek s ) = (10 : Int32) → (((gI (pI (pI s 248 12 (gI s 248 4)) 248 13 (0 : Int32)) 248 3) ≤ (gI (pI (pI s 248 12 (gI s 248 4)) 248 13 (0 : Int32)) 248 5) → BV MX12_next 1 80 [(0, .ref 248)] (pI (pI s 248 12 (gI s 248 4)) 248 13 (0 : Int32)) Q) ∧ (¬ (gI (pI (pI s 248 12 (gI s 248 4)) 248 13 (0 : Int32)) 248 3) ≤ (gI (pI (pI s 248 12 (gI s 248 4)) 248 13 (0 : Int32)) 248 5) → (((gI (pI (pI s 248 12 (gI s 248 4)) 248 13 (0 : Int32)) 248 4) < (gI (pI (pI s 248 12 (gI s 248 4)) 248 13 (0 : Int32)) 248 5) → BV MX12_next 1 80 [(0, .ref 248)] (pI (pI s 248 12 (gI s 248 4)) 248 13 (0 : Int32)) Q) ∧ (¬ (gI (pI (pI s 248 12 (gI s 248 4)) 248 13 (0 : Int32)) 248 4) < (gI (pI (pI s 248 12 (gI s 248 4)) 248 13 (0 : Int32)) 248 5) → (∀ s1, s1 = (pI (pI (pI s 248 12 (gI s 248 4)) 248 13 (0 : Int32)) 248 12 (gI (pI (pI s 248 12 (gI s 248 4)) 248 13 (0 : Int32)) 248 5)) → Q (pI s1 248 11 (4 : Int32)))))))) ∧ ((vX12_peek s ) = (10 : Int32) → BV MX12_next 1 0 [(0, .ref 248)] (pI s 248 4 ((gI s 248 4) + (1 : Int32))) Q))))) : BV MX12_next 1 0 [(0, .ref 248)] s Q := by
  refine JT_aload_n (q := 0) dX12_next_0 rfl rfl ?_
  obtain ⟨o7, h⟩ := h
  refine JS_callVI (M' := MX12_peek) (d' := 0) (As := []) (rest := []) (P := (fun zv9 wm9 => (vX12_peek s ) = zv9 ∧ s = wm9)) dX12_next_1 cvX12_160 okX12_peek rfl (Nat.le_of_ble_eq_true rfl) BS_248 (Nat.le_of_ble_eq_true rfl) (Nat.le_of_ble_eq_true rfl) hci_12 (Nat.le_of_ble_eq_true rfl) (Nat.le_of_ble_eq_true rfl) (pX12_peek   o7 ⟨rfl, rfl⟩) (fun zv9 wm9 hq9 => ?_)
  obtain ⟨rfl, rfl⟩ := hq9
  refine JT_bipush (v := 32) dX12_next_4 bp_32 ?_
  refine JT_icmp_eq (tgt := 18) dX12_next_6 (by decide) (fun hc6 => ?_) (fun hc6 => ?_)
  · have h := h.1 hc6
    refine JT_aload_n (q := 0) dX12_next_18 rfl rfl ?_
    refine JT_dup dX12_next_19 rfl ?_
    refine JS_getI dX12_next_20 flX12_21 BS_248 (Nat.le_of_ble_eq_true rfl) (Nat.le_of_ble_eq_true rfl) (Or.inl ct_12_4) ?_
    refine JT_iconst (v := 1) dX12_next_23 ic_1 ?_
    refine JT_iadd dX12_next_24 ?_
    refine JS_putI dX12_next_25 flX12_21 BS_248 (Nat.le_of_ble_eq_true rfl) (Nat.le_of_ble_eq_true rfl) ct_12_4 ?_
    refine JT_goto (tgt := 0) dX12_next_28 (by decide) ?_
    exact JT_sub [0] rfl h
  · have h := h.2 hc6
    refine JT_aload_n (q := 0) dX12_next_9 rfl rfl ?_
    obtain ⟨o5, h⟩ := h
    refine JS_callVI (M' := MX12_peek) (d' := 0) (As := []) (rest := []) (P := (fun zv9 wm9 => (vX12_peek s ) = zv9 ∧ s = wm9)) dX12_next_10 cvX12_160 okX12_peek rfl (Nat.le_of_ble_eq_true rfl) BS_248 (Nat.le_of_ble_eq_true rfl) (Nat.le_of_ble_eq_true rfl) hci_12 (Nat.le_of_ble_eq_true rfl) (Nat.le_of_ble_eq_true rfl) (pX12_peek   o5 ⟨rfl, rfl⟩) (fun zv9 wm9 hq9 => ?_)
    obtain ⟨rfl, rfl⟩ := hq9
    refine JT_bipush (v := 10) dX12_next_13 bp_10 ?_
    refine JT_icmp_ne (tgt := 31) dX12_next_15 (by decide) (fun hc4 => ?_) (fun hc4 => ?_)
    · have h := h.1 hc4
      refine JT_aload_n (q := 0) dX12_next_31 rfl rfl ?_
      refine JT_aload_n (q := 0) dX12_next_32 rfl rfl ?_
      refine JS_getI dX12_next_33 flX12_21 BS_248 (Nat.le_of_ble_eq_true rfl) (Nat.le_of_ble_eq_true rfl) (Or.inl ct_12_4) ?_
      refine JS_putI dX12_next_36 flX12_164 BS_248 (Nat.le_of_ble_eq_true rfl) (Nat.le_of_ble_eq_true rfl) ct_12_12 ?_
      refine JT_aload_n (q := 0) dX12_next_39 rfl rfl ?_
      refine JT_iconst (v := 0) dX12_next_40 ic_0 ?_
      refine JS_putI dX12_next_41 flX12_167 BS_248 (Nat.le_of_ble_eq_true rfl) (Nat.le_of_ble_eq_true rfl) ct_12_13 ?_
      refine JT_aload_n (q := 0) dX12_next_44 rfl rfl ?_
      refine JS_getI dX12_next_45 flX12_18 BS_248 (Nat.le_of_ble_eq_true rfl) (Nat.le_of_ble_eq_true rfl) (Or.inl ct_12_3) ?_
      refine JT_aload_n (q := 0) dX12_next_48 rfl rfl ?_
      refine JS_getI dX12_next_49 flX12_24 BS_248 (Nat.le_of_ble_eq_true rfl) (Nat.le_of_ble_eq_true rfl) (Or.inl ct_12_5) ?_
      refine JT_icmp_le (tgt := 80) dX12_next_52 (by decide) (fun hc3 => ?_) (fun hc3 => ?_)
      · have h := h.1 hc3
        exact JT_sub [0] rfl h
      · have h := h.2 hc3
        refine JT_aload_n (q := 0) dX12_next_55 rfl rfl ?_
        refine JS_getI dX12_next_56 flX12_21 BS_248 (Nat.le_of_ble_eq_true rfl) (Nat.le_of_ble_eq_true rfl) (Or.inl ct_12_4) ?_
        refine JT_aload_n (q := 0) dX12_next_59 rfl rfl ?_
        refine JS_getI dX12_next_60 flX12_24 BS_248 (Nat.le_of_ble_eq_true rfl) (Nat.le_of_ble_eq_true rfl) (Or.inl ct_12_5) ?_
        refine JT_icmp_lt (tgt := 80) dX12_next_63 (by decide) (fun hc2 => ?_) (fun hc2 => ?_)
        · have h := h.1 hc2
          exact JT_sub [0] rfl h
        · have h := h.2 hc2
          refine JT_aload_n (q := 0) dX12_next_66 rfl rfl ?_
          refine JT_aload_n (q := 0) dX12_next_67 rfl rfl ?_
          refine JS_getI dX12_next_68 flX12_24 BS_248 (Nat.le_of_ble_eq_true rfl) (Nat.le_of_ble_eq_true rfl) (Or.inl ct_12_5) ?_
          refine JS_putI dX12_next_71 flX12_164 BS_248 (Nat.le_of_ble_eq_true rfl) (Nat.le_of_ble_eq_true rfl) ct_12_12 ?_
          obtain ⟨s1, hs1⟩ : ∃ z, z = (pI (pI (pI s 248 12 (gI s 248 4)) 248 13 (0 : Int32)) 248 12 (gI (pI (pI s 248 12 (gI s 248 4)) 248 13 (0 : Int32)) 248 5)) := ⟨_, rfl⟩
          replace h := h s1 hs1
          rw [← hs1]
          refine JT_aload_n (q := 0) dX12_next_74 rfl rfl ?_
          refine JT_iconst (v := 4) dX12_next_75 ic_4 ?_
          refine JS_putI dX12_next_76 flX12_170 BS_248 (Nat.le_of_ble_eq_true rfl) (Nat.le_of_ble_eq_true rfl) ct_12_11 ?_
          exact JS_vret dX12_next_79 rfl h
    · have h := h.2 hc4
      refine JT_aload_n (q := 0) dX12_next_18 rfl rfl ?_
      refine JT_dup dX12_next_19 rfl ?_
      refine JS_getI dX12_next_20 flX12_21 BS_248 (Nat.le_of_ble_eq_true rfl) (Nat.le_of_ble_eq_true rfl) (Or.inl ct_12_4) ?_
      refine JT_iconst (v := 1) dX12_next_23 ic_1 ?_
      refine JT_iadd dX12_next_24 ?_
      refine JS_putI dX12_next_25 flX12_21 BS_248 (Nat.le_of_ble_eq_true rfl) (Nat.le_of_ble_eq_true rfl) ct_12_4 ?_
      refine JT_goto (tgt := 0) dX12_next_28 (by decide) ?_
      exact JT_sub [0] rfl h
set_option maxRecDepth 1000000 in
theorem bX12_next_80  {s : SM} {Q : SM → Prop} (h : rX12_peek s  ∧ ((0 ≤ (vX12_peek s ) → ((¬ (vX12_isSmall s (vX12_peek s )) = 0 → BV MX12_next 1 140 [(0, .ref 248), (1, .int (vX12_peek s ))] s Q) ∧ ((vX12_isSmall s (vX12_peek s )) = 0 → ((¬ (vX12_isDigit s (vX12_peek s )) = 0 → BV MX12_next 1 140 [(0, .ref 248), (1, .int (vX12_peek s ))] s Q) ∧ ((vX12_isDigit s (vX12_peek s )) = 0 → (∀ s1, s1 = (pI (pI (pI s 248 11 (if (vX12_peek s ) = (59 : Int32) then (3 : Int32) else (4 : Int32))) 248 14 (vX12_peek s )) 248 4 ((gI (pI (pI s 248 11 (if (vX12_peek s ) = (59 : Int32) then (3 : Int32) else (4 : Int32))) 248 14 (vX12_peek s )) 248 4) + (1 : Int32))) → Q s1)))))) ∧ (¬ 0 ≤ (vX12_peek s ) → Q (pI s 248 11 (0 : Int32))))) : BV MX12_next 1 80 [(0, .ref 248)] s Q := by
  refine JT_aload_n (q := 0) dX12_next_80 rfl rfl ?_
  obtain ⟨o9, h⟩ := h
  refine JS_callVI (M' := MX12_peek) (d' := 0) (As := []) (rest := []) (P := (fun zv9 wm9 => (vX12_peek s ) = zv9 ∧ s = wm9)) dX12_next_81 cvX12_160 okX12_peek rfl (Nat.le_of_ble_eq_true rfl) BS_248 (Nat.le_of_ble_eq_true rfl) (Nat.le_of_ble_eq_true rfl) hci_12 (Nat.le_of_ble_eq_true rfl) (Nat.le_of_ble_eq_true rfl) (pX12_peek   o9 ⟨rfl, rfl⟩) (fun zv9 wm9 hq9 => ?_)
  obtain ⟨rfl, rfl⟩ := hq9
  refine JT_istore_n (lv' := [(1, .int (vX12_peek s )), (0, .ref 248)]) dX12_next_84 rfl (Nat.le_of_ble_eq_true rfl) rfl ?_
  refine JT_iload_n (q := 0) dX12_next_85 rfl rfl ?_
  refine JT_if_ge (tgt := 95) dX12_next_86 (by decide) (fun hc8 => ?_) (fun hc8 => ?_)
  · have h := h.1 hc8
    refine JT_iload_n (q := 0) dX12_next_95 rfl rfl ?_
    refine JS_callSI (M' := MX12_isSmall) (d' := 0) (As := [.int (vX12_peek s )]) (rest := []) (P := (fun zv9 wm9 => (vX12_isSmall s (vX12_peek s )) = zv9 ∧ s = wm9)) dX12_next_96 cvX12_173 okX12_isSmall rfl (Nat.le_of_ble_eq_true rfl) (Nat.le_of_ble_eq_true rfl) (Nat.le_of_ble_eq_true rfl) (pX12_isSmall  ((vX12_peek s ))  ⟨rfl, rfl⟩) (fun zv9 wm9 hq9 => ?_)
    obtain ⟨rfl, rfl⟩ := hq9
    refine JT_if_ne (tgt := 140) dX12_next_99 (by decide) (fun hc6 => ?_) (fun hc6 => ?_)
    · have h := h.1 hc6
      exact JT_sub [1, 0] rfl h
    · have h := h.2 hc6
      refine JT_iload_n (q := 0) dX12_next_102 rfl rfl ?_
      refine JS_callSI (M' := MX12_isDigit) (d' := 0) (As := [.int (vX12_peek s )]) (rest := []) (P := (fun zv9 wm9 => (vX12_isDigit s (vX12_peek s )) = zv9 ∧ s = wm9)) dX12_next_103 cvX12_177 okX12_isDigit rfl (Nat.le_of_ble_eq_true rfl) (Nat.le_of_ble_eq_true rfl) (Nat.le_of_ble_eq_true rfl) (pX12_isDigit  ((vX12_peek s ))  ⟨rfl, rfl⟩) (fun zv9 wm9 hq9 => ?_)
      obtain ⟨rfl, rfl⟩ := hq9
      refine JT_if_ne (tgt := 140) dX12_next_106 (by decide) (fun hc4 => ?_) (fun hc4 => ?_)
      · have h := h.1 hc4
        exact JT_sub [1, 0] rfl h
      · have h := h.2 hc4
        refine JT_aload_n (q := 1) dX12_next_109 rfl rfl ?_
        refine JT_iload_n (q := 0) dX12_next_110 rfl rfl ?_
        refine JT_bipush (v := 59) dX12_next_111 bp_59 ?_
        have hj2 : ∀ v : Int32, v = (if (vX12_peek s ) = (59 : Int32) then (3 : Int32) else (4 : Int32)) → JT MX12_next 1 0 0 121 [(1, .int (vX12_peek s )), (0, .ref 248)] [.int v, .ref 248] (std s) (KQv Q) := by
          intro v hv
          subst hv
          refine JS_putI dX12_next_121 flX12_170 BS_248 (Nat.le_of_ble_eq_true rfl) (Nat.le_of_ble_eq_true rfl) ct_12_11 ?_
          refine JT_aload_n (q := 1) dX12_next_124 rfl rfl ?_
          refine JT_iload_n (q := 0) dX12_next_125 rfl rfl ?_
          refine JS_putI dX12_next_126 flX12_180 BS_248 (Nat.le_of_ble_eq_true rfl) (Nat.le_of_ble_eq_true rfl) ct_12_14 ?_
          refine JT_aload_n (q := 1) dX12_next_129 rfl rfl ?_
          refine JT_dup dX12_next_130 rfl ?_
          refine JS_getI dX12_next_131 flX12_21 BS_248 (Nat.le_of_ble_eq_true rfl) (Nat.le_of_ble_eq_true rfl) (Or.inl ct_12_4) ?_
          refine JT_iconst (v := 1) dX12_next_134 ic_1 ?_
          refine JT_iadd dX12_next_135 ?_
          refine JS_putI dX12_next_136 flX12_21 BS_248 (Nat.le_of_ble_eq_true rfl) (Nat.le_of_ble_eq_true rfl) ct_12_4 ?_
          obtain ⟨s1, hs1⟩ : ∃ z, z = (pI (pI (pI s 248 11 (if (vX12_peek s ) = (59 : Int32) then (3 : Int32) else (4 : Int32))) 248 14 (vX12_peek s )) 248 4 ((gI (pI (pI s 248 11 (if (vX12_peek s ) = (59 : Int32) then (3 : Int32) else (4 : Int32))) 248 14 (vX12_peek s )) 248 4) + (1 : Int32))) := ⟨_, rfl⟩
          replace h := h s1 hs1
          rw [← hs1]
          exact JS_vret dX12_next_139 rfl h
        refine JT_icmp_ne (tgt := 120) dX12_next_113 (by decide) (fun hc3 => ?_) (fun hc3 => ?_)
        · refine JT_iconst (v := 4) dX12_next_120 ic_4 ?_
          exact hj2 _ (by rw [if_neg hc3])
        · refine JT_iconst (v := 3) dX12_next_116 ic_3 ?_
          refine JT_goto (tgt := 121) dX12_next_117 (by decide) ?_
          exact hj2 _ (by rw [if_pos hc3])
  · have h := h.2 hc8
    refine JT_aload_n (q := 1) dX12_next_89 rfl rfl ?_
    refine JT_iconst (v := 0) dX12_next_90 ic_0 ?_
    refine JS_putI dX12_next_91 flX12_170 BS_248 (Nat.le_of_ble_eq_true rfl) (Nat.le_of_ble_eq_true rfl) ct_12_11 ?_
    exact JS_vret dX12_next_94 rfl h
set_option maxRecDepth 1000000 in
theorem bX12_next_140 (a1 : Int32) {s : SM} {Q : SM → Prop} (h : BV MX12_next 1 157 [(0, .ref 248), (1, .int a1), (2, .int (vX12_isSmall s a1)), (3, .int (1 : Int32))] (pI (pL s 248 17 (0 : Int64)) 248 14 (0 : Int32)) Q) : BV MX12_next 1 140 [(0, .ref 248), (1, .int a1)] s Q := by
  refine JT_iload_n (q := 1) dX12_next_140 rfl rfl ?_
  refine JS_callSI (M' := MX12_isSmall) (d' := 0) (As := [.int a1]) (rest := []) (P := (fun zv9 wm9 => (vX12_isSmall s a1) = zv9 ∧ s = wm9)) dX12_next_141 cvX12_173 okX12_isSmall rfl (Nat.le_of_ble_eq_true rfl) (Nat.le_of_ble_eq_true rfl) (Nat.le_of_ble_eq_true rfl) (pX12_isSmall  (a1)  ⟨rfl, rfl⟩) (fun zv9 wm9 hq9 => ?_)
  obtain ⟨rfl, rfl⟩ := hq9
  refine JT_istore_n (lv' := [(2, .int (vX12_isSmall s a1)), (0, .ref 248), (1, .int a1)]) dX12_next_144 rfl (Nat.le_of_ble_eq_true rfl) rfl ?_
  refine JT_iconst (v := 1) dX12_next_145 ic_1 ?_
  refine JT_istore_n (lv' := [(3, .int (1 : Int32)), (2, .int (vX12_isSmall s a1)), (0, .ref 248), (1, .int a1)]) dX12_next_146 rfl (Nat.le_of_ble_eq_true rfl) rfl ?_
  refine JT_aload_n (q := 2) dX12_next_147 rfl rfl ?_
  refine JT_lconst (v := 0) dX12_next_148 (by decide) ?_
  refine JS_putL dX12_next_149 flX12_183 BS_248 (Nat.le_of_ble_eq_true rfl) (Nat.le_of_ble_eq_true rfl) ct_12_17 ?_
  refine JT_aload_n (q := 2) dX12_next_152 rfl rfl ?_
  refine JT_iconst (v := 0) dX12_next_153 ic_0 ?_
  refine JS_putI dX12_next_154 flX12_180 BS_248 (Nat.le_of_ble_eq_true rfl) (Nat.le_of_ble_eq_true rfl) ct_12_14 ?_
  exact JT_sub [2, 3, 1, 0] rfl h
set_option maxRecDepth 1000000 in
theorem bX12_next_157 (a1 : Int32) (a2 : Int32) (a3 : Int32) {s : SM} {Q : SM → Prop} (h : rX12_peek s  ∧ ((¬ (vX12_isSmall s (vX12_peek s )) = 0 → BV MX12_next 1 177 [(0, .ref 248), (1, .int a1), (2, .int a2), (3, .int a3)] s Q) ∧ ((vX12_isSmall s (vX12_peek s )) = 0 → rX12_peek s  ∧ (((vX12_isDigit s (vX12_peek s )) = 0 → (∀ s1, s1 = (pI s 248 11 (if a3 = 0 then (4 : Int32) else (if a2 = 0 then (if (gI s 248 13) ≤ (2 : Int32) then (if a2 = 0 then (2 : Int32) else (1 : Int32)) else (4 : Int32)) else (if (gI s 248 13) ≤ (7 : Int32) then (if a2 = 0 then (2 : Int32) else (1 : Int32)) else (4 : Int32))))) → Q s1)) ∧ (¬ (vX12_isDigit s (vX12_peek s )) = 0 → BV MX12_next 1 177 [(0, .ref 248), (1, .int a1), (2, .int a2), (3, .int a3)] s Q))))) : BV MX12_next 1 157 [(0, .ref 248), (1, .int a1), (2, .int a2), (3, .int a3)] s Q := by
  refine JT_aload_n (q := 0) dX12_next_157 rfl rfl ?_
  obtain ⟨o14, h⟩ := h
  refine JS_callVI (M' := MX12_peek) (d' := 0) (As := []) (rest := []) (P := (fun zv9 wm9 => (vX12_peek s ) = zv9 ∧ s = wm9)) dX12_next_158 cvX12_160 okX12_peek rfl (Nat.le_of_ble_eq_true rfl) BS_248 (Nat.le_of_ble_eq_true rfl) (Nat.le_of_ble_eq_true rfl) hci_12 (Nat.le_of_ble_eq_true rfl) (Nat.le_of_ble_eq_true rfl) (pX12_peek   o14 ⟨rfl, rfl⟩) (fun zv9 wm9 hq9 => ?_)
  obtain ⟨rfl, rfl⟩ := hq9
  refine JS_callSI (M' := MX12_isSmall) (d' := 0) (As := [.int (vX12_peek s )]) (rest := []) (P := (fun zv9 wm9 => (vX12_isSmall s (vX12_peek s )) = zv9 ∧ s = wm9)) dX12_next_161 cvX12_173 okX12_isSmall rfl (Nat.le_of_ble_eq_true rfl) (Nat.le_of_ble_eq_true rfl) (Nat.le_of_ble_eq_true rfl) (pX12_isSmall  ((vX12_peek s ))  ⟨rfl, rfl⟩) (fun zv9 wm9 hq9 => ?_)
  obtain ⟨rfl, rfl⟩ := hq9
  refine JT_if_ne (tgt := 177) dX12_next_164 (by decide) (fun hc12 => ?_) (fun hc12 => ?_)
  · have h := h.1 hc12
    exact JT_sub [0, 1, 2, 3] rfl h
  · have h := h.2 hc12
    refine JT_aload_n (q := 0) dX12_next_167 rfl rfl ?_
    obtain ⟨o11, h⟩ := h
    refine JS_callVI (M' := MX12_peek) (d' := 0) (As := []) (rest := []) (P := (fun zv9 wm9 => (vX12_peek s ) = zv9 ∧ s = wm9)) dX12_next_168 cvX12_160 okX12_peek rfl (Nat.le_of_ble_eq_true rfl) BS_248 (Nat.le_of_ble_eq_true rfl) (Nat.le_of_ble_eq_true rfl) hci_12 (Nat.le_of_ble_eq_true rfl) (Nat.le_of_ble_eq_true rfl) (pX12_peek   o11 ⟨rfl, rfl⟩) (fun zv9 wm9 hq9 => ?_)
    obtain ⟨rfl, rfl⟩ := hq9
    refine JS_callSI (M' := MX12_isDigit) (d' := 0) (As := [.int (vX12_peek s )]) (rest := []) (P := (fun zv9 wm9 => (vX12_isDigit s (vX12_peek s )) = zv9 ∧ s = wm9)) dX12_next_171 cvX12_177 okX12_isDigit rfl (Nat.le_of_ble_eq_true rfl) (Nat.le_of_ble_eq_true rfl) (Nat.le_of_ble_eq_true rfl) (pX12_isDigit  ((vX12_peek s ))  ⟨rfl, rfl⟩) (fun zv9 wm9 hq9 => ?_)
    obtain ⟨rfl, rfl⟩ := hq9
    refine JT_if_eq (tgt := 274) dX12_next_174 (by decide) (fun hc9 => ?_) (fun hc9 => ?_)
    · have h := h.1 hc9
      refine JT_aload_n (q := 0) dX12_next_274 rfl rfl ?_
      refine JT_iload_n (q := 3) dX12_next_275 rfl rfl ?_
      have hj2 : ∀ v : Int32, v = (if a3 = 0 then (4 : Int32) else (if a2 = 0 then (if (gI s 248 13) ≤ (2 : Int32) then (if a2 = 0 then (2 : Int32) else (1 : Int32)) else (4 : Int32)) else (if (gI s 248 13) ≤ (7 : Int32) then (if a2 = 0 then (2 : Int32) else (1 : Int32)) else (4 : Int32)))) → JT MX12_next 1 0 0 309 [(0, .ref 248), (1, .int a1), (2, .int a2), (3, .int a3)] [.int v, .ref 248] (std s) (KQv Q) := by
        intro v hv
        subst hv
        refine JS_putI dX12_next_309 flX12_170 BS_248 (Nat.le_of_ble_eq_true rfl) (Nat.le_of_ble_eq_true rfl) ct_12_11 ?_
        obtain ⟨s1, hs1⟩ : ∃ z, z = (pI s 248 11 (if a3 = 0 then (4 : Int32) else (if a2 = 0 then (if (gI s 248 13) ≤ (2 : Int32) then (if a2 = 0 then (2 : Int32) else (1 : Int32)) else (4 : Int32)) else (if (gI s 248 13) ≤ (7 : Int32) then (if a2 = 0 then (2 : Int32) else (1 : Int32)) else (4 : Int32))))) := ⟨_, rfl⟩
        replace h := h s1 hs1
        rw [← hs1]
        exact JS_vret dX12_next_312 rfl h
      refine JT_if_eq (tgt := 296) dX12_next_276 (by decide) (fun hc3 => ?_) (fun hc3 => ?_)
      · refine JT_iconst (v := 4) dX12_next_296 ic_4 ?_
        refine JT_goto (tgt := 309) dX12_next_297 (by decide) ?_
        exact hj2 _ (by rw [if_pos hc3])
      · refine JT_aload_n (q := 0) dX12_next_279 rfl rfl ?_
        refine JS_getI dX12_next_280 flX12_167 BS_248 (Nat.le_of_ble_eq_true rfl) (Nat.le_of_ble_eq_true rfl) (Or.inl ct_12_13) ?_
        refine JT_iload_n (q := 2) dX12_next_283 rfl rfl ?_
        refine JT_if_eq (tgt := 292) dX12_next_284 (by decide) (fun hc4 => ?_) (fun hc4 => ?_)
        · refine JT_iconst (v := 2) dX12_next_292 ic_2 ?_
          refine JT_icmp_le (tgt := 300) dX12_next_293 (by decide) (fun hc5 => ?_) (fun hc5 => ?_)
          · refine JT_iload_n (q := 2) dX12_next_300 rfl rfl ?_
            refine JT_if_eq (tgt := 308) dX12_next_301 (by decide) (fun hc6 => ?_) (fun hc6 => ?_)
            · refine JT_iconst (v := 2) dX12_next_308 ic_2 ?_
              exact hj2 _ (by rw [if_neg hc3, if_pos hc4, if_pos hc5, if_pos hc6])
            · refine JT_iconst (v := 1) dX12_next_304 ic_1 ?_
              refine JT_goto (tgt := 309) dX12_next_305 (by decide) ?_
              exact hj2 _ (by rw [if_neg hc3, if_pos hc4, if_pos hc5, if_neg hc6])
          · refine JT_iconst (v := 4) dX12_next_296 ic_4 ?_
            refine JT_goto (tgt := 309) dX12_next_297 (by decide) ?_
            exact hj2 _ (by rw [if_neg hc3, if_pos hc4, if_neg hc5])
        · refine JT_bipush (v := 7) dX12_next_287 bp_7 ?_
          refine JT_goto (tgt := 293) dX12_next_289 (by decide) ?_
          refine JT_icmp_le (tgt := 300) dX12_next_293 (by decide) (fun hc7 => ?_) (fun hc7 => ?_)
          · refine JT_iload_n (q := 2) dX12_next_300 rfl rfl ?_
            refine JT_if_eq (tgt := 308) dX12_next_301 (by decide) (fun hc8 => ?_) (fun hc8 => ?_)
            · refine JT_iconst (v := 2) dX12_next_308 ic_2 ?_
              exact hj2 _ (by rw [if_neg hc3, if_neg hc4, if_pos hc7, if_pos hc8])
            · refine JT_iconst (v := 1) dX12_next_304 ic_1 ?_
              refine JT_goto (tgt := 309) dX12_next_305 (by decide) ?_
              exact hj2 _ (by rw [if_neg hc3, if_neg hc4, if_pos hc7, if_neg hc8])
          · refine JT_iconst (v := 4) dX12_next_296 ic_4 ?_
            refine JT_goto (tgt := 309) dX12_next_297 (by decide) ?_
            exact hj2 _ (by rw [if_neg hc3, if_neg hc4, if_neg hc7])
    · have h := h.2 hc9
      exact JT_sub [0, 1, 2, 3] rfl h
set_option maxRecDepth 1000000 in
theorem bX12_next_177 (a1 : Int32) (a2 : Int32) (a3 : Int32) {s : SM} {Q : SM → Prop} (h : ((a3 = 0 → BV MX12_next 1 196 [(0, .ref 248), (1, .int a1), (2, .int a2), (3, .int a3)] s Q) ∧ (¬ a3 = 0 → rX12_peek s  ∧ ((¬ (vX12_isSmall s (vX12_peek s )) = a2 → BV MX12_next 1 196 [(0, .ref 248), (1, .int a1), (2, .int a2), (3, .int a3)] s Q) ∧ ((vX12_isSmall s (vX12_peek s )) = a2 → (((7 : Int32) ≤ (gI s 248 13) → BV MX12_next 1 224 [(0, .ref 248), (1, .int a1), (2, .int a2), (3, .int (1 : Int32))] s Q) ∧ (¬ (7 : Int32) ≤ (gI s 248 13) → rX12_peek s  ∧ BV MX12_next 1 224 [(0, .ref 248), (1, .int a1), (2, .int a2), (3, .int (1 : Int32))] (pL s 248 17 (((gL s 248 17) <<< (((8 : Int32)).toInt64 &&& 63)) ||| ((vX12_peek s )).toInt64)) Q))))))) : BV MX12_next 1 177 [(0, .ref 248), (1, .int a1), (2, .int a2), (3, .int a3)] s Q := by
  refine JT_iload_n (q := 3) dX12_next_177 rfl rfl ?_
  refine JT_if_eq (tgt := 196) dX12_next_178 (by decide) (fun hc6 => ?_) (fun hc6 => ?_)
  · have h := h.1 hc6
    exact JT_sub [0, 1, 2, 3] rfl h
  · have h := h.2 hc6
    refine JT_aload_n (q := 0) dX12_next_181 rfl rfl ?_
    obtain ⟨o5, h⟩ := h
    refine JS_callVI (M' := MX12_peek) (d' := 0) (As := []) (rest := []) (P := (fun zv9 wm9 => (vX12_peek s ) = zv9 ∧ s = wm9)) dX12_next_182 cvX12_160 okX12_peek rfl (Nat.le_of_ble_eq_true rfl) BS_248 (Nat.le_of_ble_eq_true rfl) (Nat.le_of_ble_eq_true rfl) hci_12 (Nat.le_of_ble_eq_true rfl) (Nat.le_of_ble_eq_true rfl) (pX12_peek   o5 ⟨rfl, rfl⟩) (fun zv9 wm9 hq9 => ?_)
    obtain ⟨rfl, rfl⟩ := hq9
    refine JS_callSI (M' := MX12_isSmall) (d' := 0) (As := [.int (vX12_peek s )]) (rest := []) (P := (fun zv9 wm9 => (vX12_isSmall s (vX12_peek s )) = zv9 ∧ s = wm9)) dX12_next_185 cvX12_173 okX12_isSmall rfl (Nat.le_of_ble_eq_true rfl) (Nat.le_of_ble_eq_true rfl) (Nat.le_of_ble_eq_true rfl) (pX12_isSmall  ((vX12_peek s ))  ⟨rfl, rfl⟩) (fun zv9 wm9 hq9 => ?_)
    obtain ⟨rfl, rfl⟩ := hq9
    refine JT_iload_n (q := 2) dX12_next_188 rfl rfl ?_
    refine JT_icmp_ne (tgt := 196) dX12_next_189 (by decide) (fun hc3 => ?_) (fun hc3 => ?_)
    · have h := h.1 hc3
      exact JT_sub [0, 1, 2, 3] rfl h
    · have h := h.2 hc3
      refine JT_iconst (v := 1) dX12_next_192 ic_1 ?_
      refine JT_goto (tgt := 197) dX12_next_193 (by decide) ?_
      refine JT_istore_n (lv' := [(3, .int (1 : Int32)), (0, .ref 248), (1, .int a1), (2, .int a2)]) dX12_next_197 rfl (Nat.le_of_ble_eq_true rfl) rfl ?_
      refine JT_aload_n (q := 1) dX12_next_198 rfl rfl ?_
      refine JS_getI dX12_next_199 flX12_167 BS_248 (Nat.le_of_ble_eq_true rfl) (Nat.le_of_ble_eq_true rfl) (Or.inl ct_12_13) ?_
      refine JT_bipush (v := 7) dX12_next_202 bp_7 ?_
      refine JT_icmp_ge (tgt := 224) dX12_next_204 (by decide) (fun hc2 => ?_) (fun hc2 => ?_)
      · have h := h.1 hc2
        exact JT_sub [1, 2, 3, 0] rfl h
      · have h := h.2 hc2
        refine JT_aload_n (q := 1) dX12_next_207 rfl rfl ?_
        refine JT_aload_n (q := 1) dX12_next_208 rfl rfl ?_
        refine JS_getL dX12_next_209 flX12_183 BS_248 (Nat.le_of_ble_eq_true rfl) (Nat.le_of_ble_eq_true rfl) ct_12_17 ?_
        refine JT_bipush (v := 8) dX12_next_212 bp_8 ?_
        refine JT_lshl dX12_next_214 ?_
        refine JT_aload_n (q := 1) dX12_next_215 rfl rfl ?_
        obtain ⟨o1, h⟩ := h
        refine JS_callVI (M' := MX12_peek) (d' := 0) (As := []) (rest := [.long ((gL s 248 17) <<< (((8 : Int32)).toInt64 &&& 63)), .ref 248]) (P := (fun zv9 wm9 => (vX12_peek s ) = zv9 ∧ s = wm9)) dX12_next_216 cvX12_160 okX12_peek rfl (Nat.le_of_ble_eq_true rfl) BS_248 (Nat.le_of_ble_eq_true rfl) (Nat.le_of_ble_eq_true rfl) hci_12 (Nat.le_of_ble_eq_true rfl) (Nat.le_of_ble_eq_true rfl) (pX12_peek   o1 ⟨rfl, rfl⟩) (fun zv9 wm9 hq9 => ?_)
        obtain ⟨rfl, rfl⟩ := hq9
        refine JT_i2l dX12_next_219 ?_
        refine JT_lor dX12_next_220 ?_
        refine JS_putL dX12_next_221 flX12_183 BS_248 (Nat.le_of_ble_eq_true rfl) (Nat.le_of_ble_eq_true rfl) ct_12_17 ?_
        exact JT_sub [1, 2, 3, 0] rfl h
set_option maxRecDepth 1000000 in
theorem bX12_next_196 (a1 : Int32) (a2 : Int32) (a3 : Int32) {s : SM} {Q : SM → Prop} (h : (((7 : Int32) ≤ (gI s 248 13) → BV MX12_next 1 224 [(0, .ref 248), (1, .int a1), (2, .int a2), (3, .int (0 : Int32))] s Q) ∧ (¬ (7 : Int32) ≤ (gI s 248 13) → rX12_peek s  ∧ BV MX12_next 1 224 [(0, .ref 248), (1, .int a1), (2, .int a2), (3, .int (0 : Int32))] (pL s 248 17 (((gL s 248 17) <<< (((8 : Int32)).toInt64 &&& 63)) ||| ((vX12_peek s )).toInt64)) Q))) : BV MX12_next 1 196 [(0, .ref 248), (1, .int a1), (2, .int a2), (3, .int a3)] s Q := by
  refine JT_iconst (v := 0) dX12_next_196 ic_0 ?_
  refine JT_istore_n (lv' := [(3, .int (0 : Int32)), (0, .ref 248), (1, .int a1), (2, .int a2)]) dX12_next_197 rfl (Nat.le_of_ble_eq_true rfl) rfl ?_
  refine JT_aload_n (q := 1) dX12_next_198 rfl rfl ?_
  refine JS_getI dX12_next_199 flX12_167 BS_248 (Nat.le_of_ble_eq_true rfl) (Nat.le_of_ble_eq_true rfl) (Or.inl ct_12_13) ?_
  refine JT_bipush (v := 7) dX12_next_202 bp_7 ?_
  refine JT_icmp_ge (tgt := 224) dX12_next_204 (by decide) (fun hc2 => ?_) (fun hc2 => ?_)
  · have h := h.1 hc2
    exact JT_sub [1, 2, 3, 0] rfl h
  · have h := h.2 hc2
    refine JT_aload_n (q := 1) dX12_next_207 rfl rfl ?_
    refine JT_aload_n (q := 1) dX12_next_208 rfl rfl ?_
    refine JS_getL dX12_next_209 flX12_183 BS_248 (Nat.le_of_ble_eq_true rfl) (Nat.le_of_ble_eq_true rfl) ct_12_17 ?_
    refine JT_bipush (v := 8) dX12_next_212 bp_8 ?_
    refine JT_lshl dX12_next_214 ?_
    refine JT_aload_n (q := 1) dX12_next_215 rfl rfl ?_
    obtain ⟨o1, h⟩ := h
    refine JS_callVI (M' := MX12_peek) (d' := 0) (As := []) (rest := [.long ((gL s 248 17) <<< (((8 : Int32)).toInt64 &&& 63)), .ref 248]) (P := (fun zv9 wm9 => (vX12_peek s ) = zv9 ∧ s = wm9)) dX12_next_216 cvX12_160 okX12_peek rfl (Nat.le_of_ble_eq_true rfl) BS_248 (Nat.le_of_ble_eq_true rfl) (Nat.le_of_ble_eq_true rfl) hci_12 (Nat.le_of_ble_eq_true rfl) (Nat.le_of_ble_eq_true rfl) (pX12_peek   o1 ⟨rfl, rfl⟩) (fun zv9 wm9 hq9 => ?_)
    obtain ⟨rfl, rfl⟩ := hq9
    refine JT_i2l dX12_next_219 ?_
    refine JT_lor dX12_next_220 ?_
    refine JS_putL dX12_next_221 flX12_183 BS_248 (Nat.le_of_ble_eq_true rfl) (Nat.le_of_ble_eq_true rfl) ct_12_17 ?_
    exact JT_sub [1, 2, 3, 0] rfl h
set_option maxRecDepth 1000000 in
theorem bX12_next_224 (a1 : Int32) (a2 : Int32) (a3 : Int32) {s : SM} {Q : SM → Prop} (h : (((2 : Int32) ≤ (gI s 248 13) → (∀ s1, s1 = (pI (pI s 248 13 ((gI s 248 13) + (1 : Int32))) 248 4 ((gI (pI s 248 13 ((gI s 248 13) + (1 : Int32))) 248 4) + (1 : Int32))) → BV MX12_next 1 157 [(0, .ref 248), (1, .int a1), (2, .int a2), (3, .int a3)] s1 Q)) ∧ (¬ (2 : Int32) ≤ (gI s 248 13) → rX12_peek s  ∧ (∀ s2, s2 = (pI (pI s 248 14 ((((10 : Int32) * (gI s 248 14)) + (vX12_peek s )) - (48 : Int32))) 248 13 ((gI (pI s 248 14 ((((10 : Int32) * (gI s 248 14)) + (vX12_peek s )) - (48 : Int32))) 248 13) + (1 : Int32))) → BV MX12_next 1 157 [(0, .ref 248), (1, .int a1), (2, .int a2), (3, .int a3)] (pI s2 248 4 ((gI s2 248 4) + (1 : Int32))) Q)))) : BV MX12_next 1 224 [(0, .ref 248), (1, .int a1), (2, .int a2), (3, .int a3)] s Q := by
  refine JT_aload_n (q := 0) dX12_next_224 rfl rfl ?_
  refine JS_getI dX12_next_225 flX12_167 BS_248 (Nat.le_of_ble_eq_true rfl) (Nat.le_of_ble_eq_true rfl) (Or.inl ct_12_13) ?_
  refine JT_iconst (v := 2) dX12_next_228 ic_2 ?_
  refine JT_icmp_ge (tgt := 251) dX12_next_229 (by decide) (fun hc4 => ?_) (fun hc4 => ?_)
  · have h := h.1 hc4
    refine JT_aload_n (q := 0) dX12_next_251 rfl rfl ?_
    refine JT_dup dX12_next_252 rfl ?_
    refine JS_getI dX12_next_253 flX12_167 BS_248 (Nat.le_of_ble_eq_true rfl) (Nat.le_of_ble_eq_true rfl) (Or.inl ct_12_13) ?_
    refine JT_iconst (v := 1) dX12_next_256 ic_1 ?_
    refine JT_iadd dX12_next_257 ?_
    refine JS_putI dX12_next_258 flX12_167 BS_248 (Nat.le_of_ble_eq_true rfl) (Nat.le_of_ble_eq_true rfl) ct_12_13 ?_
    refine JT_aload_n (q := 0) dX12_next_261 rfl rfl ?_
    refine JT_dup dX12_next_262 rfl ?_
    refine JS_getI dX12_next_263 flX12_21 BS_248 (Nat.le_of_ble_eq_true rfl) (Nat.le_of_ble_eq_true rfl) (Or.inl ct_12_4) ?_
    refine JT_iconst (v := 1) dX12_next_266 ic_1 ?_
    refine JT_iadd dX12_next_267 ?_
    refine JS_putI dX12_next_268 flX12_21 BS_248 (Nat.le_of_ble_eq_true rfl) (Nat.le_of_ble_eq_true rfl) ct_12_4 ?_
    obtain ⟨s1, hs1⟩ : ∃ z, z = (pI (pI s 248 13 ((gI s 248 13) + (1 : Int32))) 248 4 ((gI (pI s 248 13 ((gI s 248 13) + (1 : Int32))) 248 4) + (1 : Int32))) := ⟨_, rfl⟩
    replace h := h s1 hs1
    rw [← hs1]
    refine JT_goto (tgt := 157) dX12_next_271 (by decide) ?_
    exact JT_sub [0, 1, 2, 3] rfl h
  · have h := h.2 hc4
    refine JT_aload_n (q := 0) dX12_next_232 rfl rfl ?_
    refine JT_bipush (v := 10) dX12_next_233 bp_10 ?_
    refine JT_aload_n (q := 0) dX12_next_235 rfl rfl ?_
    refine JS_getI dX12_next_236 flX12_180 BS_248 (Nat.le_of_ble_eq_true rfl) (Nat.le_of_ble_eq_true rfl) (Or.inl ct_12_14) ?_
    refine JT_imul dX12_next_239 ?_
    refine JT_aload_n (q := 0) dX12_next_240 rfl rfl ?_
    obtain ⟨o3, h⟩ := h
    refine JS_callVI (M' := MX12_peek) (d' := 0) (As := []) (rest := [.int ((10 : Int32) * (gI s 248 14)), .ref 248]) (P := (fun zv9 wm9 => (vX12_peek s ) = zv9 ∧ s = wm9)) dX12_next_241 cvX12_160 okX12_peek rfl (Nat.le_of_ble_eq_true rfl) BS_248 (Nat.le_of_ble_eq_true rfl) (Nat.le_of_ble_eq_true rfl) hci_12 (Nat.le_of_ble_eq_true rfl) (Nat.le_of_ble_eq_true rfl) (pX12_peek   o3 ⟨rfl, rfl⟩) (fun zv9 wm9 hq9 => ?_)
    obtain ⟨rfl, rfl⟩ := hq9
    refine JT_iadd dX12_next_244 ?_
    refine JT_bipush (v := 48) dX12_next_245 bp_48 ?_
    refine JT_isub dX12_next_247 ?_
    refine JS_putI dX12_next_248 flX12_180 BS_248 (Nat.le_of_ble_eq_true rfl) (Nat.le_of_ble_eq_true rfl) ct_12_14 ?_
    refine JT_aload_n (q := 0) dX12_next_251 rfl rfl ?_
    refine JT_dup dX12_next_252 rfl ?_
    refine JS_getI dX12_next_253 flX12_167 BS_248 (Nat.le_of_ble_eq_true rfl) (Nat.le_of_ble_eq_true rfl) (Or.inl ct_12_13) ?_
    refine JT_iconst (v := 1) dX12_next_256 ic_1 ?_
    refine JT_iadd dX12_next_257 ?_
    refine JS_putI dX12_next_258 flX12_167 BS_248 (Nat.le_of_ble_eq_true rfl) (Nat.le_of_ble_eq_true rfl) ct_12_13 ?_
    obtain ⟨s2, hs2⟩ : ∃ z, z = (pI (pI s 248 14 ((((10 : Int32) * (gI s 248 14)) + (vX12_peek s )) - (48 : Int32))) 248 13 ((gI (pI s 248 14 ((((10 : Int32) * (gI s 248 14)) + (vX12_peek s )) - (48 : Int32))) 248 13) + (1 : Int32))) := ⟨_, rfl⟩
    replace h := h s2 hs2
    rw [← hs2]
    refine JT_aload_n (q := 0) dX12_next_261 rfl rfl ?_
    refine JT_dup dX12_next_262 rfl ?_
    refine JS_getI dX12_next_263 flX12_21 BS_248 (Nat.le_of_ble_eq_true rfl) (Nat.le_of_ble_eq_true rfl) (Or.inl ct_12_4) ?_
    refine JT_iconst (v := 1) dX12_next_266 ic_1 ?_
    refine JT_iadd dX12_next_267 ?_
    refine JS_putI dX12_next_268 flX12_21 BS_248 (Nat.le_of_ble_eq_true rfl) (Nat.le_of_ble_eq_true rfl) ct_12_4 ?_
    refine JT_goto (tgt := 157) dX12_next_271 (by decide) ?_
    exact JT_sub [0, 1, 2, 3] rfl h
set_option maxRecDepth 1000000 in
theorem bX12_next  {s : SM} {Q : SM → Prop} (h : BV MX12_next 1 0 [(0, .ref 248)] s Q) : KV MX12_next 1 [.ref 248] s Q := by
  show BV MX12_next 1 0 [(0, .ref 248)] s Q
  exact JT_sub [0] rfl h
set_option maxRecDepth 1000000 in
theorem gX12_next  : ∀ n : Nat, (∀  (s : SM) (Q : SM → Prop), ((qX12_next n).1 s ) → Q ((lX12_next n).1 s ) → BV MX12_next 1 0 [(0, .ref 248)] s Q) ∧ (∀  (s : SM) (Q : SM → Prop), ((qX12_next n).2.1 s ) → Q ((lX12_next n).2.1 s ) → BV MX12_next 1 80 [(0, .ref 248)] s Q) ∧ (∀ (a1 : Int32) (s : SM) (Q : SM → Prop), ((qX12_next n).2.2.1 s a1) → Q ((lX12_next n).2.2.1 s a1) → BV MX12_next 1 140 [(0, .ref 248), (1, .int a1)] s Q) ∧ (∀ (a1 : Int32) (a2 : Int32) (a3 : Int32) (s : SM) (Q : SM → Prop), ((qX12_next n).2.2.2.1 s a1 a2 a3) → Q ((lX12_next n).2.2.2.1 s a1 a2 a3) → BV MX12_next 1 157 [(0, .ref 248), (1, .int a1), (2, .int a2), (3, .int a3)] s Q) ∧ (∀ (a1 : Int32) (a2 : Int32) (a3 : Int32) (s : SM) (Q : SM → Prop), ((qX12_next n).2.2.2.2.1 s a1 a2 a3) → Q ((lX12_next n).2.2.2.2.1 s a1 a2 a3) → BV MX12_next 1 177 [(0, .ref 248), (1, .int a1), (2, .int a2), (3, .int a3)] s Q) ∧ (∀ (a1 : Int32) (a2 : Int32) (a3 : Int32) (s : SM) (Q : SM → Prop), ((qX12_next n).2.2.2.2.2.1 s a1 a2 a3) → Q ((lX12_next n).2.2.2.2.2.1 s a1 a2 a3) → BV MX12_next 1 196 [(0, .ref 248), (1, .int a1), (2, .int a2), (3, .int a3)] s Q) ∧ (∀ (a1 : Int32) (a2 : Int32) (a3 : Int32) (s : SM) (Q : SM → Prop), ((qX12_next n).2.2.2.2.2.2 s a1 a2 a3) → Q ((lX12_next n).2.2.2.2.2.2 s a1 a2 a3) → BV MX12_next 1 224 [(0, .ref 248), (1, .int a1), (2, .int a2), (3, .int a3)] s Q) := by
  intro n
  induction n with
  | zero => exact ⟨fun _ _ hq _ => absurd hq id, fun _ _ hq _ => absurd hq id, fun _ _ _ hq _ => absurd hq id, fun _ _ _ _ _ hq _ => absurd hq id, fun _ _ _ _ _ hq _ => absurd hq id, fun _ _ _ _ _ hq _ => absurd hq id, fun _ _ _ _ _ hq _ => absurd hq id⟩
  | succ n ih =>
    refine ⟨?_, ?_, ?_, ?_, ?_, ?_, ?_⟩
    · intro  s Q hr h
      replace hr : uX12_next_0 (qX12_next n) s  := hr
      replace h : Q (tX12_next_0 (lX12_next n) s ) := h
      unfold uX12_next_0 at hr
      unfold tX12_next_0 at h
      refine bX12_next_0  ?_
      refine ⟨hr.1, ?_⟩
      replace hr := hr.2
      refine ⟨fun c => ?_, fun c => ?_⟩
      · replace hr := hr.1 c
        replace h := q1p c h
        first | exact ih.1  _ Q hr h | contradiction
      · replace hr := hr.2 c
        replace h := q1n c h
        refine ⟨hr.1, ?_⟩
        replace hr := hr.2
        refine ⟨fun c => ?_, fun c => ?_⟩
        · replace hr := hr.1 c
          replace h := q1n c h
          refine ⟨fun c => ?_, fun c => ?_⟩
          · replace hr := hr.1 c
            replace h := q1p c h
            first | exact ih.2.1  _ Q hr h | contradiction
          · replace hr := hr.2 c
            replace h := q1n c h
            refine ⟨fun c => ?_, fun c => ?_⟩
            · replace hr := hr c
              replace h := q1p c h
              first | exact ih.2.1  _ Q hr h | contradiction
            · replace h := q1n c h
              intro s1 e9
              try rw [← e9] at h
              try dsimp only at h
              first | exact h | contradiction
        · replace hr := hr.2 c
          replace h := q1p c h
          first | exact ih.1  _ Q hr h | contradiction
    · intro  s Q hr h
      replace hr : uX12_next_80 (qX12_next n) s  := hr
      replace h : Q (tX12_next_80 (lX12_next n) s ) := h
      unfold uX12_next_80 at hr
      unfold tX12_next_80 at h
      refine bX12_next_80  ?_
      refine ⟨hr.1, ?_⟩
      replace hr := hr.2
      refine ⟨fun c => ?_, fun c => ?_⟩
      · replace hr := hr c
        replace h := q1p c h
        refine ⟨fun c => ?_, fun c => ?_⟩
        · replace hr := hr.1 c
          replace h := q1n c h
          first | exact ih.2.2.1 (vX12_peek s ) _ Q hr h | contradiction
        · replace hr := hr.2 c
          replace h := q1p c h
          refine ⟨fun c => ?_, fun c => ?_⟩
          · replace hr := hr c
            replace h := q1n c h
            first | exact ih.2.2.1 (vX12_peek s ) _ Q hr h | contradiction
          · replace h := q1p c h
            intro s1 e9
            try rw [← e9] at h
            try dsimp only at h
            first | exact h | contradiction
      · replace h := q1n c h
        first | exact h | contradiction
    · intro a1 s Q hr h
      replace hr : uX12_next_140 (qX12_next n) s a1 := hr
      replace h : Q (tX12_next_140 (lX12_next n) s a1) := h
      unfold uX12_next_140 at hr
      unfold tX12_next_140 at h
      refine bX12_next_140 a1 ?_
      first | exact ih.2.2.2.1 a1 (vX12_isSmall s a1) (1 : Int32) _ Q hr h | contradiction
    · intro a1 a2 a3 s Q hr h
      replace hr : uX12_next_157 (qX12_next n) s a1 a2 a3 := hr
      replace h : Q (tX12_next_157 (lX12_next n) s a1 a2 a3) := h
      unfold uX12_next_157 at hr
      unfold tX12_next_157 at h
      refine bX12_next_157 a1 a2 a3 ?_
      refine ⟨hr.1, ?_⟩
      replace hr := hr.2
      refine ⟨fun c => ?_, fun c => ?_⟩
      · replace hr := hr.1 c
        replace h := q1n c h
        first | exact ih.2.2.2.2.1 a1 a2 a3 _ Q hr h | contradiction
      · replace hr := hr.2 c
        replace h := q1p c h
        refine ⟨hr.1, ?_⟩
        replace hr := hr.2
        refine ⟨fun c => ?_, fun c => ?_⟩
        · replace h := q1p c h
          intro s1 e9
          try rw [← e9] at h
          try dsimp only at h
          first | exact h | contradiction
        · replace hr := hr c
          replace h := q1n c h
          first | exact ih.2.2.2.2.1 a1 a2 a3 _ Q hr h | contradiction
    · intro a1 a2 a3 s Q hr h
      replace hr : uX12_next_177 (qX12_next n) s a1 a2 a3 := hr
      replace h : Q (tX12_next_177 (lX12_next n) s a1 a2 a3) := h
      unfold uX12_next_177 at hr
      unfold tX12_next_177 at h
      refine bX12_next_177 a1 a2 a3 ?_
      refine ⟨fun c => ?_, fun c => ?_⟩
      · replace hr := hr.1 c
        replace h := q1p c h
        first | exact ih.2.2.2.2.2.1 a1 a2 a3 _ Q hr h | contradiction
      · replace hr := hr.2 c
        replace h := q1n c h
        refine ⟨hr.1, ?_⟩
        replace hr := hr.2
        refine ⟨fun c => ?_, fun c => ?_⟩
        · replace hr := hr.1 c
          replace h := q1n c h
          first | exact ih.2.2.2.2.2.1 a1 a2 a3 _ Q hr h | contradiction
        · replace hr := hr.2 c
          replace h := q1p c h
          refine ⟨fun c => ?_, fun c => ?_⟩
          · replace hr := hr.1 c
            replace h := q1p c h
            first | exact ih.2.2.2.2.2.2 a1 a2 (1 : Int32) _ Q hr h | contradiction
          · replace hr := hr.2 c
            replace h := q1n c h
            refine ⟨hr.1, ?_⟩
            replace hr := hr.2
            first | exact ih.2.2.2.2.2.2 a1 a2 (1 : Int32) _ Q hr h | contradiction
    · intro a1 a2 a3 s Q hr h
      replace hr : uX12_next_196 (qX12_next n) s a1 a2 a3 := hr
      replace h : Q (tX12_next_196 (lX12_next n) s a1 a2 a3) := h
      unfold uX12_next_196 at hr
      unfold tX12_next_196 at h
      refine bX12_next_196 a1 a2 a3 ?_
      refine ⟨fun c => ?_, fun c => ?_⟩
      · replace hr := hr.1 c
        replace h := q1p c h
        first | exact ih.2.2.2.2.2.2 a1 a2 (0 : Int32) _ Q hr h | contradiction
      · replace hr := hr.2 c
        replace h := q1n c h
        refine ⟨hr.1, ?_⟩
        replace hr := hr.2
        first | exact ih.2.2.2.2.2.2 a1 a2 (0 : Int32) _ Q hr h | contradiction
    · intro a1 a2 a3 s Q hr h
      replace hr : uX12_next_224 (qX12_next n) s a1 a2 a3 := hr
      replace h : Q (tX12_next_224 (lX12_next n) s a1 a2 a3) := h
      unfold uX12_next_224 at hr
      unfold tX12_next_224 at h
      refine bX12_next_224 a1 a2 a3 ?_
      refine ⟨fun c => ?_, fun c => ?_⟩
      · replace hr := hr.1 c
        replace h := q1p c h
        intro s1 e9
        replace hr := hr s1 e9
        try rw [← e9] at h
        try dsimp only at h
        first | exact ih.2.2.2.1 a1 a2 a3 _ Q hr h | contradiction
      · replace hr := hr.2 c
        replace h := q1n c h
        refine ⟨hr.1, ?_⟩
        replace hr := hr.2
        intro s2 e9
        replace hr := hr s2 e9
        try rw [← e9] at h
        try dsimp only at h
        first | exact ih.2.2.2.1 a1 a2 a3 _ Q hr h | contradiction
set_option maxRecDepth 1000000 in
theorem pX12_next  {s : SM} {Q : SM → Prop} (hr : rX12_next s ) (h : Q (mX12_next s )) : KV MX12_next 1 [.ref 248] s Q := by
  replace h : Q (fX12_next s ) := h
  unfold rX12_next at hr
  unfold fX12_next at h
  refine bX12_next  ?_
  first | exact (gX12_next  FU).1  _ Q hr h | contradiction
set_option maxRecDepth 1000000 in
theorem bX12_packed (a1 : Int32) {s : SM} {Q : Int32 → SM → Prop} (h : (((vX12_isIn (pI s 248 0 (0 : Int32)) a1 (0 : Int32) ((gI (pI s 248 0 (0 : Int32)) 248 46) - (1 : Int32))) = 0 → Q (-1 : Int32) (pI s 248 0 (0 : Int32))) ∧ (¬ (vX12_isIn (pI s 248 0 (0 : Int32)) a1 (0 : Int32) ((gI (pI s 248 0 (0 : Int32)) 248 46) - (1 : Int32))) = 0 → vp_in a1 6 ∧ (((4 : Int32) ≤ (gI (pI s 248 0 (0 : Int32)) 268 (a1).toNatClampNeg) → Q (-1 : Int32) (pI s 248 0 (0 : Int32))) ∧ (¬ (4 : Int32) ≤ (gI (pI s 248 0 (0 : Int32)) 268 (a1).toNatClampNeg) → vp_in a1 6 ∧ Q (gI (pI s 248 0 (0 : Int32)) 268 (a1).toNatClampNeg) (pI s 248 0 (0 : Int32))))))) : KI MX12_packed 1 [.ref 248, .int a1] s Q := by
  show BI MX12_packed 1 0 [(0, .ref 248), (1, .int a1)] s Q
  refine JT_aload_n (q := 0) dX12_packed_0 rfl rfl ?_
  refine JT_iconst (v := 0) dX12_packed_1 ic_0 ?_
  refine JS_putI dX12_packed_2 flX12_1 BS_248 (Nat.le_of_ble_eq_true rfl) (Nat.le_of_ble_eq_true rfl) ct_12_0 ?_
  refine JT_iload_n (q := 1) dX12_packed_5 rfl rfl ?_
  refine JT_iconst (v := 0) dX12_packed_6 ic_0 ?_
  refine JT_aload_n (q := 0) dX12_packed_7 rfl rfl ?_
  refine JS_getI dX12_packed_8 flX12_95 BS_248 (Nat.le_of_ble_eq_true rfl) (Nat.le_of_ble_eq_true rfl) (Or.inl ct_12_46) ?_
  refine JT_iconst (v := 1) dX12_packed_11 ic_1 ?_
  refine JT_isub dX12_packed_12 ?_
  refine JS_callSI (M' := MX12_isIn) (d' := 0) (As := [.int a1, .int (0 : Int32), .int ((gI (pI s 248 0 (0 : Int32)) 248 46) - (1 : Int32))]) (rest := []) (P := (fun zv9 wm9 => (vX12_isIn (pI s 248 0 (0 : Int32)) a1 (0 : Int32) ((gI (pI s 248 0 (0 : Int32)) 248 46) - (1 : Int32))) = zv9 ∧ (pI s 248 0 (0 : Int32)) = wm9)) dX12_packed_13 cvX12_202 okX12_isIn rfl (Nat.le_of_ble_eq_true rfl) (Nat.le_of_ble_eq_true rfl) (Nat.le_of_ble_eq_true rfl) (pX12_isIn  (a1) ((0 : Int32)) (((gI (pI s 248 0 (0 : Int32)) 248 46) - (1 : Int32)))  ⟨rfl, rfl⟩) (fun zv9 wm9 hq9 => ?_)
  obtain ⟨rfl, rfl⟩ := hq9
  refine JT_if_eq (tgt := 38) dX12_packed_16 (by decide) (fun hc4 => ?_) (fun hc4 => ?_)
  · have h := h.1 hc4
    refine JT_iconst (v := -1) dX12_packed_38 ic_m1 ?_
    exact JS_iret dX12_packed_39 rfl rfl h
  · have h := h.2 hc4
    refine JT_aload_n (q := 0) dX12_packed_19 rfl rfl ?_
    refine JS_getR (x := 268) dX12_packed_20 flX12_89 BS_248 (Nat.le_of_ble_eq_true rfl) (Nat.le_of_ble_eq_true rfl) (Or.inr ⟨_, ct_12_43⟩) RF_248_43 ?_
    refine JT_iload_n (q := 1) dX12_packed_23 rfl rfl ?_
    obtain ⟨o1, h⟩ := h
    refine JS_iald dX12_packed_24 BS_268 (Nat.le_of_ble_eq_true rfl) (Nat.le_of_ble_eq_true rfl) o1 ?_
    refine JT_iconst (v := 4) dX12_packed_25 ic_4 ?_
    refine JT_icmp_ge (tgt := 38) dX12_packed_26 (by decide) (fun hc3 => ?_) (fun hc3 => ?_)
    · have h := h.1 hc3
      refine JT_iconst (v := -1) dX12_packed_38 ic_m1 ?_
      exact JS_iret dX12_packed_39 rfl rfl h
    · have h := h.2 hc3
      refine JT_aload_n (q := 0) dX12_packed_29 rfl rfl ?_
      refine JS_getR (x := 268) dX12_packed_30 flX12_89 BS_248 (Nat.le_of_ble_eq_true rfl) (Nat.le_of_ble_eq_true rfl) (Or.inr ⟨_, ct_12_43⟩) RF_248_43 ?_
      refine JT_iload_n (q := 1) dX12_packed_33 rfl rfl ?_
      obtain ⟨o2, h⟩ := h
      refine JS_iald dX12_packed_34 BS_268 (Nat.le_of_ble_eq_true rfl) (Nat.le_of_ble_eq_true rfl) o2 ?_
      refine JT_goto (tgt := 39) dX12_packed_35 (by decide) ?_
      exact JS_iret dX12_packed_39 rfl rfl h
set_option maxRecDepth 1000000 in
theorem pX12_packed (a1 : Int32) {s : SM} {Q : Int32 → SM → Prop} (hr : rX12_packed s a1) (h : Q (vX12_packed s a1) (mX12_packed s a1)) : KI MX12_packed 1 [.ref 248, .int a1] s Q := by
  refine bX12_packed a1 ?_
  unfold rX12_packed at hr
  unfold vX12_packed mX12_packed at h
  refine ⟨fun c => ?_, fun c => ?_⟩
  · replace h := qlp c h
    first | exact h | contradiction
  · replace hr := hr c
    replace h := qln c h
    refine ⟨hr.1, ?_⟩
    replace hr := hr.2
    refine ⟨fun c => ?_, fun c => ?_⟩
    · replace h := qlp c h
      first | exact h | contradiction
    · replace hr := hr c
      replace h := qln c h
      refine ⟨hr, ?_⟩
      first | exact h | contradiction
set_option maxRecDepth 1000000 in
theorem bX12_putName_3 (b1 : Int64) (a3 : Int32) {s : SM} {Q : SM → Prop} (h : ((a3 < 0 → Q s) ∧ (¬ a3 < 0 → (((lg_cmp ((b1 >>> ((a3).toInt64 &&& 63)) &&& (255 : Int64)) (0 : Int64)) = 0 → BV MX12_putName 1 3 [(0, .ref 248), (1, .long b1), (3, .int (a3 + (-8)))] s Q) ∧ (¬ (lg_cmp ((b1 >>> ((a3).toInt64 &&& 63)) &&& (255 : Int64)) (0 : Int64)) = 0 → rX12_put s (((b1 >>> ((a3).toInt64 &&& 63)) &&& (255 : Int64))).toInt32 ∧ BV MX12_putName 1 3 [(0, .ref 248), (1, .long b1), (3, .int (a3 + (-8)))] (mX12_put s (((b1 >>> ((a3).toInt64 &&& 63)) &&& (255 : Int64))).toInt32) Q))))) : BV MX12_putName 1 3 [(0, .ref 248), (1, .long b1), (3, .int a3)] s Q := by
  refine JT_iload_n (q := 2) dX12_putName_3 rfl rfl ?_
  refine JT_if_lt (tgt := 37) dX12_putName_4 (by decide) (fun hc3 => ?_) (fun hc3 => ?_)
  · have h := h.1 hc3
    exact JS_vret dX12_putName_37 rfl h
  · have h := h.2 hc3
    refine JT_lload_n (q := 1) dX12_putName_7 rfl rfl ?_
    refine JT_iload_n (q := 2) dX12_putName_8 rfl rfl ?_
    refine JT_lshr dX12_putName_9 ?_
    refine JT_ldc2 dX12_putName_10 kwX12_389 ?_
    refine JT_land dX12_putName_13 ?_
    refine JT_lconst (v := 0) dX12_putName_14 (by decide) ?_
    refine JT_lcmp dX12_putName_15 ?_
    refine JT_if_eq (tgt := 31) dX12_putName_16 (by decide) (fun hc2 => ?_) (fun hc2 => ?_)
    · have h := h.1 hc2
      refine JT_iinc (q := 2) (v := (a3 + (-8))) (lv' := [(3, .int (a3 + (-8))), (0, .ref 248), (1, .long b1)]) dX12_putName_31 rfl (by rfl) (Nat.le_of_ble_eq_true rfl) rfl ?_
      refine JT_goto (tgt := 3) dX12_putName_34 (by decide) ?_
      exact JT_sub [1, 2, 0] rfl h
    · have h := h.2 hc2
      refine JT_aload_n (q := 0) dX12_putName_19 rfl rfl ?_
      refine JT_lload_n (q := 1) dX12_putName_20 rfl rfl ?_
      refine JT_iload_n (q := 2) dX12_putName_21 rfl rfl ?_
      refine JT_lshr dX12_putName_22 ?_
      refine JT_ldc2 dX12_putName_23 kwX12_389 ?_
      refine JT_land dX12_putName_26 ?_
      refine JT_l2i dX12_putName_27 ?_
      obtain ⟨o1, h⟩ := h
      refine JS_callVV (M' := MX12_put) (d' := 0) (As := [.int (((b1 >>> ((a3).toInt64 &&& 63)) &&& (255 : Int64))).toInt32]) (rest := []) (P := (fun wm9 => (mX12_put s (((b1 >>> ((a3).toInt64 &&& 63)) &&& (255 : Int64))).toInt32) = wm9)) dX12_putName_28 cvX12_391 okX12_put rfl (Nat.le_of_ble_eq_true rfl) BS_248 (Nat.le_of_ble_eq_true rfl) (Nat.le_of_ble_eq_true rfl) hci_12 (Nat.le_of_ble_eq_true rfl) (Nat.le_of_ble_eq_true rfl) (pX12_put  ((((b1 >>> ((a3).toInt64 &&& 63)) &&& (255 : Int64))).toInt32) o1 rfl) (fun wm9 hq9 => ?_)
      subst hq9
      refine JT_iinc (q := 2) (v := (a3 + (-8))) (lv' := [(3, .int (a3 + (-8))), (0, .ref 248), (1, .long b1)]) dX12_putName_31 rfl (by rfl) (Nat.le_of_ble_eq_true rfl) rfl ?_
      refine JT_goto (tgt := 3) dX12_putName_34 (by decide) ?_
      exact JT_sub [1, 2, 0] rfl h
set_option maxRecDepth 1000000 in
theorem bX12_putName (b1 : Int64) {s : SM} {Q : SM → Prop} (h : BV MX12_putName 1 3 [(0, .ref 248), (1, .long b1), (3, .int (48 : Int32))] s Q) : KV MX12_putName 1 [.ref 248, .long b1] s Q := by
  show BV MX12_putName 1 0 [(0, .ref 248), (1, .long b1)] s Q
  refine JT_bipush (v := 48) dX12_putName_0 bp_48 ?_
  refine JT_istore_n (lv' := [(3, .int (48 : Int32)), (0, .ref 248), (1, .long b1)]) dX12_putName_2 rfl (Nat.le_of_ble_eq_true rfl) rfl ?_
  exact JT_sub [1, 2, 0] rfl h
set_option maxRecDepth 1000000 in
theorem gX12_putName  : ∀ n : Nat, (∀ (b1 : Int64) (a3 : Int32) (s : SM) (Q : SM → Prop), ((qX12_putName n) s b1 a3) → Q ((lX12_putName n) s b1 a3) → BV MX12_putName 1 3 [(0, .ref 248), (1, .long b1), (3, .int a3)] s Q) := by
  intro n
  induction n with
  | zero => exact fun _ _ _ _ hq _ => absurd hq id
  | succ n ih =>
    intro b1 a3 s Q hr h
    replace hr : uX12_putName_3 (qX12_putName n) s b1 a3 := hr
    replace h : Q (tX12_putName_3 (lX12_putName n) s b1 a3) := h
    unfold uX12_putName_3 at hr
    unfold tX12_putName_3 at h
    refine bX12_putName_3 b1 a3 ?_
    refine ⟨fun c => ?_, fun c => ?_⟩
    · replace h := q1p c h
      first | exact h | contradiction
    · replace hr := hr c
      replace h := q1n c h
      refine ⟨fun c => ?_, fun c => ?_⟩
      · replace hr := hr.1 c
        replace h := q1p c h
        first | exact ih b1 (a3 + (-8)) _ Q hr h | contradiction
      · replace hr := hr.2 c
        replace h := q1n c h
        refine ⟨hr.1, ?_⟩
        replace hr := hr.2
        first | exact ih b1 (a3 + (-8)) _ Q hr h | contradiction
set_option maxRecDepth 1000000 in
theorem pX12_putName (b1 : Int64) {s : SM} {Q : SM → Prop} (hr : rX12_putName s b1) (h : Q (mX12_putName s b1)) : KV MX12_putName 1 [.ref 248, .long b1] s Q := by
  replace h : Q (fX12_putName s b1) := h
  unfold rX12_putName at hr
  unfold fX12_putName at h
  refine bX12_putName b1 ?_
  first | exact (gX12_putName  FU) b1 (48 : Int32) _ Q hr h | contradiction
set_option maxRecDepth 1000000 in
theorem bX12_putNumber_17 (a1 : Int32) {s : SM} {Q : SM → Prop} (h : rX12_put s ((48 : Int32) + (a1 - a1 / (10 : Int32) * (10 : Int32))) ∧ Q (mX12_put s ((48 : Int32) + (a1 - a1 / (10 : Int32) * (10 : Int32))))) : BV MX12_putNumber 1 17 [(0, .ref 248), (1, .int a1)] s Q := by
  refine JT_aload_n (q := 0) dX12_putNumber_17 rfl rfl ?_
  refine JT_bipush (v := 48) dX12_putNumber_18 bp_48 ?_
  refine JT_iload_n (q := 1) dX12_putNumber_20 rfl rfl ?_
  refine JT_bipush (v := 10) dX12_putNumber_21 bp_10 ?_
  refine JT_irem dX12_putNumber_23 (by decide) ?_
  refine JT_iadd dX12_putNumber_24 ?_
  obtain ⟨o1, h⟩ := h
  refine JS_callVV (M' := MX12_put) (d' := 0) (As := [.int ((48 : Int32) + (a1 - a1 / (10 : Int32) * (10 : Int32)))]) (rest := []) (P := (fun wm9 => (mX12_put s ((48 : Int32) + (a1 - a1 / (10 : Int32) * (10 : Int32)))) = wm9)) dX12_putNumber_25 cvX12_391 okX12_put rfl (Nat.le_of_ble_eq_true rfl) BS_248 (Nat.le_of_ble_eq_true rfl) (Nat.le_of_ble_eq_true rfl) hci_12 (Nat.le_of_ble_eq_true rfl) (Nat.le_of_ble_eq_true rfl) (pX12_put  (((48 : Int32) + (a1 - a1 / (10 : Int32) * (10 : Int32)))) o1 rfl) (fun wm9 hq9 => ?_)
  subst hq9
  exact JS_vret dX12_putNumber_28 rfl h
set_option maxRecDepth 1000000 in
theorem bX12_putNumber (a1 : Int32) {s : SM} {Q : SM → Prop} (h : ((a1 < (10 : Int32) → BV MX12_putNumber 1 17 [(0, .ref 248), (1, .int a1)] s Q) ∧ (¬ a1 < (10 : Int32) → rX12_put s ((48 : Int32) + (a1 / (10 : Int32))) ∧ BV MX12_putNumber 1 17 [(0, .ref 248), (1, .int a1)] (mX12_put s ((48 : Int32) + (a1 / (10 : Int32)))) Q))) : KV MX12_putNumber 1 [.ref 248, .int a1] s Q := by
  show BV MX12_putNumber 1 0 [(0, .ref 248), (1, .int a1)] s Q
  refine JT_iload_n (q := 1) dX12_putNumber_0 rfl rfl ?_
  refine JT_bipush (v := 10) dX12_putNumber_1 bp_10 ?_
  refine JT_icmp_lt (tgt := 17) dX12_putNumber_3 (by decide) (fun hc2 => ?_) (fun hc2 => ?_)
  · have h := h.1 hc2
    exact JT_sub [0, 1] rfl h
  · have h := h.2 hc2
    refine JT_aload_n (q := 0) dX12_putNumber_6 rfl rfl ?_
    refine JT_bipush (v := 48) dX12_putNumber_7 bp_48 ?_
    refine JT_iload_n (q := 1) dX12_putNumber_9 rfl rfl ?_
    refine JT_bipush (v := 10) dX12_putNumber_10 bp_10 ?_
    refine JT_idiv dX12_putNumber_12 (by decide) ?_
    refine JT_iadd dX12_putNumber_13 ?_
    obtain ⟨o1, h⟩ := h
    refine JS_callVV (M' := MX12_put) (d' := 0) (As := [.int ((48 : Int32) + (a1 / (10 : Int32)))]) (rest := []) (P := (fun wm9 => (mX12_put s ((48 : Int32) + (a1 / (10 : Int32)))) = wm9)) dX12_putNumber_14 cvX12_391 okX12_put rfl (Nat.le_of_ble_eq_true rfl) BS_248 (Nat.le_of_ble_eq_true rfl) (Nat.le_of_ble_eq_true rfl) hci_12 (Nat.le_of_ble_eq_true rfl) (Nat.le_of_ble_eq_true rfl) (pX12_put  (((48 : Int32) + (a1 / (10 : Int32)))) o1 rfl) (fun wm9 hq9 => ?_)
    subst hq9
    exact JT_sub [0, 1] rfl h
set_option maxRecDepth 1000000 in
theorem gX12_putNumber  : ∀ n : Nat, (∀ (a1 : Int32) (s : SM) (Q : SM → Prop), ((qX12_putNumber n) s a1) → Q ((lX12_putNumber n) s a1) → BV MX12_putNumber 1 17 [(0, .ref 248), (1, .int a1)] s Q) := by
  intro n
  induction n with
  | zero => exact fun _ _ _ hq _ => absurd hq id
  | succ n ih =>
    intro a1 s Q hr h
    replace hr : uX12_putNumber_17 (qX12_putNumber n) s a1 := hr
    replace h : Q (tX12_putNumber_17 (lX12_putNumber n) s a1) := h
    unfold uX12_putNumber_17 at hr
    unfold tX12_putNumber_17 at h
    refine bX12_putNumber_17 a1 ?_
    refine ⟨hr, ?_⟩
    first | exact h | contradiction
set_option maxRecDepth 1000000 in
theorem pX12_putNumber (a1 : Int32) {s : SM} {Q : SM → Prop} (hr : rX12_putNumber s a1) (h : Q (mX12_putNumber s a1)) : KV MX12_putNumber 1 [.ref 248, .int a1] s Q := by
  replace h : Q (fX12_putNumber s a1) := h
  unfold rX12_putNumber at hr
  unfold fX12_putNumber at h
  refine bX12_putNumber a1 ?_
  refine ⟨fun c => ?_, fun c => ?_⟩
  · replace hr := hr.1 c
    replace h := q1p c h
    first | exact (gX12_putNumber  FU) a1 _ Q hr h | contradiction
  · replace hr := hr.2 c
    replace h := q1n c h
    refine ⟨hr.1, ?_⟩
    replace hr := hr.2
    first | exact (gX12_putNumber  FU) a1 _ Q hr h | contradiction
set_option maxRecDepth 1000000 in
theorem bX12_restore_27 (a1 : Int32) (a2 : Int32) {s : SM} {Q : Int32 → SM → Prop} (h : (((787 : Int32) ≤ a2 → vp_in (((788 : Int32) * a1) + (787 : Int32)) 1576 ∧ BI MX12_restore 1 78 [(0, .ref 248), (1, .int a1), (2, .int (0 : Int32))] (pI s 248 22 (gI s 275 ((((788 : Int32) * a1) + (787 : Int32))).toNatClampNeg)) Q) ∧ (¬ (787 : Int32) ≤ a2 → vp_in (((788 : Int32) * a1) + a2) 1576 ∧ vp_in a2 787 ∧ BI MX12_restore 1 27 [(0, .ref 248), (1, .int a1), (2, .int (a2 + 1))] (pI s 250 (a2).toNatClampNeg (gI s 275 ((((788 : Int32) * a1) + a2)).toNatClampNeg)) Q))) : BI MX12_restore 1 27 [(0, .ref 248), (1, .int a1), (2, .int a2)] s Q := by
  refine JT_iload_n (q := 2) dX12_restore_27 rfl rfl ?_
  refine JT_sipush (v := 787) dX12_restore_28 sp_787 ?_
  refine JT_icmp_ge (tgt := 58) dX12_restore_31 (by decide) (fun hc4 => ?_) (fun hc4 => ?_)
  · have h := h.1 hc4
    refine JT_aload_n (q := 0) dX12_restore_58 rfl rfl ?_
    refine JT_aload_n (q := 0) dX12_restore_59 rfl rfl ?_
    refine JS_getR (x := 275) dX12_restore_60 flX12_116 BS_248 (Nat.le_of_ble_eq_true rfl) (Nat.le_of_ble_eq_true rfl) (Or.inr ⟨_, ct_12_55⟩) RF_248_55 ?_
    refine JT_sipush (v := 788) dX12_restore_63 sp_788 ?_
    refine JT_iload_n (q := 1) dX12_restore_66 rfl rfl ?_
    refine JT_imul dX12_restore_67 ?_
    refine JT_sipush (v := 787) dX12_restore_68 sp_787 ?_
    refine JT_iadd dX12_restore_71 ?_
    obtain ⟨o1, h⟩ := h
    refine JS_iald dX12_restore_72 BS_275 (Nat.le_of_ble_eq_true rfl) (Nat.le_of_ble_eq_true rfl) o1 ?_
    refine JS_putI dX12_restore_73 flX12_256 BS_248 (Nat.le_of_ble_eq_true rfl) (Nat.le_of_ble_eq_true rfl) ct_12_22 ?_
    refine JT_iconst (v := 0) dX12_restore_76 ic_0 ?_
    refine JT_istore_n (lv' := [(2, .int (0 : Int32)), (0, .ref 248), (1, .int a1)]) dX12_restore_77 rfl (Nat.le_of_ble_eq_true rfl) rfl ?_
    exact JT_sub [1, 2, 0] rfl h
  · have h := h.2 hc4
    refine JT_aload_n (q := 0) dX12_restore_34 rfl rfl ?_
    refine JS_getR (x := 250) dX12_restore_35 flX12_33 BS_248 (Nat.le_of_ble_eq_true rfl) (Nat.le_of_ble_eq_true rfl) (Or.inr ⟨_, ct_12_6⟩) RF_248_6 ?_
    refine JT_iload_n (q := 2) dX12_restore_38 rfl rfl ?_
    refine JT_aload_n (q := 0) dX12_restore_39 rfl rfl ?_
    refine JS_getR (x := 275) dX12_restore_40 flX12_116 BS_248 (Nat.le_of_ble_eq_true rfl) (Nat.le_of_ble_eq_true rfl) (Or.inr ⟨_, ct_12_55⟩) RF_248_55 ?_
    refine JT_sipush (v := 788) dX12_restore_43 sp_788 ?_
    refine JT_iload_n (q := 1) dX12_restore_46 rfl rfl ?_
    refine JT_imul dX12_restore_47 ?_
    refine JT_iload_n (q := 2) dX12_restore_48 rfl rfl ?_
    refine JT_iadd dX12_restore_49 ?_
    obtain ⟨o2, h⟩ := h
    refine JS_iald dX12_restore_50 BS_275 (Nat.le_of_ble_eq_true rfl) (Nat.le_of_ble_eq_true rfl) o2 ?_
    obtain ⟨o3, h⟩ := h
    refine JS_iast dX12_restore_51 BS_250 (Nat.le_of_ble_eq_true rfl) (Nat.le_of_ble_eq_true rfl) o3 ?_
    refine JT_iinc (q := 2) (v := (a2 + 1)) (lv' := [(2, .int (a2 + 1)), (0, .ref 248), (1, .int a1)]) dX12_restore_52 rfl (by rfl) (Nat.le_of_ble_eq_true rfl) rfl ?_
    refine JT_goto (tgt := 27) dX12_restore_55 (by decide) ?_
    exact JT_sub [1, 2, 0] rfl h
set_option maxRecDepth 1000000 in
theorem bX12_restore_78 (a1 : Int32) (a2 : Int32) {s : SM} {Q : Int32 → SM → Prop} (h : (((15 : Int32) ≤ a2 → Q (1 : Int32) (pI s 248 25 (0 : Int32))) ∧ (¬ (15 : Int32) ≤ a2 → vp_in (((15 : Int32) * a1) + a2) 30 ∧ vp_in a2 30 ∧ BI MX12_restore 1 78 [(0, .ref 248), (1, .int a1), (2, .int (a2 + 1))] (pL s 253 (a2).toNatClampNeg (gL s 276 ((((15 : Int32) * a1) + a2)).toNatClampNeg)) Q))) : BI MX12_restore 1 78 [(0, .ref 248), (1, .int a1), (2, .int a2)] s Q := by
  refine JT_iload_n (q := 2) dX12_restore_78 rfl rfl ?_
  refine JT_bipush (v := 15) dX12_restore_79 bp_15 ?_
  refine JT_icmp_ge (tgt := 107) dX12_restore_81 (by decide) (fun hc3 => ?_) (fun hc3 => ?_)
  · have h := h.1 hc3
    refine JT_aload_n (q := 0) dX12_restore_107 rfl rfl ?_
    refine JT_iconst (v := 0) dX12_restore_108 ic_0 ?_
    refine JS_putI dX12_restore_109 flX12_250 BS_248 (Nat.le_of_ble_eq_true rfl) (Nat.le_of_ble_eq_true rfl) ct_12_25 ?_
    refine JT_iconst (v := 1) dX12_restore_112 ic_1 ?_
    exact JS_iret dX12_restore_113 rfl (n01 (Or.inr rfl)) h
  · have h := h.2 hc3
    refine JT_aload_n (q := 0) dX12_restore_84 rfl rfl ?_
    refine JS_getR (x := 253) dX12_restore_85 flX12_43 BS_248 (Nat.le_of_ble_eq_true rfl) (Nat.le_of_ble_eq_true rfl) (Or.inr ⟨_, ct_12_9⟩) RF_248_9 ?_
    refine JT_iload_n (q := 2) dX12_restore_88 rfl rfl ?_
    refine JT_aload_n (q := 0) dX12_restore_89 rfl rfl ?_
    refine JS_getR (x := 276) dX12_restore_90 flX12_119 BS_248 (Nat.le_of_ble_eq_true rfl) (Nat.le_of_ble_eq_true rfl) (Or.inr ⟨_, ct_12_56⟩) RF_248_56 ?_
    refine JT_bipush (v := 15) dX12_restore_93 bp_15 ?_
    refine JT_iload_n (q := 1) dX12_restore_95 rfl rfl ?_
    refine JT_imul dX12_restore_96 ?_
    refine JT_iload_n (q := 2) dX12_restore_97 rfl rfl ?_
    refine JT_iadd dX12_restore_98 ?_
    obtain ⟨o1, h⟩ := h
    refine JS_lald dX12_restore_99 BS_276 (Nat.le_of_ble_eq_true rfl) (Nat.le_of_ble_eq_true rfl) o1 ?_
    obtain ⟨o2, h⟩ := h
    refine JS_last dX12_restore_100 BS_253 (Nat.le_of_ble_eq_true rfl) (Nat.le_of_ble_eq_true rfl) o2 ?_
    refine JT_iinc (q := 2) (v := (a2 + 1)) (lv' := [(2, .int (a2 + 1)), (0, .ref 248), (1, .int a1)]) dX12_restore_101 rfl (by rfl) (Nat.le_of_ble_eq_true rfl) rfl ?_
    refine JT_goto (tgt := 78) dX12_restore_104 (by decide) ?_
    exact JT_sub [1, 2, 0] rfl h
set_option maxRecDepth 1000000 in
theorem bX12_restore (a1 : Int32) {s : SM} {Q : Int32 → SM → Prop} (h : (((vX12_isIn (pI s 248 0 (0 : Int32)) a1 (0 : Int32) (1 : Int32)) = 0 → Q (0 : Int32) (pI s 248 0 (0 : Int32))) ∧ (¬ (vX12_isIn (pI s 248 0 (0 : Int32)) a1 (0 : Int32) (1 : Int32)) = 0 → vp_in a1 2 ∧ ((¬ (gI (pI s 248 0 (0 : Int32)) 277 (a1).toNatClampNeg) = 0 → BI MX12_restore 1 27 [(0, .ref 248), (1, .int a1), (2, .int (0 : Int32))] (pI s 248 0 (0 : Int32)) Q) ∧ ((gI (pI s 248 0 (0 : Int32)) 277 (a1).toNatClampNeg) = 0 → Q (0 : Int32) (pI s 248 0 (0 : Int32))))))) : KI MX12_restore 1 [.ref 248, .int a1] s Q := by
  show BI MX12_restore 1 0 [(0, .ref 248), (1, .int a1)] s Q
  refine JT_aload_n (q := 0) dX12_restore_0 rfl rfl ?_
  refine JT_iconst (v := 0) dX12_restore_1 ic_0 ?_
  refine JS_putI dX12_restore_2 flX12_1 BS_248 (Nat.le_of_ble_eq_true rfl) (Nat.le_of_ble_eq_true rfl) ct_12_0 ?_
  refine JT_iload_n (q := 1) dX12_restore_5 rfl rfl ?_
  refine JT_iconst (v := 0) dX12_restore_6 ic_0 ?_
  refine JT_iconst (v := 1) dX12_restore_7 ic_1 ?_
  refine JS_callSI (M' := MX12_isIn) (d' := 0) (As := [.int a1, .int (0 : Int32), .int (1 : Int32)]) (rest := []) (P := (fun zv9 wm9 => (vX12_isIn (pI s 248 0 (0 : Int32)) a1 (0 : Int32) (1 : Int32)) = zv9 ∧ (pI s 248 0 (0 : Int32)) = wm9)) dX12_restore_8 cvX12_202 okX12_isIn rfl (Nat.le_of_ble_eq_true rfl) (Nat.le_of_ble_eq_true rfl) (Nat.le_of_ble_eq_true rfl) (pX12_isIn  (a1) ((0 : Int32)) ((1 : Int32))  ⟨rfl, rfl⟩) (fun zv9 wm9 hq9 => ?_)
  obtain ⟨rfl, rfl⟩ := hq9
  refine JT_if_eq (tgt := 23) dX12_restore_11 (by decide) (fun hc3 => ?_) (fun hc3 => ?_)
  · have h := h.1 hc3
    refine JT_iconst (v := 0) dX12_restore_23 ic_0 ?_
    exact JS_iret dX12_restore_24 rfl (n01 (Or.inl rfl)) h
  · have h := h.2 hc3
    refine JT_aload_n (q := 0) dX12_restore_14 rfl rfl ?_
    refine JS_getR (x := 277) dX12_restore_15 flX12_122 BS_248 (Nat.le_of_ble_eq_true rfl) (Nat.le_of_ble_eq_true rfl) (Or.inr ⟨_, ct_12_57⟩) RF_248_57 ?_
    refine JT_iload_n (q := 1) dX12_restore_18 rfl rfl ?_
    obtain ⟨o1, h⟩ := h
    refine JS_zald dX12_restore_19 BS_277 (Nat.le_of_ble_eq_true rfl) (Nat.le_of_ble_eq_true rfl) o1 ?_
    refine JT_if_ne (tgt := 25) dX12_restore_20 (by decide) (fun hc2 => ?_) (fun hc2 => ?_)
    · have h := h.1 hc2
      refine JT_iconst (v := 0) dX12_restore_25 ic_0 ?_
      refine JT_istore_n (lv' := [(2, .int (0 : Int32)), (0, .ref 248), (1, .int a1)]) dX12_restore_26 rfl (Nat.le_of_ble_eq_true rfl) rfl ?_
      exact JT_sub [1, 2, 0] rfl h
    · have h := h.2 hc2
      refine JT_iconst (v := 0) dX12_restore_23 ic_0 ?_
      exact JS_iret dX12_restore_24 rfl (n01 (Or.inl rfl)) h
set_option maxRecDepth 1000000 in
theorem gX12_restore  : ∀ n : Nat, (∀ (a1 : Int32) (a2 : Int32) (s : SM) (Q : Int32 → SM → Prop), ((qX12_restore n).1 s a1 a2) → Q ((lX12_restore n).1 s a1 a2).1 ((lX12_restore n).1 s a1 a2).2 → BI MX12_restore 1 27 [(0, .ref 248), (1, .int a1), (2, .int a2)] s Q) ∧ (∀ (a1 : Int32) (a2 : Int32) (s : SM) (Q : Int32 → SM → Prop), ((qX12_restore n).2 s a1 a2) → Q ((lX12_restore n).2 s a1 a2).1 ((lX12_restore n).2 s a1 a2).2 → BI MX12_restore 1 78 [(0, .ref 248), (1, .int a1), (2, .int a2)] s Q) := by
  intro n
  induction n with
  | zero => exact ⟨fun _ _ _ _ hq _ => absurd hq id, fun _ _ _ _ hq _ => absurd hq id⟩
  | succ n ih =>
    refine ⟨?_, ?_⟩
    · intro a1 a2 s Q hr h
      replace hr : uX12_restore_27 (qX12_restore n) s a1 a2 := hr
      replace h : Q (tX12_restore_27 (lX12_restore n) s a1 a2).1 (tX12_restore_27 (lX12_restore n) s a1 a2).2 := h
      unfold uX12_restore_27 at hr
      unfold tX12_restore_27 at h
      refine bX12_restore_27 a1 a2 ?_
      refine ⟨fun c => ?_, fun c => ?_⟩
      · replace hr := hr.1 c
        replace h := q3p c h
        refine ⟨hr.1, ?_⟩
        replace hr := hr.2
        first | exact ih.2 a1 (0 : Int32) _ Q hr h | contradiction
      · replace hr := hr.2 c
        replace h := q3n c h
        refine ⟨hr.1, ?_⟩
        replace hr := hr.2
        refine ⟨hr.1, ?_⟩
        replace hr := hr.2
        first | exact ih.1 a1 (a2 + 1) _ Q hr h | contradiction
    · intro a1 a2 s Q hr h
      replace hr : uX12_restore_78 (qX12_restore n) s a1 a2 := hr
      replace h : Q (tX12_restore_78 (lX12_restore n) s a1 a2).1 (tX12_restore_78 (lX12_restore n) s a1 a2).2 := h
      unfold uX12_restore_78 at hr
      unfold tX12_restore_78 at h
      refine bX12_restore_78 a1 a2 ?_
      refine ⟨fun c => ?_, fun c => ?_⟩
      · replace h := q3p c h
        first | exact h | contradiction
      · replace hr := hr c
        replace h := q3n c h
        refine ⟨hr.1, ?_⟩
        replace hr := hr.2
        refine ⟨hr.1, ?_⟩
        replace hr := hr.2
        first | exact ih.2 a1 (a2 + 1) _ Q hr h | contradiction
set_option maxRecDepth 1000000 in
theorem pX12_restore (a1 : Int32) {s : SM} {Q : Int32 → SM → Prop} (hr : rX12_restore s a1) (h : Q (vX12_restore s a1) (mX12_restore s a1)) : KI MX12_restore 1 [.ref 248, .int a1] s Q := by
  replace h : Q (fX12_restore s a1).1 (fX12_restore s a1).2 := h
  unfold rX12_restore at hr
  unfold fX12_restore at h
  refine bX12_restore a1 ?_
  refine ⟨fun c => ?_, fun c => ?_⟩
  · replace h := q3p c h
    first | exact h | contradiction
  · replace hr := hr c
    replace h := q3n c h
    refine ⟨hr.1, ?_⟩
    replace hr := hr.2
    refine ⟨fun c => ?_, fun c => ?_⟩
    · replace hr := hr c
      replace h := q3n c h
      first | exact (gX12_restore  FU).1 a1 (0 : Int32) _ Q hr h | contradiction
    · replace h := q3p c h
      first | exact h | contradiction
set_option maxRecDepth 1000000 in
theorem bX12_ringAt (a1 : Int32) {s : SM} {Q : Int32 → SM → Prop} (h : (((vX12_isIn (pI s 248 0 (0 : Int32)) a1 (0 : Int32) ((gI (pI s 248 0 (0 : Int32)) 248 30) - (1 : Int32))) = 0 → Q (-1 : Int32) (pI s 248 0 (0 : Int32))) ∧ (¬ (vX12_isIn (pI s 248 0 (0 : Int32)) a1 (0 : Int32) ((gI (pI s 248 0 (0 : Int32)) 248 30) - (1 : Int32))) = 0 → vp_in a1 5 ∧ Q (gI (pI s 248 0 (0 : Int32)) 258 (a1).toNatClampNeg) (pI s 248 0 (0 : Int32))))) : KI MX12_ringAt 1 [.ref 248, .int a1] s Q := by
  show BI MX12_ringAt 1 0 [(0, .ref 248), (1, .int a1)] s Q
  refine JT_aload_n (q := 0) dX12_ringAt_0 rfl rfl ?_
  refine JT_iconst (v := 0) dX12_ringAt_1 ic_0 ?_
  refine JS_putI dX12_ringAt_2 flX12_1 BS_248 (Nat.le_of_ble_eq_true rfl) (Nat.le_of_ble_eq_true rfl) ct_12_0 ?_
  refine JT_iload_n (q := 1) dX12_ringAt_5 rfl rfl ?_
  refine JT_iconst (v := 0) dX12_ringAt_6 ic_0 ?_
  refine JT_aload_n (q := 0) dX12_ringAt_7 rfl rfl ?_
  refine JS_getI dX12_ringAt_8 flX12_368 BS_248 (Nat.le_of_ble_eq_true rfl) (Nat.le_of_ble_eq_true rfl) (Or.inl ct_12_30) ?_
  refine JT_iconst (v := 1) dX12_ringAt_11 ic_1 ?_
  refine JT_isub dX12_ringAt_12 ?_
  refine JS_callSI (M' := MX12_isIn) (d' := 0) (As := [.int a1, .int (0 : Int32), .int ((gI (pI s 248 0 (0 : Int32)) 248 30) - (1 : Int32))]) (rest := []) (P := (fun zv9 wm9 => (vX12_isIn (pI s 248 0 (0 : Int32)) a1 (0 : Int32) ((gI (pI s 248 0 (0 : Int32)) 248 30) - (1 : Int32))) = zv9 ∧ (pI s 248 0 (0 : Int32)) = wm9)) dX12_ringAt_13 cvX12_202 okX12_isIn rfl (Nat.le_of_ble_eq_true rfl) (Nat.le_of_ble_eq_true rfl) (Nat.le_of_ble_eq_true rfl) (pX12_isIn  (a1) ((0 : Int32)) (((gI (pI s 248 0 (0 : Int32)) 248 30) - (1 : Int32)))  ⟨rfl, rfl⟩) (fun zv9 wm9 hq9 => ?_)
  obtain ⟨rfl, rfl⟩ := hq9
  refine JT_if_eq (tgt := 28) dX12_ringAt_16 (by decide) (fun hc2 => ?_) (fun hc2 => ?_)
  · have h := h.1 hc2
    refine JT_iconst (v := -1) dX12_ringAt_28 ic_m1 ?_
    exact JS_iret dX12_ringAt_29 rfl rfl h
  · have h := h.2 hc2
    refine JT_aload_n (q := 0) dX12_ringAt_19 rfl rfl ?_
    refine JS_getR (x := 258) dX12_ringAt_20 flX12_59 BS_248 (Nat.le_of_ble_eq_true rfl) (Nat.le_of_ble_eq_true rfl) (Or.inr ⟨_, ct_12_28⟩) RF_248_28 ?_
    refine JT_iload_n (q := 1) dX12_ringAt_23 rfl rfl ?_
    obtain ⟨o1, h⟩ := h
    refine JS_iald dX12_ringAt_24 BS_258 (Nat.le_of_ble_eq_true rfl) (Nat.le_of_ble_eq_true rfl) o1 ?_
    refine JT_goto (tgt := 29) dX12_ringAt_25 (by decide) ?_
    exact JS_iret dX12_ringAt_29 rfl rfl h
set_option maxRecDepth 1000000 in
theorem pX12_ringAt (a1 : Int32) {s : SM} {Q : Int32 → SM → Prop} (hr : rX12_ringAt s a1) (h : Q (vX12_ringAt s a1) (mX12_ringAt s a1)) : KI MX12_ringAt 1 [.ref 248, .int a1] s Q := by
  refine bX12_ringAt a1 ?_
  unfold rX12_ringAt at hr
  unfold vX12_ringAt mX12_ringAt at h
  refine ⟨fun c => ?_, fun c => ?_⟩
  · replace h := qlp c h
    first | exact h | contradiction
  · replace hr := hr c
    replace h := qln c h
    refine ⟨hr, ?_⟩
    first | exact h | contradiction
