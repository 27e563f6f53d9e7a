theorem x_isIn (s : SM) {a b c : Int} (ha : IR a) (hb : IR b) (hc : IR c) : vX12_isIn s (zI a) (zI b) (zI c) = bI (b ≤ a ∧ a ≤ c) := by
  unfold vX12_isIn bI
  simp only [z_lt ha hb, z_lt hc ha]
  by_cases h1 : a < b
  · rw [if_pos h1, if_neg (by omega)]
  · by_cases h2 : c < a
    · rw [if_neg h1, if_pos h2, if_neg (by omega)]
    · rw [if_neg h1, if_neg h2, if_pos (by omega)]
theorem x_has (s : SM) (a b : Int) : vX12_has s (zI a) (zI b) = bI (hasZ a b) := rfl
section
variable {s : SM} {g : Nat → Int}
theorem x_of (h : RR s g) {d w : Int} (h0 : 0 ≤ 46 + 9 * d + w) (h1 : 46 + 9 * d + w < 787) : vX12_of s (zI d) (zI w) = zI (oZ g d w) := by
  unfold vX12_of oZ
  rw [show (46 : Int32) = zI 46 from rfl, show (9 : Int32) = zI 9 from rfl, z_mul, z_add, z_add, z_cl (by omega), h]
theorem x_of_r (s : SM) {d w : Int} (h0 : 0 ≤ 46 + 9 * d + w) (h1 : 46 + 9 * d + w < 787) : rX12_of s (zI d) (zI w) := by
  unfold rX12_of
  rw [show (46 : Int32) = zI 46 from rfl, show (9 : Int32) = zI 9 from rfl, z_mul, z_add, z_add, z_in (by omega)]
  omega
theorem x_n (h : RR s g) (k : Nat) (hk : k < 2147483648) : gI s 250 (zI k).toNatClampNeg = zI (g k) := by
  rw [z_cl (by omega), h]; rfl
theorem x_34 (h : RR s g) : gI s 250 ((34 : Int32)).toNatClampNeg = zI (g 34) := h 34
theorem x_0 (h : RR s g) : gI s 250 ((0 : Int32)).toNatClampNeg = zI (g 0) := h 0
theorem x_1 (h : RR s g) : gI s 250 ((1 : Int32)).toNatClampNeg = zI (g 1) := h 1
theorem x_2 (h : RR s g) : gI s 250 ((2 : Int32)).toNatClampNeg = zI (g 2) := h 2
theorem x_3 (h : RR s g) : gI s 250 ((3 : Int32)).toNatClampNeg = zI (g 3) := h 3
theorem x_35 (h : RR s g) : gI s 250 ((35 : Int32)).toNatClampNeg = zI (g 35) := h 35
theorem x_36 (h : RR s g) : gI s 250 ((36 : Int32)).toNatClampNeg = zI (g 36) := h 36
theorem x_isDeal (h : RR s g) (hw : WF g) {d : Int} (hd : IR d) : vX12_isDeal s (zI d) = bI (dlZ g d) := by
  have := hw.w0
  unfold vX12_isDeal
  rw [x_34 h, show (0 : Int32) = zI 0 from rfl, show (1 : Int32) = zI 1 from rfl, z_sub, x_isIn s hd (by omega) (by omega)]
  exact bI_c (by omega)
theorem x_isBody (h : RR s g) (hw : WF g) {d : Int} (hd : IR d) : vX12_isBody s (zI d) = bI (bdyZ g d) := by
  have := hw.w0
  unfold vX12_isBody
  rw [x_0 h, show (0 : Int32) = zI 0 from rfl, show (1 : Int32) = zI 1 from rfl, z_sub, x_isIn s hd (by omega) (by omega)]
  exact bI_c (by omega)
theorem x_isKind (h : RR s g) (hw : WF g) {d : Int} (hd : IR d) : vX12_isKind s (zI d) = bI (kndZ g d) := by
  have := hw.w0
  unfold vX12_isKind
  rw [x_1 h, show (0 : Int32) = zI 0 from rfl, show (1 : Int32) = zI 1 from rfl, z_sub, x_isIn s hd (by omega) (by omega)]
  exact bI_c (by omega)
theorem x_isLiving (h : RR s g) (b : Int) : vX12_isLiving s (zI b) = bI (livZ g b) := by
  unfold vX12_isLiving
  rw [x_36 h, x_has]
  unfold bI livZ
  by_cases hq : hasZ (g 36) b <;> simp [hq]
theorem x_isOpen (h : RR s g) (hw : WF g) {d : Int} (hd : IR d) : vX12_isOpen s (zI d) = bI (opZ g d) := by
  have := hw.w0
  unfold vX12_isOpen
  simp only [x_isDeal h hw hd, bI_0]
  by_cases hq : dlZ g d
  · have h2 := hw.wd hq
    rw [if_neg (Classical.not_not.mpr hq)]
    simp (disch := omega) only [zl5, x_of h]
    simp (disch := omega) only [show (0 : Int32) = zI 0 from rfl, z_eq]
    exact bI_c (p := oZ g d 5 = 0) (q := opZ g d) ⟨fun h => ⟨hq, h⟩, fun h => h.2⟩
  · rw [if_pos hq]
    unfold bI
    rw [if_neg (fun hc => hq hc.1)]
theorem x_isOpen_r (h : RR s g) (hw : WF g) {d : Int} (hd : IR d) : rX12_isOpen s (zI d) := by
  have := hw.w0
  unfold rX12_isOpen
  rw [x_isDeal h hw hd, bI_0, Classical.not_not]
  intro hq
  exact x_of_r s (d := d) (w := 5) (by omega) (by omega)
theorem x_sizeOf (h : RR s g) (hw : WF g) {d : Int} (hd : dlZ g d) : vX12_sizeOf s (zI d) = zI (sizZ g d) ∧ rX12_sizeOf s (zI d) := by
  have h0 := hw.w0
  have h2 := hw.wd hd
  unfold vX12_sizeOf rX12_sizeOf
  rw [show (3 : Int32) = zI 3 from rfl, x_of h (by omega) (by omega), show (22 : Int32) = zI 22 from rfl, z_add, z_cl (by omega), h, z_in (by omega)]
  exact ⟨rfl, x_of_r s (by omega) (by omega), by omega⟩
theorem x_sortOf (h : RR s g) (hw : WF g) {d : Int} (hd : dlZ g d) : vX12_sortOf s (zI d) = zI (sorZ g d) ∧ rX12_sortOf s (zI d) := by
  have h0 := hw.w0
  have h2 := hw.wd hd
  unfold vX12_sortOf rX12_sortOf
  rw [show (3 : Int32) = zI 3 from rfl, x_of h (by omega) (by omega), show (28 : Int32) = zI 28 from rfl, z_add, z_cl (by omega), h, z_in (by omega)]
  exact ⟨rfl, x_of_r s (by omega) (by omega), by omega⟩
theorem x_valueBy (s : SM) {a b : Int} (ha : IR a) (hb : IR b) : vX12_valueBy s (zI a) (zI b) = zI (vbZ a b) := by
  unfold vX12_valueBy vbZ
  simp (disch := omega) only [zl0, zl1, zl2, zl3, z_eq, z_mul, z_div]
  split
  · rfl
  · split
    · rfl
    · split <;> rfl
theorem x_valueOf (h : RR s g) (hw : WF g) {d : Int} (hd : dlZ g d) : vX12_valueOf s (zI d) = zI (valZ g d) ∧ rX12_valueOf s (zI d) := by
  have h0 := hw.w0
  have h2 := hw.wd hd
  have h3 := hw.siz hd
  obtain ⟨e1, r1⟩ := x_sortOf h hw hd
  unfold vX12_valueOf rX12_valueOf
  rw [e1, show (2 : Int32) = zI 2 from rfl, x_of h (by omega) (by omega), x_valueBy s (by omega) (by omega)]
  exact ⟨rfl, x_of_r s (by omega) (by omega), r1⟩
/-- the sum of leftOf -/
theorem x_leftOf (h : RR s g) (hw : WF g) {b : Int} (hb : bdyZ g b) : vX12_leftOf s (zI b) = zI (lefZ g b) ∧ rX12_leftOf s (zI b) := by
  have h0 := hw.w0
  have hN : ((g 34).toNat : Int) = g 34 := by omega
  have hs : ∀ d : Nat, d < (g 34).toNat → ST 4 (fun n => (lX12_leftOf n).1 s (zI b) (zI (rmZ g b - exZ g b - sumZ (mkZ g b) d)) (zI d)) (fun n => (qX12_leftOf n).1 s (zI b) (zI (rmZ g b - exZ g b - sumZ (mkZ g b) d)) (zI d)) (fun n => (lX12_leftOf n).1 s (zI b) (zI (rmZ g b - exZ g b - sumZ (mkZ g b) (d + 1))) (zI ((d + 1 : Nat) : Int))) (fun n => (qX12_leftOf n).1 s (zI b) (zI (rmZ g b - exZ g b - sumZ (mkZ g b) (d + 1))) (zI ((d + 1 : Nat) : Int))) := by
    intro d hd
    have hdl : dlZ g d := by omega
    have h2 := hw.wd hdl
    obtain ⟨e3, r3⟩ := x_sizeOf h hw hdl
    have e6 := x_of h (d := d) (w := 6) (by omega) (by omega)
    have e7 := x_of h (d := d) (w := 7) (by omega) (by omega)
    have r6 := x_of_r s (d := d) (w := 6) (by omega) (by omega)
    have r7 := x_of_r s (d := d) (w := 7) (by omega) (by omega)
    have hn1 : (g 34 ≤ (d : Int)) = False := eq_false (by omega)
    have hn2 : ((d : Int) < g 34) = True := eq_true (by omega)
    refine ⟨4, Nat.le_refl _, fun n => ?_⟩
    by_cases h6 : oZ g d 6 = b <;> by_cases h7 : oZ g d 7 = b <;>
      simp (disch := omega) only [lX12_leftOf, qX12_leftOf, tX12_leftOf_21, tX12_leftOf_35, uX12_leftOf_21, uX12_leftOf_35, x_34 h, zl0, zl1, zl2, zl6, Int.reduceAdd, Int.reduceSub, Int.reduceMul, Int.reduceNeg, Int.reduceLT, Int.reduceLE, Int.reduceToNat, Int.reduceEq, z_add, z_sub, z_le, z_eq, e3, e6, e7, r3, r6, r7, h6, h7, hn1, hn2, mkZ, sumZ, i_a0, i_s0, i_or0, Int.natCast_succ, Int.sub_sub, Int.add_assoc, Int.add_zero, Int.zero_add, Int.sub_zero, if_true, if_false, true_and, and_true, not_true, not_false_eq_true, false_implies, true_implies, imp_self, and_self]
  obtain ⟨e1, r1⟩ := ST_fu (ST_trans (ST_it0 (g 34).toNat _ _ hs) (ST_1 (F' := fun _ => zI (lefZ g b)) (C' := fun _ => True) (fun n => by
    simp (disch := omega) only [lX12_leftOf, qX12_leftOf, tX12_leftOf_21, uX12_leftOf_21, x_34 h, z_le, hN]
    simp [lefZ]))) (by omega)
  have h9 : ∀ k, gI s 250 k = zI (g k) := h
  unfold vX12_leftOf rX12_leftOf fX12_leftOf
  simp (disch := omega) only [zl0, zl4, zl37, z_add, z_cl, z_in, z_sub, h9, rmZ, exZ] at e1 r1 ⊢
  simp [sumZ] at e1 r1
  exact ⟨e1, by omega, by omega, r1⟩
end
