theorem pI_pI (s : SM) (c i : Nat) (v w : Int32) : pI (pI s c i v) c i w = pI s c i w := by
  have h : (pI (pI s c i v) c i w).1 = (pI s c i w).1 := by
    funext c' i'
    show gI (pI (pI s c i v) c i w) c' i' = gI (pI s c i w) c' i'
    rw [gI_pI, gI_pI, gI_pI]
    split <;> rfl
  exact Prod.ext h rfl
theorem pI_id (s : SM) (c i : Nat) : pI s c i (gI s c i) = s := by
  have h : (pI s c i (gI s c i)).1 = s.1 := by
    funext c' i'
    show gI (pI s c i (gI s c i)) c' i' = gI s c' i'
    rw [gI_pI]
    split
    · rename_i h; rw [h.1, h.2]
    · rfl
  exact Prod.ext h rfl
/-- who bears a MARK of m, where lf is what is LEFT -/
def brG (g : Nat → Int) (lf : Int → Int) (b m : Int) : Int := if lf b < m then (if 0 ≤ kiZ g b ∧ livZ g (kiZ g b) ∧ m ≤ lf (kiZ g b) then kiZ g b else -1) else b
abbrev lfO (g : Nat → Int) (m on x : Int) : Int := lefZ g x - (if x = on then m else 0)
theorem brG_b {g : Nat → Int} {lf : Int → Int} {b m : Int} (hw : WF g) (hb : bdyZ g b) : -1 ≤ brG g lf b m ∧ brG g lf b m < g 0 := by
  have h1 := hw.wb hb
  unfold brG
  split
  · split <;> omega
  · omega
theorem brG_c {g : Nat → Int} {lf lf' : Int → Int} {b m : Int} (hw : WF g) (hb : bdyZ g b) (h : ∀ x, bdyZ g x → lf x = lf' x) : brG g lf b m = brG g lf' b m := by
  have h1 := hw.wb hb
  unfold brG
  rw [h b hb]
  by_cases h2 : 0 ≤ kiZ g b
  · rw [h (kiZ g b) ⟨h2, h1.2.1.2⟩]
  · simp only [h2, false_and]
section
variable {s : SM} {g : Nat → Int} {L P : Nat}
theorem x_kin (h : RR s g) {b : Int} (h0 : 0 ≤ 13 + b) (h1 : b < 1000) : gI s 250 ((13 : Int32) + zI b).toNatClampNeg = zI (kiZ g b) ∧ vp_in ((13 : Int32) + zI b) 787 = (13 + b < 787) := by
  unfold kiZ
  rw [show (13 : Int32) = zI 13 from rfl, z_add, z_cl (by omega), h]
  refine ⟨rfl, propext ?_⟩
  rw [z_in (by omega)]
  omega
theorem x_bearerOf (h : RR s g) (hw : WF g) {b m on : Int} (hb : bdyZ g b) (hm : 0 ≤ m ∧ m ≤ 9) (ho : -1 ≤ on ∧ on < 9) : vX12_bearerOf s (zI b) (zI m) (zI on) = zI (brG g (lfO g m on) b m) ∧ rX12_bearerOf s (zI b) (zI m) (zI on) := by
  have h0 := hw.w0
  have hB := hw.wb hb
  have hL := hw.lef hb
  obtain ⟨e1, r1⟩ := x_leftOf h hw hb
  obtain ⟨e2, r2⟩ := x_kin h (b := b) (by omega) (by omega)
  have e3 := x_isLiving h (kiZ g b)
  have hq : ∀ x : Int, (-1 ≤ x ∧ x < 9) → (if zI x = zI on then zI m else zI 0) = zI (if x = on then m else 0) := by
    intro x hx
    simp (disch := omega) only [z_eq]
    split <;> rfl
  have hm2 : ∀ x : Int, 0 ≤ (if x = on then m else 0) ∧ (if x = on then m else 0) ≤ 9 := by intro x; split <;> omega
  have hb2 := hm2 b
  have hk2 := hm2 (kiZ g b)
  unfold vX12_bearerOf rX12_bearerOf brG
  have hqb := hq b (by omega)
  have hqk := hq (kiZ g b) (by omega)
  simp (disch := omega) only [e1, r1, e2, r2, e3, hqb, z_sub, z_lt, show (0 : Int32) = zI 0 from rfl, bI_z]
  by_cases hk : kiZ g b < 0
  · refine ⟨?_, trivial, fun _ => ⟨by omega, fun hc => absurd hk hc⟩⟩
    by_cases h1 : lefZ g b - (if b = on then m else 0) < m
    · rw [if_pos h1, if_pos hk, if_pos h1, if_neg (fun hc => by omega)]; rfl
    · rw [if_neg h1, if_neg h1]
  · have hkb : bdyZ g (kiZ g b) := ⟨by omega, by omega⟩
    obtain ⟨e4, r4⟩ := x_leftOf h hw hkb
    have hL4 := hw.lef hkb
    have hlk : lfO g m on (kiZ g b) = lefZ g (kiZ g b) - (if kiZ g b = on then m else 0) := rfl
    simp (disch := omega) only [hqk, e4, r4, z_sub, z_lt, implies_true, and_true]
    refine ⟨?_, trivial, fun _ => by omega⟩
    by_cases h1 : lefZ g b - (if b = on then m else 0) < m
    · rw [if_pos h1, if_neg hk, if_pos h1]
      by_cases h2 : livZ g (kiZ g b)
      · rw [if_neg (Classical.not_not.mpr h2)]
        by_cases h3 : lefZ g (kiZ g b) - (if kiZ g b = on then m else 0) < m
        · rw [if_pos h3, if_neg (fun hc => by have := hc.2.2; omega)]; rfl
        · rw [if_neg h3, if_pos ⟨by omega, h2, by omega⟩]
      · rw [if_pos h2, if_neg (fun hc => h2 hc.2.1)]; rfl
    · rw [if_neg h1, if_neg h1]
theorem y_kin (h : PoR s P g) (hw : WF g) {b : Int} (hb : bdyZ g b) : gI s (P + 3) (zI b).toNatClampNeg = zI (kiZ g b) := by
  have h0 := hw.w0
  rw [z_cl (by omega)]
  exact (h.2.1 b hb).2
theorem y_vb (hw : WF g) {b : Int} (hb : bdyZ g b) : vp_in (zI b) 9 := by
  have h0 := hw.w0
  rw [z_in (by omega)]
  omega
theorem y_vk (hw : WF g) {b : Int} (hb : kndZ g b) : vp_in (zI b) 6 := by
  have h0 := hw.w0
  rw [z_in (by omega)]
  omega
theorem y_bearerFor (h : PoR s P g) (hdead : gI s L 14 = zI (g 36)) (hw : WF g) {lf : Int → Int} (hl : ∀ b, bdyZ g b → gI s (L + 7) b.toNat = zI (lf b)) (hlb : ∀ b, bdyZ g b → -100 ≤ lf b ∧ lf b ≤ 200) {b m : Int} (hb : bdyZ g b) (hm : 0 ≤ m ∧ m ≤ 9) : vX4_bearerFor s L P (zI b) (zI m) = zI (brG g lf b m) ∧ rX4_bearerFor s L P (zI b) (zI m) := by
  have h0 := hw.w0
  have hB := hw.wb hb
  have e1 := hl b hb
  have l1 := hlb b hb
  have e2 := y_kin h hw hb
  have v1 := y_vb hw hb
  have e3 : ∀ x, vX4_lives s L P (zI x) = bI (livZ g x) := by
    intro x
    unfold vX4_lives
    rw [hdead]
    exact bI_c (i_and1_0 _)
  unfold vX4_bearerFor rX4_bearerFor brG
  rw [e2]
  simp (disch := omega) only [z_cl, e1, e3, v1, z_lt, show (-1 : Int32) = zI (-1) from rfl, z_eq, bI_0, true_and]
  by_cases hk : kiZ g b = -1
  · refine ⟨?_, fun _ hc => absurd hk hc⟩
    by_cases h1 : lf b < m
    · rw [if_pos h1, if_pos hk, if_pos h1, if_neg (fun hc => by omega)]
    · rw [if_neg h1, if_neg h1]
  · have hkb : bdyZ g (kiZ g b) := ⟨by omega, by omega⟩
    have e4 := hl _ hkb
    have l4 := hlb _ hkb
    simp (disch := omega) only [e4, y_vb hw hkb, z_lt, implies_true, and_true]
    by_cases h1 : lf b < m
    · rw [if_pos h1, if_neg hk, if_pos h1]
      by_cases h2 : livZ g (kiZ g b)
      · rw [if_neg (Classical.not_not.mpr h2)]
        by_cases h3 : lf (kiZ g b) < m
        · rw [if_pos h3, if_neg (fun hc => by have := hc.2.2; omega)]
        · rw [if_neg h3, if_pos ⟨by omega, h2, by omega⟩]
      · rw [if_pos h2, if_neg (fun hc => h2 hc.2.1)]
    · rw [if_neg h1, if_neg h1]
end
