def wyZ (g : Nat → Int) (l d k : Int) : Int := if l = d ∨ ¬ livZ g l ∨ ¬ livZ g d then 1 else if brG g (lefZ g) l (szZ g k) < 0 then 2 else if brG g (lfO g (szZ g k) (brG g (lefZ g) l (szZ g k))) d (szZ g k) < 0 then 3 else if g 34 = 60 then 7 else 0
theorem wyZ_b (g : Nat → Int) (l d k : Int) : 0 ≤ wyZ g l d k ∧ wyZ g l d k ≤ 7 := by
  unfold wyZ
  split
  · omega
  · split
    · omega
    · split
      · omega
      · split <;> omega
section
variable {s : SM} {g : Nat → Int} {L P : Nat}
theorem PoR_p {c i : Nat} {v : Int32} (h : PoR s P g) (hc : c < P ∨ P + 6 < c) : PoR (pI s c i v) P g := by
  obtain ⟨⟨h1, h2, h3, h4⟩, h5, h6⟩ := h
  have hn : ∀ c' i', c' ≤ P + 6 → P ≤ c' → gI (pI s c i v) c' i' = gI s c' i' := by
    intro c' i' h1 h2
    rw [gI_pI, if_neg (by omega)]
  refine ⟨⟨?_, ?_, ?_, ?_⟩, fun b hb => ⟨?_, ?_⟩, fun k hk => ⟨?_, ?_⟩⟩
  · rw [hn _ _ (by omega) (by omega)]; exact h1
  · rw [hn _ _ (by omega) (by omega)]; exact h2
  · rw [hn _ _ (by omega) (by omega)]; exact h3
  · rw [hn _ _ (by omega) (by omega)]; exact h4
  · rw [hn _ _ (by omega) (by omega)]; exact (h5 b hb).1
  · rw [hn _ _ (by omega) (by omega)]; exact (h5 b hb).2
  · rw [hn _ _ (by omega) (by omega)]; exact (h6 k hk).1
  · rw [hn _ _ (by omega) (by omega)]; exact (h6 k hk).2
theorem x_sz (h : RR s g) (hw : WF g) {k : Int} (hk : kndZ g k) : gI s 250 ((22 : Int32) + zI k).toNatClampNeg = zI (szZ g k) ∧ vp_in ((22 : Int32) + zI k) 787 := by
  have h0 := hw.w0
  unfold szZ
  rw [show (22 : Int32) = zI 22 from rfl, z_add, z_cl (by omega), h, z_in (by omega)]
  exact ⟨rfl, by omega⟩
theorem y_sz (h : PoR s P g) (hw : WF g) {k : Int} (hk : kndZ g k) : gI s (P + 5) (zI k).toNatClampNeg = zI (szZ g k) := by
  have h0 := hw.w0
  rw [z_cl (by omega)]
  exact (h.2.2 k hk).1
theorem x_whyWrite (h : RR s g) (hw : WF g) {l d k : Int} (hl : bdyZ g l) (hd : bdyZ g d) (hk : kndZ g k) : vX12_whyWrite s (zI l) (zI d) (zI k) = zI (wyZ g l d k) ∧ rX12_whyWrite s (zI l) (zI d) (zI k) := by
  have h0 := hw.w0
  have hK := hw.wk hk
  obtain ⟨e1, r1⟩ := x_sz h hw hk
  obtain ⟨e2, r2⟩ := x_bearerOf h hw (on := -1) hl (m := szZ g k) (by omega) (by omega)
  have hc : brG g (lfO g (szZ g k) (-1)) l (szZ g k) = brG g (lefZ g) l (szZ g k) := brG_c hw hl (fun x hx => by unfold lfO; rw [if_neg (by omega)]; omega)
  rw [hc] at e2
  have hcb := brG_b (lf := lefZ g) (m := szZ g k) hw hl
  obtain ⟨e3, r3⟩ := x_bearerOf h hw (on := brG g (lefZ g) l (szZ g k)) hd (m := szZ g k) (by omega) (by omega)
  have hdb := brG_b (lf := lfO g (szZ g k) (brG g (lefZ g) l (szZ g k))) (m := szZ g k) hw hd
  unfold vX12_whyWrite rX12_whyWrite wyZ
  rw [e1, show (-1 : Int32) = zI (-1) from rfl, e2, e3]
  refine ⟨?_, fun _ _ _ => ⟨r1, r2, fun _ => ⟨r1, r3⟩⟩⟩
  have h34 := x_34 h
  simp (disch := omega) only [z_eq, x_isLiving h, bI_0, h34, show (0 : Int32) = zI 0 from rfl, z_le, bI_z, show (60 : Int32) = zI 60 from rfl]
  by_cases q1 : l = d
  · rw [if_pos q1, if_pos (Or.inl q1)]; rfl
  · rw [if_neg q1]
    by_cases q2 : livZ g l
    · rw [if_neg (Classical.not_not.mpr q2)]
      by_cases q3 : livZ g d
      · rw [if_neg (Classical.not_not.mpr q3), if_neg (show ¬ (l = d ∨ ¬ livZ g l ∨ ¬ livZ g d) from fun hc => hc.elim q1 (fun hc => hc.elim (fun q => q q2) (fun q => q q3)))]
        by_cases q4 : brG g (lefZ g) l (szZ g k) < 0
        · rw [if_neg (by omega), if_pos q4]; rfl
        · rw [if_pos (by omega), if_neg q4]
          by_cases q5 : brG g (lfO g (szZ g k) (brG g (lefZ g) l (szZ g k))) d (szZ g k) < 0
          · rw [if_neg (by omega), if_pos q5]; rfl
          · rw [if_pos (by omega), if_neg q5]
            by_cases q6 : g 34 = 60
            · rw [if_pos q6, if_pos q6]; rfl
            · rw [if_neg q6, if_neg q6]
      · rw [if_pos q3, if_pos (Or.inr (Or.inr q3))]; rfl
    · rw [if_pos q2, if_pos (Or.inr (Or.inl q2))]; rfl
theorem y_debt_m (s : SM) (L P : Nat) (a b c : Int32) : mX4_debtBearerFor s L P a b c = s := by
  unfold mX4_debtBearerFor
  dsimp only
  rw [pI_pI, gI_pI, if_pos ⟨rfl, rfl⟩, Int32.sub_add_cancel, pI_id]
theorem y_wrong_m (s : SM) (L P : Nat) (a b c : Int32) : mX4_wrongToWrite s L P a b c = s := by
  unfold mX4_wrongToWrite
  dsimp only
  rw [y_debt_m]
  split <;> (try rfl)
  split <;> (try rfl)
  split <;> (try rfl)
  split <;> rfl
theorem y_lbs (hw : WF g) : ∀ b, bdyZ g b → -100 ≤ lefZ g b ∧ lefZ g b ≤ 200 := fun b hb => by have := hw.lef hb; omega
theorem y_debt (h : LdR s L P g) (hPL : P + 7 ≤ L) (hw : WF g) {d m c : Int} (hd : bdyZ g d) (hc : bdyZ g c) (hm : 0 ≤ m ∧ m ≤ 9) : vX4_debtBearerFor s L P (zI d) (zI m) (zI c) = zI (brG g (lfO g m c) d m) ∧ rX4_debtBearerFor s L P (zI d) (zI m) (zI c) := by
  have h0 := hw.w0
  have e0 : gI s (L + 7) (zI c).toNatClampNeg - zI m = zI (lefZ g c - m) := by
    rw [z_cl (by omega), (h.2.2.1 c hc).1, z_sub]
  have hP : PoR (pI s (L + 7) (zI c).toNatClampNeg (zI (lefZ g c - m))) P g := PoR_p h.1 (by omega)
  have hD : gI (pI s (L + 7) (zI c).toNatClampNeg (zI (lefZ g c - m))) L 14 = zI (g 36) := by
    rw [gI_pI, if_neg (by omega)]; exact h.2.1.2.2
  have hl : ∀ b, bdyZ g b → gI (pI s (L + 7) (zI c).toNatClampNeg (zI (lefZ g c - m))) (L + 7) b.toNat = zI (lfO g m c b) := by
    intro b hb
    rw [gI_pI, z_cl (by omega)]
    unfold lfO
    by_cases hq : b = c
    · rw [if_pos ⟨rfl, by rw [hq]⟩, if_pos hq, hq]
    · rw [if_neg (fun hc => hq (by omega)), if_neg hq, Int.sub_zero]; exact (h.2.2.1 b hb).1
  have hlb : ∀ b, bdyZ g b → -100 ≤ lfO g m c b ∧ lfO g m c b ≤ 200 := by
    intro b hb
    have := hw.lef hb
    unfold lfO
    split <;> omega
  obtain ⟨e1, r1⟩ := y_bearerFor hP hD hw hl hlb hd hm
  have vc := y_vb hw hc
  unfold vX4_debtBearerFor rX4_debtBearerFor
  rw [e0]
  exact ⟨e1, vc, vc, r1, vc, vc⟩
theorem y_wrong (h : LdR s L P g) (hPL : P + 7 ≤ L) (hw : WF g) {l d k : Int} (hl : bdyZ g l) (hd : bdyZ g d) (hk : kndZ g k) : vX4_wrongToWrite s L P (zI l) (zI d) (zI k) = zI (wyZ g l d k) ∧ rX4_wrongToWrite s L P (zI l) (zI d) (zI k) := by
  have h0 := hw.w0
  have hK := hw.wk hk
  have e1 := y_sz h.1 hw hk
  have vk := y_vk hw hk
  obtain ⟨e2, r2⟩ := y_bearerFor (L := L) h.1 h.2.1.2.2 hw (fun b hb => (h.2.2.1 b hb).1) (y_lbs hw) hl (m := szZ g k) (by omega)
  have hcb := brG_b (lf := lefZ g) (m := szZ g k) hw hl
  have h9 := h.2.1.1
  unfold vX4_wrongToWrite rX4_wrongToWrite wyZ
  dsimp only
  rw [y_debt_m, e1, e2]
  simp (disch := omega) only [z_eq, y_lives h.2, bI_0, show (-1 : Int32) = zI (-1) from rfl, h9, show (60 : Int32) = zI 60 from rfl, z_lt]
  by_cases q4 : brG g (lefZ g) l (szZ g k) < 0
  · have q4' : brG g (lefZ g) l (szZ g k) = -1 := by omega
    refine ⟨?_, fun _ _ _ => ⟨vk, r2, fun hc => absurd q4' hc⟩⟩
    by_cases q1 : l = d
    · rw [if_pos q1, if_pos (Or.inl q1)]; rfl
    · rw [if_neg q1]
      by_cases q2 : livZ g l
      · rw [if_neg (Classical.not_not.mpr q2)]
        by_cases q3 : livZ g d
        · rw [if_neg (Classical.not_not.mpr q3), if_neg (show ¬ (l = d ∨ ¬ livZ g l ∨ ¬ livZ g d) from fun hc => hc.elim q1 (fun hc => hc.elim (fun q => q q2) (fun q => q q3))), if_pos q4', if_pos q4]; rfl
        · rw [if_pos q3, if_pos (Or.inr (Or.inr q3))]; rfl
      · rw [if_pos q2, if_pos (Or.inr (Or.inl q2))]; rfl
  · have q4' : ¬ brG g (lefZ g) l (szZ g k) = -1 := by omega
    obtain ⟨e3, r3⟩ := y_debt h hPL hw hd (c := brG g (lefZ g) l (szZ g k)) ⟨by omega, by omega⟩ (m := szZ g k) (by omega)
    have hdb := brG_b (lf := lfO g (szZ g k) (brG g (lefZ g) l (szZ g k))) (m := szZ g k) hw hd
    refine ⟨?_, fun _ _ _ => ⟨vk, r2, fun _ => ⟨vk, r3⟩⟩⟩
    simp (disch := omega) only [e3, z_eq]
    by_cases q1 : l = d
    · rw [if_pos q1, if_pos (Or.inl q1)]; rfl
    · rw [if_neg q1]
      by_cases q2 : livZ g l
      · rw [if_neg (Classical.not_not.mpr q2)]
        by_cases q3 : livZ g d
        · rw [if_neg (Classical.not_not.mpr q3), if_neg (show ¬ (l = d ∨ ¬ livZ g l ∨ ¬ livZ g d) from fun hc => hc.elim q1 (fun hc => hc.elim (fun q => q q2) (fun q => q q3))), if_neg q4', if_neg q4]
          by_cases q5 : brG g (lfO g (szZ g k) (brG g (lefZ g) l (szZ g k))) d (szZ g k) < 0
          · rw [if_pos (by omega), if_pos q5]; rfl
          · rw [if_neg (by omega), if_neg q5]
            by_cases q6 : g 34 = 60
            · rw [if_neg (by omega), if_pos q6]; rfl
            · rw [if_pos (by omega), if_neg q6]; rfl
        · rw [if_pos q3, if_pos (Or.inr (Or.inr q3))]; rfl
      · rw [if_pos q2, if_pos (Or.inr (Or.inl q2))]; rfl
end
