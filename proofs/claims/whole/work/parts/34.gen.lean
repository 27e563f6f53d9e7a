theorem FU1 : FU = (FU - 1) + 1 := by have := FU_eq; omega
/-- lines, dots: v more on b -/
def exU (g : Nat → Int) (b v : Int) : Nat → Int := upZ g (37 + b).toNat (exZ g b + v)
theorem exU_sp (g : Nat → Int) {b : Int} (v : Int) (hb : 0 ≤ b) : SP g (exU g b v) := SP_up g _ (by omega)
theorem exU_hi (g : Nat → Int) {b : Int} (v : Int) (hb : b < 9) {k : Nat} (hk : 46 ≤ k) : exU g b v k = g k := by unfold exU upZ; rw [if_neg (by omega)]
theorem exU_lo (g : Nat → Int) {b : Int} (v : Int) (hb : 0 ≤ b) {k : Nat} (hk : k < 37) : exU g b v k = g k := by unfold exU upZ; rw [if_neg (by omega)]
theorem exU_oZ (g : Nat → Int) {b : Int} (v : Int) (hb : b < 9) {d w : Int} (hd : 0 ≤ d) (hw : 0 ≤ w) : oZ (exU g b v) d w = oZ g d w := exU_hi g v hb (by omega)
theorem exU_ex (g : Nat → Int) {b b' : Int} (v : Int) (hb : 0 ≤ b) (hb' : 0 ≤ b') : exZ (exU g b v) b' = if b' = b then exZ g b + v else exZ g b' := by
  show exU g b v (37 + b').toNat = _
  unfold exU upZ
  by_cases h : b' = b
  · rw [if_pos h, if_pos (by rw [h])]
  · rw [if_neg h, if_neg (by omega)]; rfl
theorem lef_c {g g' : Nat → Int} {b v : Int} (hs : SP g g') (hb : b < 9) (h34 : g' 34 = g 34) (hd : ∀ d, dlZ g d → mkZ g' b d = mkZ g b d) (he : exZ g' b = exZ g b + v) : lefZ g' b = lefZ g b - v := by
  unfold lefZ
  rw [h34, SP_rm hs hb, he, sumZ_c (f := mkZ g' b) (g := mkZ g b) _ (fun d h1 h2 => hd d ⟨h1, by omega⟩)]
  omega
theorem exU_lef {g : Nat → Int} (hw : WF g) {b b' : Int} (v : Int) (hb : bdyZ g b) (hb' : bdyZ g b') : lefZ (exU g b v) b' = lefZ g b' - (if b' = b then v else 0) := by
  have h0 := hw.w0
  refine lef_c (exU_sp g v hb.1) (by omega) (exU_lo g v hb.1 (by omega)) (fun d hd => ?_) ?_
  · have hk := (hw.wd hd).2.2.2.1
    unfold mkZ sizZ
    rw [exU_oZ g v (by omega) hd.1 (by omega), exU_oZ g v (by omega) hd.1 (by omega), exU_oZ g v (by omega) hd.1 (by omega), SP_sz (exU_sp g v hb.1) (by omega)]
  · rw [exU_ex g v hb.1 hb'.1]
    by_cases h : b' = b
    · rw [if_pos h, if_pos h, h]
    · rw [if_neg h, if_neg h]; omega
theorem st_lef {g : Nat → Int} (hw : WF g) {d w v b : Int} (hd : dlZ g d) (hw0 : 0 ≤ w) (hw9 : w < 9) (h3 : w ≠ 3) (h6 : w ≠ 6) (h7 : w ≠ 7) (hb : 0 ≤ b) (hb9 : b < 9) : lefZ (stD g d w v) b = lefZ g b := by
  have h0 := hw.w0
  have := lef_c (v := 0) (SP_st g v hd.1 hw0) hb9 (stD_lo g v hd.1 hw0 (by omega)) (fun d' hd' => by
    have hk := (hw.wd hd').2.2.2.1
    have oo : ∀ w', w' ≠ w → 0 ≤ w' → w' < 9 → oZ (stD g d w v) d' w' = oZ g d' w' := fun w' h1 h2 h3 => by rw [oZ_st g v hd.1 hw0 hw9 hd'.1 h2 h3, if_neg (fun hc => h1 hc.2)]
    unfold mkZ sizZ
    rw [oo 6 (by omega) (by omega) (by omega), oo 7 (by omega) (by omega) (by omega), oo 3 (by omega) (by omega) (by omega), SP_sz (SP_st g v hd.1 hw0) (by omega)]) (show exZ (stD g d w v) b = exZ g b + 0 by
      unfold exZ
      rw [stD_lo g v hd.1 hw0 (by omega)]; omega)
  rw [this]; omega
section
variable {s : SM} {g : Nat → Int} {L P : Nat}
theorem LdR_ex (h : LdR s L P g) (hPL : P + 7 ≤ L) (hw : WF g) {b v : Int} (hb : bdyZ g b) : LdR (pI (pI s (L + 7) b.toNat (zI (lefZ g b - v))) (L + 8) b.toNat (zI (exZ g b + v))) L P (exU g b v) := by
  have h0 := hw.w0
  refine ⟨PoR_c hw (exU_sp g v hb.1) (PoR_p (PoR_p h.1 (by omega)) (by omega)), ⟨?_, ?_, ?_⟩, fun b' hb' => ⟨?_, ?_⟩, fun d hd => ?_⟩
  · rw [exU_lo g v hb.1 (by omega)]
    simp (disch := omega) only [gI_n]
    exact h.2.1.1
  · rw [exU_lo g v hb.1 (by omega)]
    simp (disch := omega) only [gI_n]
    exact h.2.1.2.1
  · rw [exU_lo g v hb.1 (by omega)]
    simp (disch := omega) only [gI_n]
    exact h.2.1.2.2
  · have hb2 : bdyZ g b' := ⟨hb'.1, by have := hb'.2; rw [exU_lo g v hb.1 (by omega)] at this; exact this⟩
    rw [exU_lef hw v hb hb2]
    simp (disch := omega) only [gI_n, gI_s]
    by_cases hq : b' = b
    · subst hq; rw [if_pos rfl, if_pos rfl]
    · rw [if_neg (by omega), if_neg hq, Int.sub_zero]; exact (h.2.2.1 b' hb2).1
  · have hb2 : bdyZ g b' := ⟨hb'.1, by have := hb'.2; rw [exU_lo g v hb.1 (by omega)] at this; exact this⟩
    rw [exU_ex g v hb.1 hb2.1]
    simp (disch := omega) only [gI_n, gI_s]
    by_cases hq : b' = b
    · subst hq; rw [if_pos rfl, if_pos rfl]
    · rw [if_neg (by omega), if_neg hq]; exact (h.2.2.1 b' hb2).2
  · have hd2 : dlZ g d := ⟨hd.1, by have := hd.2; rw [exU_lo g v hb.1 (by omega)] at this; exact this⟩
    obtain ⟨k0, k1, k2, k3, k4, k5, k6, k7, k8⟩ := h.2.2.2 d hd2
    refine ⟨?_, ?_, ?_, ?_, ?_, ?_, ?_, ?_, ?_⟩ <;> rw [exU_oZ g v (by omega) hd2.1 (by omega)] <;> simp (disch := omega) only [gI_n] <;> assumption
theorem LdR_st0 (h : LdR s L P g) (hPL : P + 7 ≤ L) (hw : WF g) {d v : Int} (hd : dlZ g d) : LdR (pI s (L + 1) (zI d).toNatClampNeg (zI v)) L P (stD g d 0 v) := by
  have h0 := hw.w0
  have lo : ∀ k, k < 46 → stD g d 0 v k = g k := fun k hk => stD_lo g v hd.1 (by omega) hk
  rw [z_cl (by omega)]
  refine ⟨PoR_c hw (SP_st g v hd.1 (by omega)) (PoR_p h.1 (by omega)), ⟨?_, ?_, ?_⟩, fun b hb => ⟨?_, ?_⟩, fun d' hd' => ?_⟩
  · rw [lo 34 (by omega), gI_n _ _ _ _ (by omega)]; exact h.2.1.1
  · rw [lo 35 (by omega), gI_n _ _ _ _ (by omega)]; exact h.2.1.2.1
  · rw [lo 36 (by omega), gI_n _ _ _ _ (by omega)]; exact h.2.1.2.2
  · have hb2 : bdyZ g b := ⟨hb.1, by have := hb.2; rw [lo 0 (by omega)] at this; exact this⟩
    rw [st_lef hw hd (by omega) (by omega) (by omega) (by omega) (by omega) hb2.1 (by omega), gI_n _ _ _ _ (by omega)]
    exact (h.2.2.1 b hb2).1
  · have hb2 : bdyZ g b := ⟨hb.1, by have := hb.2; rw [lo 0 (by omega)] at this; exact this⟩
    rw [show exZ (stD g d 0 v) b = exZ g b from lo _ (by omega), gI_n _ _ _ _ (by omega)]
    exact (h.2.2.1 b hb2).2
  · have hd2 : dlZ g d' := ⟨hd'.1, by have := hd'.2; rw [lo 34 (by omega)] at this; exact this⟩
    obtain ⟨k0, k1, k2, k3, k4, k5, k6, k7, k8⟩ := h.2.2.2 d' hd2
    have oo := fun w' h1 h2 => oZ_st g v (w := 0) hd.1 (by omega) (by omega) hd2.1 (w' := w') h1 h2
    by_cases hq : d' = d
    · subst hq
      refine ⟨?_, ?_, ?_, ?_, ?_, ?_, ?_, ?_, ?_⟩ <;> rw [oo _ (by omega) (by omega)] <;> first | (rw [if_pos ⟨rfl, rfl⟩, gI_s, if_pos rfl]; done) | (rw [if_neg (by omega), gI_n _ _ _ _ (by omega)]; assumption)
    · refine ⟨?_, ?_, ?_, ?_, ?_, ?_, ?_, ?_, ?_⟩ <;> rw [oo _ (by omega) (by omega), if_neg (by omega)] <;> first | (rw [gI_n _ _ _ _ (by omega)]; assumption) | (rw [gI_s, if_neg (by omega)]; assumption)
theorem LdR_st1 (h : LdR s L P g) (hPL : P + 7 ≤ L) (hw : WF g) {d v : Int} (hd : dlZ g d) : LdR (pI s (L + 2) (zI d).toNatClampNeg (zI v)) L P (stD g d 1 v) := by
  have h0 := hw.w0
  have lo : ∀ k, k < 46 → stD g d 1 v k = g k := fun k hk => stD_lo g v hd.1 (by omega) hk
  rw [z_cl (by omega)]
  refine ⟨PoR_c hw (SP_st g v hd.1 (by omega)) (PoR_p h.1 (by omega)), ⟨?_, ?_, ?_⟩, fun b hb => ⟨?_, ?_⟩, fun d' hd' => ?_⟩
  · rw [lo 34 (by omega), gI_n _ _ _ _ (by omega)]; exact h.2.1.1
  · rw [lo 35 (by omega), gI_n _ _ _ _ (by omega)]; exact h.2.1.2.1
  · rw [lo 36 (by omega), gI_n _ _ _ _ (by omega)]; exact h.2.1.2.2
  · have hb2 : bdyZ g b := ⟨hb.1, by have := hb.2; rw [lo 0 (by omega)] at this; exact this⟩
    rw [st_lef hw hd (by omega) (by omega) (by omega) (by omega) (by omega) hb2.1 (by omega), gI_n _ _ _ _ (by omega)]
    exact (h.2.2.1 b hb2).1
  · have hb2 : bdyZ g b := ⟨hb.1, by have := hb.2; rw [lo 0 (by omega)] at this; exact this⟩
    rw [show exZ (stD g d 1 v) b = exZ g b from lo _ (by omega), gI_n _ _ _ _ (by omega)]
    exact (h.2.2.1 b hb2).2
  · have hd2 : dlZ g d' := ⟨hd'.1, by have := hd'.2; rw [lo 34 (by omega)] at this; exact this⟩
    obtain ⟨k0, k1, k2, k3, k4, k5, k6, k7, k8⟩ := h.2.2.2 d' hd2
    have oo := fun w' h1 h2 => oZ_st g v (w := 1) hd.1 (by omega) (by omega) hd2.1 (w' := w') h1 h2
    by_cases hq : d' = d
    · subst hq
      refine ⟨?_, ?_, ?_, ?_, ?_, ?_, ?_, ?_, ?_⟩ <;> rw [oo _ (by omega) (by omega)] <;> first | (rw [if_pos ⟨rfl, rfl⟩, gI_s, if_pos rfl]; done) | (rw [if_neg (by omega), gI_n _ _ _ _ (by omega)]; assumption)
    · refine ⟨?_, ?_, ?_, ?_, ?_, ?_, ?_, ?_, ?_⟩ <;> rw [oo _ (by omega) (by omega), if_neg (by omega)] <;> first | (rw [gI_n _ _ _ _ (by omega)]; assumption) | (rw [gI_s, if_neg (by omega)]; assumption)
theorem LdR_st2 (h : LdR s L P g) (hPL : P + 7 ≤ L) (hw : WF g) {d v : Int} (hd : dlZ g d) : LdR (pI s (L + 3) (zI d).toNatClampNeg (zI v)) L P (stD g d 2 v) := by
  have h0 := hw.w0
  have lo : ∀ k, k < 46 → stD g d 2 v k = g k := fun k hk => stD_lo g v hd.1 (by omega) hk
  rw [z_cl (by omega)]
  refine ⟨PoR_c hw (SP_st g v hd.1 (by omega)) (PoR_p h.1 (by omega)), ⟨?_, ?_, ?_⟩, fun b hb => ⟨?_, ?_⟩, fun d' hd' => ?_⟩
  · rw [lo 34 (by omega), gI_n _ _ _ _ (by omega)]; exact h.2.1.1
  · rw [lo 35 (by omega), gI_n _ _ _ _ (by omega)]; exact h.2.1.2.1
  · rw [lo 36 (by omega), gI_n _ _ _ _ (by omega)]; exact h.2.1.2.2
  · have hb2 : bdyZ g b := ⟨hb.1, by have := hb.2; rw [lo 0 (by omega)] at this; exact this⟩
    rw [st_lef hw hd (by omega) (by omega) (by omega) (by omega) (by omega) hb2.1 (by omega), gI_n _ _ _ _ (by omega)]
    exact (h.2.2.1 b hb2).1
  · have hb2 : bdyZ g b := ⟨hb.1, by have := hb.2; rw [lo 0 (by omega)] at this; exact this⟩
    rw [show exZ (stD g d 2 v) b = exZ g b from lo _ (by omega), gI_n _ _ _ _ (by omega)]
    exact (h.2.2.1 b hb2).2
  · have hd2 : dlZ g d' := ⟨hd'.1, by have := hd'.2; rw [lo 34 (by omega)] at this; exact this⟩
    obtain ⟨k0, k1, k2, k3, k4, k5, k6, k7, k8⟩ := h.2.2.2 d' hd2
    have oo := fun w' h1 h2 => oZ_st g v (w := 2) hd.1 (by omega) (by omega) hd2.1 (w' := w') h1 h2
    by_cases hq : d' = d
    · subst hq
      refine ⟨?_, ?_, ?_, ?_, ?_, ?_, ?_, ?_, ?_⟩ <;> rw [oo _ (by omega) (by omega)] <;> first | (rw [if_pos ⟨rfl, rfl⟩, gI_s, if_pos rfl]; done) | (rw [if_neg (by omega), gI_n _ _ _ _ (by omega)]; assumption)
    · refine ⟨?_, ?_, ?_, ?_, ?_, ?_, ?_, ?_, ?_⟩ <;> rw [oo _ (by omega) (by omega), if_neg (by omega)] <;> first | (rw [gI_n _ _ _ _ (by omega)]; assumption) | (rw [gI_s, if_neg (by omega)]; assumption)
theorem LdR_st5 (h : LdR s L P g) (hPL : P + 7 ≤ L) (hw : WF g) {d v : Int} (hd : dlZ g d) : LdR (pI s (L + 6) (zI d).toNatClampNeg (zI v)) L P (stD g d 5 v) := by
  have h0 := hw.w0
  have lo : ∀ k, k < 46 → stD g d 5 v k = g k := fun k hk => stD_lo g v hd.1 (by omega) hk
  rw [z_cl (by omega)]
  refine ⟨PoR_c hw (SP_st g v hd.1 (by omega)) (PoR_p h.1 (by omega)), ⟨?_, ?_, ?_⟩, fun b hb => ⟨?_, ?_⟩, fun d' hd' => ?_⟩
  · rw [lo 34 (by omega), gI_n _ _ _ _ (by omega)]; exact h.2.1.1
  · rw [lo 35 (by omega), gI_n _ _ _ _ (by omega)]; exact h.2.1.2.1
  · rw [lo 36 (by omega), gI_n _ _ _ _ (by omega)]; exact h.2.1.2.2
  · have hb2 : bdyZ g b := ⟨hb.1, by have := hb.2; rw [lo 0 (by omega)] at this; exact this⟩
    rw [st_lef hw hd (by omega) (by omega) (by omega) (by omega) (by omega) hb2.1 (by omega), gI_n _ _ _ _ (by omega)]
    exact (h.2.2.1 b hb2).1
  · have hb2 : bdyZ g b := ⟨hb.1, by have := hb.2; rw [lo 0 (by omega)] at this; exact this⟩
    rw [show exZ (stD g d 5 v) b = exZ g b from lo _ (by omega), gI_n _ _ _ _ (by omega)]
    exact (h.2.2.1 b hb2).2
  · have hd2 : dlZ g d' := ⟨hd'.1, by have := hd'.2; rw [lo 34 (by omega)] at this; exact this⟩
    obtain ⟨k0, k1, k2, k3, k4, k5, k6, k7, k8⟩ := h.2.2.2 d' hd2
    have oo := fun w' h1 h2 => oZ_st g v (w := 5) hd.1 (by omega) (by omega) hd2.1 (w' := w') h1 h2
    by_cases hq : d' = d
    · subst hq
      refine ⟨?_, ?_, ?_, ?_, ?_, ?_, ?_, ?_, ?_⟩ <;> rw [oo _ (by omega) (by omega)] <;> first | (rw [if_pos ⟨rfl, rfl⟩, gI_s, if_pos rfl]; done) | (rw [if_neg (by omega), gI_n _ _ _ _ (by omega)]; assumption)
    · refine ⟨?_, ?_, ?_, ?_, ?_, ?_, ?_, ?_, ?_⟩ <;> rw [oo _ (by omega) (by omega), if_neg (by omega)] <;> first | (rw [gI_n _ _ _ _ (by omega)]; assumption) | (rw [gI_s, if_neg (by omega)]; assumption)
theorem LdR_st8 (h : LdR s L P g) (hPL : P + 7 ≤ L) (hw : WF g) {d v : Int} (hd : dlZ g d) : LdR (pI s (L + 11) (zI d).toNatClampNeg (zI v)) L P (stD g d 8 v) := by
  have h0 := hw.w0
  have lo : ∀ k, k < 46 → stD g d 8 v k = g k := fun k hk => stD_lo g v hd.1 (by omega) hk
  rw [z_cl (by omega)]
  refine ⟨PoR_c hw (SP_st g v hd.1 (by omega)) (PoR_p h.1 (by omega)), ⟨?_, ?_, ?_⟩, fun b hb => ⟨?_, ?_⟩, fun d' hd' => ?_⟩
  · rw [lo 34 (by omega), gI_n _ _ _ _ (by omega)]; exact h.2.1.1
  · rw [lo 35 (by omega), gI_n _ _ _ _ (by omega)]; exact h.2.1.2.1
  · rw [lo 36 (by omega), gI_n _ _ _ _ (by omega)]; exact h.2.1.2.2
  · have hb2 : bdyZ g b := ⟨hb.1, by have := hb.2; rw [lo 0 (by omega)] at this; exact this⟩
    rw [st_lef hw hd (by omega) (by omega) (by omega) (by omega) (by omega) hb2.1 (by omega), gI_n _ _ _ _ (by omega)]
    exact (h.2.2.1 b hb2).1
  · have hb2 : bdyZ g b := ⟨hb.1, by have := hb.2; rw [lo 0 (by omega)] at this; exact this⟩
    rw [show exZ (stD g d 8 v) b = exZ g b from lo _ (by omega), gI_n _ _ _ _ (by omega)]
    exact (h.2.2.1 b hb2).2
  · have hd2 : dlZ g d' := ⟨hd'.1, by have := hd'.2; rw [lo 34 (by omega)] at this; exact this⟩
    obtain ⟨k0, k1, k2, k3, k4, k5, k6, k7, k8⟩ := h.2.2.2 d' hd2
    have oo := fun w' h1 h2 => oZ_st g v (w := 8) hd.1 (by omega) (by omega) hd2.1 (w' := w') h1 h2
    by_cases hq : d' = d
    · subst hq
      refine ⟨?_, ?_, ?_, ?_, ?_, ?_, ?_, ?_, ?_⟩ <;> rw [oo _ (by omega) (by omega)] <;> first | (rw [if_pos ⟨rfl, rfl⟩, gI_s, if_pos rfl]; done) | (rw [if_neg (by omega), gI_n _ _ _ _ (by omega)]; assumption)
    · refine ⟨?_, ?_, ?_, ?_, ?_, ?_, ?_, ?_, ?_⟩ <;> rw [oo _ (by omega) (by omega), if_neg (by omega)] <;> first | (rw [gI_n _ _ _ _ (by omega)]; assumption) | (rw [gI_s, if_neg (by omega)]; assumption)
end
