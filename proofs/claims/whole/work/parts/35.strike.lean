theorem upZ_comm (g : Nat → Int) {k k' : Nat} (v v' : Int) (h : k ≠ k') : upZ (upZ g k v) k' v' = upZ (upZ g k' v') k v := by
  funext j
  unfold upZ
  by_cases h1 : j = k
  · by_cases h2 : j = k'
    · exact absurd (h1.symm.trans h2) h
    · rw [if_neg h2, if_pos h1, if_pos h1]
  · by_cases h2 : j = k'
    · rw [if_pos h2, if_neg h1, if_pos h2]
    · rw [if_neg h2, if_neg h1, if_neg h1, if_neg h2]
theorem exU_st (g : Nat → Int) {b d w v x : Int} (hb : bdyZ g b) (h0 : g 0 ≤ 9) (hd : 0 ≤ d) (hw : 0 ≤ w) : exU (stD g d w v) b x = stD (exU g b x) d w v := by
  unfold exU stD
  rw [show exZ (upZ g (46 + 9 * d + w).toNat v) b = exZ g b from by unfold exZ upZ; rw [if_neg (by omega)]]
  exact upZ_comm g _ _ (by omega)
/-- v more on b, if he lives -/
def exA (g : Nat → Int) (b v : Int) : Nat → Int := if livZ g b then exU g b v else g
theorem exA_st (g : Nat → Int) {b d w v x : Int} (hb : bdyZ g b) (h0 : g 0 ≤ 9) (hd : 0 ≤ d) (hw : 0 ≤ w) : exA (stD g d w v) b x = stD (exA g b x) d w v := by
  unfold exA
  simp only [show livZ (stD g d w v) b = livZ g b from by unfold livZ; rw [stD_lo g v hd hw (by omega)]]
  split
  · exact exU_st g hb h0 hd hw
  · rfl
theorem exA_lo (g : Nat → Int) {b : Int} (v : Int) (hb : 0 ≤ b) {k : Nat} (hk : k < 37) : exA g b v k = g k := by
  unfold exA; split
  · exact exU_lo g v hb hk
  · rfl
theorem exA_hi (g : Nat → Int) {b : Int} (v : Int) (hb : b < 9) {k : Nat} (hk : 46 ≤ k) : exA g b v k = g k := by
  unfold exA; split
  · exact exU_hi g v hb hk
  · rfl
theorem WF_ex {g : Nat → Int} (hw : WF g) {b v : Int} (hb : bdyZ g b) (hv : 0 ≤ v) (hv2 : v ≤ lefZ g b) : WF (exU g b v) := by
  have h0 := hw.w0
  have lo : ∀ k, k < 37 → exU g b v k = g k := fun k hk => exU_lo g v hb.1 hk
  have hs := exU_sp g v hb.1
  have hBb := hw.wb hb
  refine ⟨?_, fun b' hb' => ?_, fun k hk => ?_, fun d hd => ?_⟩
  · unfold W0
    rw [lo 0 (by omega), lo 1 (by omega), lo 2 (by omega), lo 3 (by omega), lo 34 (by omega), lo 35 (by omega), lo 36 (by omega)]
    exact h0
  · have hb2 : bdyZ g b' := ⟨hb'.1, by have := hb'.2; rw [lo 0 (by omega)] at this; exact this⟩
    have hB := hw.wb hb2
    unfold WB
    rw [SP_rm hs (by omega), SP_ki hs (by omega), lo 0 (by omega), exU_ex g v hb.1 hb2.1, exU_lef hw v hb hb2]
    by_cases hq : b' = b
    · subst hq; rw [if_pos rfl, if_pos rfl]; omega
    · rw [if_neg hq, if_neg hq]; omega
  · have hk2 : kndZ g k := ⟨hk.1, by have := hk.2; rw [lo 1 (by omega)] at this; exact this⟩
    have hK := hw.wk hk2
    unfold WK
    rw [SP_sz hs (by omega), SP_so hs (by omega)]
    exact hK
  · have hd2 : dlZ g d := ⟨hd.1, by have := hd.2; rw [lo 34 (by omega)] at this; exact this⟩
    have hD := hw.wd hd2
    have oo : ∀ w, 0 ≤ w → oZ (exU g b v) d w = oZ g d w := fun w h => exU_oZ g v (by omega) hd2.1 h
    unfold WD
    rw [oo 0 (by omega), oo 1 (by omega), oo 2 (by omega), oo 3 (by omega), oo 4 (by omega), oo 5 (by omega), oo 6 (by omega), oo 7 (by omega), oo 8 (by omega), lo 0 (by omega), lo 1 (by omega)]
    exact hD
theorem WF_exA {g : Nat → Int} (hw : WF g) {b v : Int} (hb : bdyZ g b) (hv : 0 ≤ v) (hv2 : livZ g b → v ≤ lefZ g b) : WF (exA g b v) := by
  unfold exA
  split
  · rename_i h; exact WF_ex hw hb hv (hv2 h)
  · exact hw
theorem WF_st {g : Nat → Int} (hw : WF g) {d w v : Int} (hd : dlZ g d) (hw0 : 0 ≤ w) (hw9 : w < 9) (h3 : w ≠ 3) (h6 : w ≠ 6) (h7 : w ≠ 7) (hWD : WD (stD g d w v) d) : WF (stD g d w v) := by
  have h0 := hw.w0
  have lo : ∀ k, k < 46 → stD g d w v k = g k := fun k hk => stD_lo g v hd.1 hw0 hk
  have hs := SP_st g (d := d) (w := w) v hd.1 hw0
  refine ⟨?_, fun b' hb' => ?_, fun k hk => ?_, fun d' hd' => ?_⟩
  · unfold W0
    rw [lo 0 (by omega), lo 1 (by omega), lo 2 (by omega), lo 3 (by omega), lo 34 (by omega), lo 35 (by omega), lo 36 (by omega)]
    exact h0
  · have hb2 : bdyZ g b' := ⟨hb'.1, by have := hb'.2; rw [lo 0 (by omega)] at this; exact this⟩
    have hB := hw.wb hb2
    unfold WB
    rw [SP_rm hs (by omega), SP_ki hs (by omega), lo 0 (by omega), st_lef hw hd hw0 hw9 h3 h6 h7 hb2.1 (by omega), show exZ (stD g d w v) b' = exZ g b' from lo _ (by omega)]
    exact hB
  · have hk2 : kndZ g k := ⟨hk.1, by have := hk.2; rw [lo 1 (by omega)] at this; exact this⟩
    have hK := hw.wk hk2
    unfold WK
    rw [SP_sz hs (by omega), SP_so hs (by omega)]
    exact hK
  · by_cases hq : d' = d
    · rw [hq]; exact hWD
    · have hd2 : dlZ g d' := ⟨hd'.1, by have := hd'.2; rw [lo 34 (by omega)] at this; exact this⟩
      have hD := hw.wd hd2
      have oo : ∀ w', 0 ≤ w' → w' < 9 → oZ (stD g d w v) d' w' = oZ g d' w' := fun w' h1 h2 => by rw [oZ_st g v hd.1 hw0 hw9 hd2.1 h1 h2, if_neg (fun hc => hq hc.1)]
      unfold WD
      rw [oo 0 (by omega) (by omega), oo 1 (by omega) (by omega), oo 2 (by omega) (by omega), oo 3 (by omega) (by omega), oo 4 (by omega) (by omega), oo 5 (by omega) (by omega), oo 6 (by omega) (by omega), oo 7 (by omega) (by omega), oo 8 (by omega) (by omega), lo 0 (by omega), lo 1 (by omega)]
      exact hD
/-- what the lines of DEAL d need -/
def ndZ (g : Nat → Int) (d : Int) : Int := g 2 * (if oZ g d 6 = oZ g d 7 then 2 else 1)
def wsZ (g : Nat → Int) (d : Int) : Int := if opZ g d then (if (livZ g (oZ g d 6) ∧ lefZ g (oZ g d 6) < ndZ g d) ∨ (livZ g (oZ g d 7) ∧ lefZ g (oZ g d 7) < ndZ g d) then 5 else 0) else 4
/-- STRIKE done -/
def skZ (g : Nat → Int) (d : Int) : Nat → Int := exA (exA (stD g d 5 1) (oZ g d 6) (g 2)) (oZ g d 7) (g 2)
theorem wsZ_b (g : Nat → Int) (d : Int) : 0 ≤ wsZ g d ∧ wsZ g d ≤ 5 := by
  unfold wsZ
  split
  · split <;> omega
  · omega
theorem ndZ_b {g : Nat → Int} (hw : WF g) (d : Int) : g 2 ≤ ndZ g d ∧ ndZ g d ≤ 18 ∧ (oZ g d 6 = oZ g d 7 → ndZ g d = 2 * g 2) := by
  have h0 := hw.w0
  unfold ndZ
  split
  · refine ⟨by omega, by omega, fun _ => by omega⟩
  · rename_i h; exact ⟨by omega, by omega, fun hc => absurd hc h⟩
theorem skZ_wf {g : Nat → Int} (hw : WF g) {d : Int} (h : wsZ g d = 0) : WF (skZ g d) ∧ opZ g d := by
  have h0 := hw.w0
  have ho : opZ g d := by
    by_cases ho : opZ g d
    · exact ho
    · unfold wsZ at h; rw [if_neg ho] at h; omega
  have hD := hw.wd ho.1
  have hn := ndZ_b hw d
  refine ⟨?_, ho⟩
  unfold wsZ at h
  rw [if_pos ho] at h
  have h5 : ¬ ((livZ g (oZ g d 6) ∧ lefZ g (oZ g d 6) < ndZ g d) ∨ (livZ g (oZ g d 7) ∧ lefZ g (oZ g d 7) < ndZ g d)) := by
    intro hc; rw [if_pos hc] at h; omega
  have b6 : bdyZ g (oZ g d 6) := by have := hD.2.2.2.2.2.2.2.2.2 ho.2; omega
  have b7 : bdyZ g (oZ g d 7) := by have := hD.2.2.2.2.2.2.2.2.2 ho.2; omega
  have oo : ∀ w', 0 ≤ w' → w' < 9 → oZ (stD g d 5 1) d w' = if w' = 5 then 1 else oZ g d w' := fun w' h1 h2 => by
    rw [oZ_st g 1 ho.1.1 (by omega) (by omega) ho.1.1 h1 h2]
    by_cases hq : w' = 5
    · rw [if_pos ⟨rfl, hq⟩, if_pos hq]
    · rw [if_neg (fun hc => hq hc.2), if_neg hq]
  have lo : ∀ k, k < 46 → stD g d 5 1 k = g k := fun k hk => stD_lo g 1 ho.1.1 (by omega) hk
  have w1 : WF (stD g d 5 1) := WF_st hw ho.1 (by omega) (by omega) (by omega) (by omega) (by omega) (by
    unfold WD
    rw [oo 0 (by omega) (by omega), oo 1 (by omega) (by omega), oo 2 (by omega) (by omega), oo 3 (by omega) (by omega), oo 4 (by omega) (by omega), oo 5 (by omega) (by omega), oo 6 (by omega) (by omega), oo 7 (by omega) (by omega), oo 8 (by omega) (by omega), lo 0 (by omega), lo 1 (by omega)]
    simp only [Int.reduceAdd, Int.reduceSub, Int.reduceMul, Int.reduceNeg, Int.reduceLT, Int.reduceLE, Int.reduceToNat, Int.reduceEq, if_true, if_false, true_and, and_true, not_true, not_false_eq_true, false_implies, true_implies, imp_self, and_self]
    omega)
  have b6' : bdyZ (stD g d 5 1) (oZ g d 6) := by rw [show bdyZ (stD g d 5 1) (oZ g d 6) = bdyZ g (oZ g d 6) from by unfold bdyZ; rw [lo 0 (by omega)]]; exact b6
  have e6 : lefZ (stD g d 5 1) (oZ g d 6) = lefZ g (oZ g d 6) := st_lef hw ho.1 (by omega) (by omega) (by omega) (by omega) (by omega) b6.1 (by omega)
  have e7 : lefZ (stD g d 5 1) (oZ g d 7) = lefZ g (oZ g d 7) := st_lef hw ho.1 (by omega) (by omega) (by omega) (by omega) (by omega) b7.1 (by omega)
  have l6 : livZ (stD g d 5 1) (oZ g d 6) = livZ g (oZ g d 6) := by unfold livZ; rw [lo 36 (by omega)]
  have w2 : WF (exA (stD g d 5 1) (oZ g d 6) (g 2)) := WF_exA w1 b6' (by omega) (fun hl => by
    rw [l6] at hl
    rw [e6]
    rcases Int.lt_or_le (lefZ g (oZ g d 6)) (ndZ g d) with hq | hq
    · exact absurd (Or.inl ⟨hl, hq⟩) h5
    · omega)
  have lo2 : ∀ k, k < 37 → exA (stD g d 5 1) (oZ g d 6) (g 2) k = g k := fun k hk => (exA_lo _ _ b6.1 hk).trans (lo k (by omega))
  have b7' : bdyZ (exA (stD g d 5 1) (oZ g d 6) (g 2)) (oZ g d 7) := by rw [show bdyZ (exA (stD g d 5 1) (oZ g d 6) (g 2)) (oZ g d 7) = bdyZ g (oZ g d 7) from by unfold bdyZ; rw [lo2 0 (by omega)]]; exact b7
  have l7 : livZ (exA (stD g d 5 1) (oZ g d 6) (g 2)) (oZ g d 7) = livZ g (oZ g d 7) := by unfold livZ; rw [lo2 36 (by omega)]
  refine WF_exA w2 b7' (by omega) (fun hl => ?_)
  rw [l7] at hl
  have hq7 : ndZ g d ≤ lefZ g (oZ g d 7) := by
    rcases Int.lt_or_le (lefZ g (oZ g d 7)) (ndZ g d) with hq | hq
    · exact absurd (Or.inr ⟨hl, hq⟩) h5
    · exact hq
  unfold exA
  split
  · rename_i hl6
    rw [exU_lef w1 (g 2) b6' (by rw [show bdyZ (stD g d 5 1) (oZ g d 7) = bdyZ g (oZ g d 7) from by unfold bdyZ; rw [lo 0 (by omega)]]; exact b7), e7]
    by_cases hq : oZ g d 7 = oZ g d 6
    · rw [if_pos hq]; have := hn.2.2 hq.symm; omega
    · rw [if_neg hq]; omega
  · rw [e7]; omega
