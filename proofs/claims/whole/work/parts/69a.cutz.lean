-- needs: 42.qa 51.fr 54.copy 55.hist 56.hist 60.rg
/-! CUT, of the row -/
theorem exA_oZ (g : Nat → Int) {b v : Int} (hb : b < 9) {d w : Int} (hd : 0 ≤ d) (hw : 0 ≤ w) : oZ (exA g b v) d w = oZ g d w := exA_hi g v hb (by omega)
theorem exA_ex (g : Nat → Int) {b b' : Int} (v : Int) (hb : 0 ≤ b) (hb' : 0 ≤ b') : exZ (exA g b v) b' = exZ g b' + (if b = b' then (if livZ g b' then v else 0) else 0) := by
  unfold exA
  by_cases h : livZ g b
  · rw [if_pos h, exU_ex g v hb hb']
    by_cases hq : b = b'
    · subst hq; rw [if_pos rfl, if_pos rfl, if_pos h]
    · rw [if_neg (fun hc => hq hc.symm), if_neg hq, Int.add_zero]
  · rw [if_neg h]
    by_cases hq : b = b'
    · subst hq; rw [if_pos rfl, if_neg h, Int.add_zero]
    · rw [if_neg hq, Int.add_zero]
def un1 (g : Nat → Int) (d w : Int) : Nat → Int := stD (exA g (oZ g d (6 + w)) (dtZ g d)) d (6 + w) (-1)
section
variable {g : Nat → Int}
theorem un1_oZ {d w : Int} (hd : 0 ≤ d) (hs : w = 0 ∨ w = 1) (hb : bdyZ g (oZ g d (6 + w))) (h9 : g 0 ≤ 9) {d' w' : Int} (hd' : 0 ≤ d') (h0 : 0 ≤ w') (h9' : w' < 9) : oZ (un1 g d w) d' w' = if d' = d ∧ w' = 6 + w then -1 else oZ g d' w' := by
  unfold un1
  rw [oZ_st _ _ hd (by omega) (by omega) hd' h0 h9', exA_oZ _ (by omega) hd' h0]
theorem un1_lo {d w : Int} (hd : 0 ≤ d) (hs : w = 0 ∨ w = 1) (hb : bdyZ g (oZ g d (6 + w))) {k : Nat} (hk : k < 37) : un1 g d w k = g k := by
  unfold un1
  rw [stD_lo _ _ hd (by omega) (by omega), exA_lo _ _ (by omega) hk]
theorem un1_hi {d w : Int} (hd : dlZ g d) (h6 : g 34 ≤ 60) (hs : w = 0 ∨ w = 1) (hb : bdyZ g (oZ g d (6 + w))) (h9 : g 0 ≤ 9) {k : Nat} (hk : 586 ≤ k) : un1 g d w k = g k := by
  unfold un1
  rw [stD_hi _ _ (by omega) (by omega) hk, exA_hi _ _ (by omega) (by omega)]
theorem un1_ex {d w : Int} (hd : 0 ≤ d) (hs : w = 0 ∨ w = 1) (hb : bdyZ g (oZ g d (6 + w))) {b : Int} (h0 : 0 ≤ b) (h9 : b < 9) : exZ (un1 g d w) b = exZ g b + (if oZ g d (6 + w) = b then (if livZ g b then dtZ g d else 0) else 0) := by
  unfold un1
  rw [← exA_ex g (dtZ g d) hb.1 h0]
  exact stD_lo _ _ hd (by omega) (by omega)
theorem un1_siz (hw : WF g) {d w : Int} (hd : dlZ g d) (hs : w = 0 ∨ w = 1) (hb : bdyZ g (oZ g d (6 + w))) {d' : Int} (hd' : dlZ g d') : sizZ (un1 g d w) d' = sizZ g d' := by
  have h0 := hw.w0
  have := (hw.wd hd').2.2.2.1
  unfold sizZ
  rw [un1_oZ hd.1 hs hb (by omega) hd'.1 (by omega) (by omega), if_neg (by omega)]
  exact SP_sz (fun k hk => un1_lo hd.1 hs hb (by omega)) (by omega)
theorem un1_dt (hw : WF g) {d w : Int} (hd : dlZ g d) (hs : w = 0 ∨ w = 1) (hb : bdyZ g (oZ g d (6 + w))) {d' : Int} (hd' : dlZ g d') : dtZ (un1 g d w) d' = dtZ g d' := by
  unfold dtZ
  rw [un1_siz hw hd hs hb hd', un1_lo hd.1 hs hb (by omega)]
theorem un1_lef (hw : WF g) {d w : Int} (hd : dlZ g d) (hs : w = 0 ∨ w = 1) (hb : bdyZ g (oZ g d (6 + w))) {b : Int} (hb2 : bdyZ g b) : lefZ (un1 g d w) b = lefZ g b + (if oZ g d (6 + w) = b then sizZ g d - (if livZ g b then dtZ g d else 0) else 0) := by
  have h0 := hw.w0
  have hsp : SP g (un1 g d w) := fun k hk => un1_lo hd.1 hs hb (by omega)
  have e34 : un1 g d w 34 = g 34 := un1_lo hd.1 hs hb (by omega)
  unfold lefZ
  rw [SP_rm hsp (by omega), un1_ex hd.1 hs hb hb2.1 (by omega), e34, sumZ_1 (f := mkZ (un1 g d w) b) (g := mkZ g b) d hd.1 (by omega) (fun d' h1 h2 h3 => ?_)]
  · have hm : mkZ (un1 g d w) b d = mkZ g b d - (if oZ g d (6 + w) = b then sizZ g d else 0) := by
      unfold mkZ
      rw [un1_siz hw hd hs hb hd, un1_oZ hd.1 hs hb (by omega) hd.1 (by omega) (by omega), un1_oZ hd.1 hs hb (by omega) hd.1 (by omega) (by omega)]
      rcases hs with rfl | rfl
      · rw [if_pos (show d = d ∧ (6 : Int) = 6 + 0 from ⟨rfl, rfl⟩), if_neg (show ¬ (d = d ∧ (7 : Int) = 6 + 0) by omega), if_neg (show ¬ (-1 : Int) = b by omega), Int.add_zero]; omega
      · rw [if_neg (show ¬ (d = d ∧ (6 : Int) = 6 + 1) by omega), if_pos (show d = d ∧ (7 : Int) = 6 + 1 from ⟨rfl, rfl⟩), if_neg (show ¬ (-1 : Int) = b by omega), show (6 : Int) + 1 = 7 from rfl]; omega
    rw [hm]
    by_cases hq : oZ g d (6 + w) = b
    · rw [if_pos hq, if_pos hq, if_pos hq]; omega
    · rw [if_neg hq, if_neg hq, if_neg hq]; omega
  · have hd' : dlZ g d' := ⟨h1, by omega⟩
    unfold mkZ
    rw [un1_siz hw hd hs hb hd', un1_oZ hd.1 hs hb (by omega) h1 (by omega) (by omega), un1_oZ hd.1 hs hb (by omega) h1 (by omega) (by omega), if_neg (show ¬ (d' = d ∧ (6 : Int) = 6 + w) by omega), if_neg (show ¬ (d' = d ∧ (7 : Int) = 6 + w) by omega)]
theorem dt_b (hw : WF g) {d : Int} (hd : dlZ g d) : 0 ≤ dtZ g d ∧ dtZ g d ≤ sizZ g d := by
  have h0 := hw.w0
  have h1 := (hw.siz hd).1
  unfold dtZ
  split <;> omega
theorem un1_wf (hw : WF g) {d w : Int} (hd : dlZ g d) (hs : w = 0 ∨ w = 1) (hb : bdyZ g (oZ g d (6 + w))) (h5 : oZ g d 5 ≠ 0) : WF (un1 g d w) := by
  have h0 := hw.w0
  have lo := fun k (hk : k < 37) => un1_lo hd.1 hs hb (k := k) hk
  have hsp : SP g (un1 g d w) := fun k hk => lo k (by omega)
  have e0 := lo 0 (by omega)
  have e34 := lo 34 (by omega)
  have hdt := dt_b hw hd
  refine ⟨?_, fun b hb2 => ?_, fun k hk => ?_, fun d' hd' => ?_⟩
  · unfold W0; rw [e0, lo 1 (by omega), lo 2 (by omega), lo 3 (by omega), e34, lo 35 (by omega), lo 36 (by omega)]; exact h0
  · have hb3 : bdyZ g b := by unfold bdyZ at hb2; rw [e0] at hb2; exact hb2
    have k := hw.wb hb3
    unfold WB
    rw [SP_rm hsp (by omega), SP_ki hsp (by omega), e0, un1_ex hd.1 hs hb hb3.1 (by omega), un1_lef hw hd hs hb hb3]
    refine ⟨k.1, k.2.1, ?_, ?_⟩
    · have := k.2.2.1; split
      · split <;> omega
      · omega
    · have := k.2.2.2; split
      · split <;> omega
      · omega
  · have hk2 : kndZ g k := by unfold kndZ at hk; rw [lo 1 (by omega)] at hk; exact hk
    have := hw.wk hk2
    unfold WK
    rw [SP_sz hsp (by omega), SP_so hsp (by omega)]; exact this
  · have hd2 : dlZ g d' := by unfold dlZ at hd'; rw [e34] at hd'; exact hd'
    have k := hw.wd hd2
    have oo := fun w' (h1 : 0 ≤ w') (h2 : w' < 9) => un1_oZ hd.1 hs hb (by omega) hd2.1 (w' := w') h1 h2
    unfold WD
    rw [oo 0 (by omega) (by omega), oo 1 (by omega) (by omega), oo 2 (by omega) (by omega), oo 3 (by omega) (by omega), oo 4 (by omega) (by omega), oo 5 (by omega) (by omega), oo 6 (by omega) (by omega), oo 7 (by omega) (by omega), oo 8 (by omega) (by omega), e0, lo 1 (by omega)]
    rw [if_neg (by omega), if_neg (by omega), if_neg (by omega), if_neg (by omega), if_neg (by omega), if_neg (by omega), if_neg (show ¬ (d' = d ∧ (8 : Int) = 6 + w) by omega)]
    by_cases hq : d' = d
    · subst hq
      refine ⟨k.1, k.2.1, k.2.2.1, k.2.2.2.1, k.2.2.2.2.1, k.2.2.2.2.2.1, ?_, ?_, k.2.2.2.2.2.2.2.2.1, fun hc => absurd hc h5⟩
      · split <;> omega
      · split <;> omega
    · rw [if_neg (by omega), if_neg (by omega)]; exact k
/-- deal d closed: its sum gone, its marks off -/
def cl0 (g : Nat → Int) (d : Int) : Nat → Int := stD (stD g d 2 0) d 5 2
def clZ (g : Nat → Int) (d : Int) : Nat → Int := un1 (un1 (cl0 g d) d 0) d 1
def leD (g : Nat → Int) (m d : Int) : Nat → Int := if oZ g d 2 - m = 0 then clZ g d else stD g d 2 (oZ g d 2 - m)
theorem cl0_oZ {d : Int} (hd : 0 ≤ d) {d' w' : Int} (hd' : 0 ≤ d') (h0 : 0 ≤ w') (h9 : w' < 9) : oZ (cl0 g d) d' w' = if d' = d ∧ w' = 5 then 2 else if d' = d ∧ w' = 2 then 0 else oZ g d' w' := by
  unfold cl0
  rw [oZ_st _ _ hd (by omega) (by omega) hd' h0 h9, oZ_st _ _ hd (by omega) (by omega) hd' h0 h9]
theorem cl0_o2 {d : Int} (hd : 0 ≤ d) {d' w' : Int} (hd' : 0 ≤ d') (h0 : 0 ≤ w') (h9 : w' < 9) (h2 : w' ≠ 2) (h5 : w' ≠ 5) : oZ (cl0 g d) d' w' = oZ g d' w' := by
  rw [cl0_oZ hd hd' h0 h9, if_neg (fun hc => h5 hc.2), if_neg (fun hc => h2 hc.2)]
theorem cl0_lo {d : Int} (hd : 0 ≤ d) {k : Nat} (hk : k < 46) : cl0 g d k = g k := by unfold cl0; rw [stD_lo _ _ hd (by omega) hk, stD_lo _ _ hd (by omega) hk]
theorem cl0_hi {d : Int} (hd : d < 60) {k : Nat} (hk : 586 ≤ k) : cl0 g d k = g k := by unfold cl0; rw [stD_hi _ _ hd (by omega) hk, stD_hi _ _ hd (by omega) hk]
theorem stD2_wf (hw : WF g) {d v : Int} (ho : opZ g d) (hv : 0 < v ∧ v ≤ 99) : WF (stD g d 2 v) := by
  have h0 := hw.w0
  have k := hw.wd ho.1
  refine WF_st hw ho.1 (by omega) (by omega) (by omega) (by omega) (by omega) ?_
  have oo := fun w' (h1 : 0 ≤ w') (h2 : w' < 9) => oZ_st g v ho.1.1 (w := 2) (by omega) (by omega) ho.1.1 (w' := w') h1 h2
  unfold WD
  rw [oo 0 (by omega) (by omega), oo 1 (by omega) (by omega), oo 2 (by omega) (by omega), oo 3 (by omega) (by omega), oo 4 (by omega) (by omega), oo 5 (by omega) (by omega), oo 6 (by omega) (by omega), oo 7 (by omega) (by omega), oo 8 (by omega) (by omega), stD_lo _ _ ho.1.1 (by omega) (by omega), stD_lo _ _ ho.1.1 (by omega) (by omega)]
  simp only [true_and]
  simp only [show ¬ (0 : Int) = 2 by omega, show ¬ (1 : Int) = 2 by omega, show ¬ (3 : Int) = 2 by omega, show ¬ (4 : Int) = 2 by omega, show ¬ (5 : Int) = 2 by omega, show ¬ (6 : Int) = 2 by omega, show ¬ (7 : Int) = 2 by omega, show ¬ (8 : Int) = 2 by omega, if_true, if_false]
  refine ⟨k.1, k.2.1, by omega, k.2.2.2.1, k.2.2.2.2.1, k.2.2.2.2.2.1, k.2.2.2.2.2.2.1, k.2.2.2.2.2.2.2.1, k.2.2.2.2.2.2.2.2.1, fun hc => ?_⟩
  have := k.2.2.2.2.2.2.2.2.2 hc
  omega
theorem cl0_wf (hw : WF g) {d : Int} (ho : opZ g d) : WF (cl0 g d) := by
  have h0 := hw.w0
  have k := hw.wd ho.1
  -- a state first, then the sum: the same row
  have e : cl0 g d = stD (stD g d 5 2) d 2 0 := upZ_comm g _ _ (by omega)
  rw [e]
  have w5 : WF (stD g d 5 2) := by
    refine WF_st hw ho.1 (by omega) (by omega) (by omega) (by omega) (by omega) ?_
    have oo := fun w' (h1 : 0 ≤ w') (h2 : w' < 9) => oZ_st g 2 ho.1.1 (w := 5) (by omega) (by omega) ho.1.1 (w' := w') h1 h2
    unfold WD
    rw [oo 0 (by omega) (by omega), oo 1 (by omega) (by omega), oo 2 (by omega) (by omega), oo 3 (by omega) (by omega), oo 4 (by omega) (by omega), oo 5 (by omega) (by omega), oo 6 (by omega) (by omega), oo 7 (by omega) (by omega), oo 8 (by omega) (by omega), stD_lo _ _ ho.1.1 (by omega) (by omega), stD_lo _ _ ho.1.1 (by omega) (by omega)]
    simp only [true_and]
    simp only [show ¬ (0 : Int) = 5 by omega, show ¬ (1 : Int) = 5 by omega, show ¬ (3 : Int) = 5 by omega, show ¬ (4 : Int) = 5 by omega, show ¬ (2 : Int) = 5 by omega, show ¬ (6 : Int) = 5 by omega, show ¬ (7 : Int) = 5 by omega, show ¬ (8 : Int) = 5 by omega, if_true, if_false]
    exact ⟨k.1, k.2.1, k.2.2.1, k.2.2.2.1, k.2.2.2.2.1, by omega, k.2.2.2.2.2.2.1, k.2.2.2.2.2.2.2.1, k.2.2.2.2.2.2.2.2.1, fun hc => by omega⟩
  have hd5 : dlZ (stD g d 5 2) d := by unfold dlZ; rw [stD_lo _ _ ho.1.1 (by omega) (by omega)]; exact ho.1
  have k5 := w5.wd hd5
  have h5 : oZ (stD g d 5 2) d 5 = 2 := by rw [oZ_st _ _ ho.1.1 (by omega) (by omega) ho.1.1 (by omega) (by omega), if_pos ⟨rfl, rfl⟩]
  refine WF_st w5 hd5 (by omega) (by omega) (by omega) (by omega) (by omega) ?_
  have oo := fun w' (h1 : 0 ≤ w') (h2 : w' < 9) => oZ_st (stD g d 5 2) 0 ho.1.1 (w := 2) (by omega) (by omega) ho.1.1 (w' := w') h1 h2
  unfold WD
  rw [oo 0 (by omega) (by omega), oo 1 (by omega) (by omega), oo 2 (by omega) (by omega), oo 3 (by omega) (by omega), oo 4 (by omega) (by omega), oo 5 (by omega) (by omega), oo 6 (by omega) (by omega), oo 7 (by omega) (by omega), oo 8 (by omega) (by omega), stD_lo (stD g d 5 2) _ ho.1.1 (by omega) (by omega), stD_lo (stD g d 5 2) _ ho.1.1 (by omega) (by omega)]
  simp only [true_and]
  simp only [show ¬ (0 : Int) = 2 by omega, show ¬ (1 : Int) = 2 by omega, show ¬ (3 : Int) = 2 by omega, show ¬ (4 : Int) = 2 by omega, show ¬ (5 : Int) = 2 by omega, show ¬ (6 : Int) = 2 by omega, show ¬ (7 : Int) = 2 by omega, show ¬ (8 : Int) = 2 by omega, if_true, if_false]
  exact ⟨k5.1, k5.2.1, by omega, k5.2.2.2.1, k5.2.2.2.2.1, k5.2.2.2.2.2.1, k5.2.2.2.2.2.2.1, k5.2.2.2.2.2.2.2.1, k5.2.2.2.2.2.2.2.2.1, fun hc => by omega⟩
theorem cl0_lef (hw : WF g) {d : Int} (ho : opZ g d) {b : Int} (hb : bdyZ g b) : lefZ (cl0 g d) b = lefZ g b := by
  have h0 := hw.w0
  have e : cl0 g d = stD (stD g d 5 2) d 2 0 := upZ_comm g _ _ (by omega)
  refine (lef_c (g' := cl0 g d) (v := 0) (fun k hk => cl0_lo ho.1.1 (by omega)) (by omega) (cl0_lo ho.1.1 (by omega)) (fun d' hd' => ?_) ?_).trans (Int.sub_zero _)
  · have hk := (hw.wd hd').2.2.2.1
    unfold mkZ sizZ
    rw [cl0_o2 ho.1.1 hd'.1 (by omega) (by omega) (by omega) (by omega), cl0_o2 ho.1.1 hd'.1 (by omega) (by omega) (by omega) (by omega), cl0_o2 ho.1.1 hd'.1 (by omega) (by omega) (by omega) (by omega)]
    rw [SP_sz (fun k hk => cl0_lo ho.1.1 (by omega)) (by omega)]
  · rw [Int.add_zero]; exact cl0_lo ho.1.1 (by omega)
theorem cl0_b {d w : Int} (hw : WF g) (ho : opZ g d) (hs : w = 0 ∨ w = 1) : bdyZ (cl0 g d) (oZ (cl0 g d) d (6 + w)) ∧ oZ (cl0 g d) d (6 + w) = oZ g d (6 + w) ∧ bdyZ g (oZ g d (6 + w)) := by
  have k := hw.wd ho.1
  have k2 := k.2.2.2.2.2.2.2.2.2 ho.2
  have e : oZ (cl0 g d) d (6 + w) = oZ g d (6 + w) := cl0_o2 ho.1.1 ho.1.1 (by omega) (by omega) (by omega) (by omega)
  have hb : bdyZ g (oZ g d (6 + w)) := by
    rcases hs with rfl | rfl
    · exact ⟨k2.2.2.1, k.2.2.2.2.2.2.1.2⟩
    · exact ⟨k2.2.2.2, k.2.2.2.2.2.2.2.1.2⟩
  refine ⟨?_, e, hb⟩
  rw [e]
  unfold bdyZ
  rw [cl0_lo ho.1.1 (by omega)]
  exact hb
/-- what closing deal d goes by -/
theorem clZ_s (hw : WF g) {d : Int} (ho : opZ g d) : WF (cl0 g d) ∧ dlZ (cl0 g d) d ∧ bdyZ (cl0 g d) (oZ (cl0 g d) d (6 + 0)) ∧ oZ (cl0 g d) d 5 ≠ 0 ∧ WF (un1 (cl0 g d) d 0) ∧ dlZ (un1 (cl0 g d) d 0) d ∧ bdyZ (un1 (cl0 g d) d 0) (oZ (un1 (cl0 g d) d 0) d (6 + 1)) ∧ oZ (un1 (cl0 g d) d 0) d 5 ≠ 0 ∧ oZ (un1 (cl0 g d) d 0) d (6 + 1) = oZ g d 7 := by
  have h0 := hw.w0
  have w0 := cl0_wf hw ho
  have d0 : dlZ (cl0 g d) d := by unfold dlZ; rw [cl0_lo ho.1.1 (by omega)]; exact ho.1
  obtain ⟨b0, e0, -⟩ := cl0_b hw ho (w := 0) (Or.inl rfl)
  obtain ⟨b1, e1, b1'⟩ := cl0_b hw ho (w := 1) (Or.inr rfl)
  have h5 : oZ (cl0 g d) d 5 = 2 := by rw [cl0_oZ ho.1.1 ho.1.1 (by omega) (by omega), if_pos ⟨rfl, rfl⟩]
  have g9 : cl0 g d 0 ≤ 9 := by rw [cl0_lo ho.1.1 (by omega)]; omega
  have w1 := un1_wf w0 d0 (Or.inl rfl) b0 (by omega)
  have d1 : dlZ (un1 (cl0 g d) d 0) d := by unfold dlZ; rw [un1_lo ho.1.1 (Or.inl rfl) b0 (by omega)]; exact d0
  have e7 : oZ (un1 (cl0 g d) d 0) d (6 + 1) = oZ (cl0 g d) d (6 + 1) := by rw [un1_oZ ho.1.1 (Or.inl rfl) b0 g9 ho.1.1 (by omega) (by omega), if_neg (by omega)]
  have h51 : oZ (un1 (cl0 g d) d 0) d 5 = 2 := by rw [un1_oZ ho.1.1 (Or.inl rfl) b0 g9 ho.1.1 (by omega) (by omega), if_neg (by omega)]; exact h5
  refine ⟨w0, d0, b0, by omega, w1, d1, ?_, by omega, by rw [e7, e1]; rfl⟩
  rw [e7]
  unfold bdyZ
  rw [un1_lo ho.1.1 (Or.inl rfl) b0 (by omega)]
  exact b1
theorem clZ_all (hw : WF g) {d : Int} (ho : opZ g d) : WF (clZ g d) ∧ (∀ k, k < 37 → clZ g d k = g k) ∧ (∀ k, 586 ≤ k → clZ g d k = g k) ∧ ∀ d' w', 0 ≤ d' → d' ≠ d → 0 ≤ w' → w' < 9 → oZ (clZ g d) d' w' = oZ g d' w' := by
  have h0 := hw.w0
  obtain ⟨w0, d0, b0, h5, w1, d1, b1, h51, -⟩ := clZ_s hw ho
  have g9 : cl0 g d 0 ≤ 9 := by rw [cl0_lo ho.1.1 (by omega)]; omega
  have g34 : cl0 g d 34 ≤ 60 := by rw [cl0_lo ho.1.1 (by omega)]; omega
  have g91 : un1 (cl0 g d) d 0 0 ≤ 9 := by rw [un1_lo ho.1.1 (Or.inl rfl) b0 (by omega)]; omega
  have g341 : un1 (cl0 g d) d 0 34 ≤ 60 := by rw [un1_lo ho.1.1 (Or.inl rfl) b0 (by omega)]; omega
  refine ⟨un1_wf w1 d1 (Or.inr rfl) b1 h51, fun k hk => ?_, fun k hk => ?_, fun d' w' h1 h2 h3 h4 => ?_⟩
  · unfold clZ; rw [un1_lo ho.1.1 (Or.inr rfl) b1 hk, un1_lo ho.1.1 (Or.inl rfl) b0 hk, cl0_lo ho.1.1 (by omega)]
  · unfold clZ; rw [un1_hi d1 g341 (Or.inr rfl) b1 g91 hk, un1_hi d0 g34 (Or.inl rfl) b0 g9 hk, cl0_hi (by omega) hk]
  · unfold clZ
    rw [un1_oZ ho.1.1 (Or.inr rfl) b1 g91 h1 h3 h4, if_neg (fun hc => h2 hc.1), un1_oZ ho.1.1 (Or.inl rfl) b0 g9 h1 h3 h4, if_neg (fun hc => h2 hc.1), cl0_oZ ho.1.1 h1 h3 h4, if_neg (fun hc => h2 hc.1), if_neg (fun hc => h2 hc.1)]
theorem leD_all (hw : WF g) {d m : Int} (ho : opZ g d) (hm : 0 ≤ m ∧ m ≤ oZ g d 2) : WF (leD g m d) ∧ (∀ k, k < 37 → leD g m d k = g k) ∧ (∀ k, 586 ≤ k → leD g m d k = g k) ∧ ∀ d' w', 0 ≤ d' → d' ≠ d → 0 ≤ w' → w' < 9 → oZ (leD g m d) d' w' = oZ g d' w' := by
  have h0 := hw.w0
  have k := hw.wd ho.1
  unfold leD
  by_cases hq : oZ g d 2 - m = 0
  · rw [if_pos hq]; exact clZ_all hw ho
  · rw [if_neg hq]
    exact ⟨stD2_wf hw ho (by omega), fun k hk => stD_lo _ _ ho.1.1 (by omega) (by omega), fun k hk => stD_hi _ _ (by omega) (by omega) hk, fun d' w' h1 h2 h3 h4 => by rw [oZ_st _ _ ho.1.1 (by omega) (by omega) h1 h3 h4, if_neg (fun hc => h2 hc.1)]⟩
/-- CUT of a ring, the deals of P done -/
def cutF (g : Nat → Int) (m : Int) : List Nat → (Nat → Int)
  | [] => g
  | w :: P => leD (cutF g m P) m w
theorem cutF_all (hw : WF g) {m : Int} (hm : 0 ≤ m) : ∀ {P : List Nat}, vpa g P → (∀ y ∈ P, m ≤ oZ g y 2) → WF (cutF g m P) ∧ (∀ k, k < 37 → cutF g m P k = g k) ∧ (∀ k, 586 ≤ k → cutF g m P k = g k) ∧ ∀ d' w' : Int, 0 ≤ d' → (∀ y ∈ P, (y : Int) ≠ d') → 0 ≤ w' → w' < 9 → oZ (cutF g m P) d' w' = oZ g d' w' := by
  intro P
  induction P with
  | nil => intro _ _; exact ⟨hw, fun _ _ => rfl, fun _ _ => rfl, fun _ _ _ _ _ _ => rfl⟩
  | cons w P ih =>
    intro hv hs
    obtain ⟨i1, i2, i3, i4⟩ := ih hv.2.2.2 (fun y hy => hs y (by simp [hy]))
    have hne : ∀ y ∈ P, (y : Int) ≠ (w : Int) := fun y hy hc => by
      have h1 := hv.2.2.1 y hy
      have h2 : y = w := by omega
      rw [h2] at h1
      exact h1 rfl
    have hw0 : 0 ≤ (w : Int) := by omega
    have ow := fun w' h3 h4 => i4 w w' hw0 hne h3 h4
    have ho : opZ (cutF g m P) w := by
      refine ⟨?_, by rw [ow 5 (by omega) (by omega)]; exact hv.1.1.2⟩
      unfold dlZ; rw [i2 34 (by omega)]; exact hv.1.1.1
    obtain ⟨l1, l2, l3, l4⟩ := leD_all i1 ho (m := m) ⟨hm, by rw [ow 2 (by omega) (by omega)]; exact hs w (by simp)⟩
    refine ⟨l1, fun k hk => by show leD _ m w k = _; rw [l2 k hk, i2 k hk], fun k hk => by show leD _ m w k = _; rw [l3 k hk, i3 k hk], fun d' w' h1 h2 h3 h4 => ?_⟩
    show oZ (leD _ m w) d' w' = _
    rw [l4 d' w' h1 (fun hc => h2 w (by simp) hc.symm) h3 h4, i4 d' w' h1 (fun y hy => h2 y (by simp [hy])) h3 h4]
/-- the next deal of the ring, ahead of its turn -/
theorem cutF_nx (hw : WF g) {m : Int} (hm : 0 ≤ m) {P : List Nat} {w : Nat} (hv : vpa g (w :: P)) (hs : ∀ y ∈ w :: P, m ≤ oZ g y 2) : WF (cutF g m P) ∧ opZ (cutF g m P) w ∧ m ≤ oZ (cutF g m P) w 2 := by
  obtain ⟨i1, i2, i3, i4⟩ := cutF_all hw hm hv.2.2.2 (fun y hy => hs y (by simp [hy]))
  have hne : ∀ y ∈ P, (y : Int) ≠ (w : Int) := fun y hy hc => by
    have h1 := hv.2.2.1 y hy
    have h2 : y = w := by omega
    rw [h2] at h1
    exact h1 rfl
  have ow := fun w' h3 h4 => i4 (w : Int) w' (by omega) hne h3 h4
  refine ⟨i1, ⟨?_, by rw [ow 5 (by omega) (by omega)]; exact hv.1.1.2⟩, by rw [ow 2 (by omega) (by omega)]; exact hs w (by simp)⟩
  unfold dlZ; rw [i2 34 (by omega)]; exact hv.1.1.1
end
