-- needs: 42.qa 51.fr 54.copy 55.hist 56.hist 60.rg 61.xrg 62.best 64.yprep 69a.cutz 69b.xcut
section
variable {s : SM} {g : Nat → Int} {L P : Nat}
theorem cl0_sz (hw : WF g) {d : Int} (ho : opZ g d) : sizZ (cl0 g d) d = sizZ g d ∧ dtZ (cl0 g d) d = dtZ g d := by
  have h0 := hw.w0
  have hk := (hw.wd ho.1).2.2.2.1
  have e : sizZ (cl0 g d) d = sizZ g d := by
    unfold sizZ
    rw [cl0_o2 ho.1.1 ho.1.1 (by omega) (by omega) (by omega) (by omega)]
    exact SP_sz (fun k hk => cl0_lo ho.1.1 (by omega)) (by omega)
  refine ⟨e, ?_⟩
  unfold dtZ
  rw [e, cl0_lo ho.1.1 (by omega)]
abbrev dlt (g : Nat → Int) (d b : Int) : Int := if livZ g b then dtZ g d else 0
theorem clZ_lef (hw : WF g) {d : Int} (ho : opZ g d) {b : Int} (hb : bdyZ g b) : lefZ (clZ g d) b = lefZ g b + (if oZ g d 6 = b then sizZ g d - dlt g d b else 0) + (if oZ g d 7 = b then sizZ g d - dlt g d b else 0) ∧ exZ (clZ g d) b = exZ g b + (if oZ g d 6 = b then dlt g d b else 0) + (if oZ g d 7 = b then dlt g d b else 0) := by
  have h0 := hw.w0
  obtain ⟨w0, d0, b0, h5, w1, d1, b1, h51, e7⟩ := clZ_s hw ho
  obtain ⟨-, e6, -⟩ := cl0_b hw ho (w := 0) (Or.inl rfl)
  have z0 : cl0 g d 0 = g 0 := cl0_lo ho.1.1 (by omega)
  have z36 : cl0 g d 36 = g 36 := cl0_lo ho.1.1 (by omega)
  have u0 : un1 (cl0 g d) d 0 0 = g 0 := by rw [un1_lo ho.1.1 (Or.inl rfl) b0 (by omega)]; exact z0
  have u36 : un1 (cl0 g d) d 0 36 = g 36 := by rw [un1_lo ho.1.1 (Or.inl rfl) b0 (by omega)]; exact z36
  have hb0 : bdyZ (cl0 g d) b := by unfold bdyZ; rw [z0]; exact hb
  have hb1 : bdyZ (un1 (cl0 g d) d 0) b := by unfold bdyZ; rw [u0]; exact hb
  obtain ⟨s1, s2⟩ := cl0_sz hw ho
  have s3 := un1_siz w0 d0 (Or.inl rfl) b0 d0
  have s4 := un1_dt w0 d0 (Or.inl rfl) b0 d0
  have l1 : livZ (cl0 g d) b = livZ g b := by unfold livZ; rw [z36]
  have l2 : livZ (un1 (cl0 g d) d 0) b = livZ g b := by unfold livZ; rw [u36]
  have e6' : oZ (cl0 g d) d (6 + 0) = oZ g d 6 := e6
  have x0 : exZ (cl0 g d) b = exZ g b := cl0_lo ho.1.1 (by omega)
  constructor
  · unfold clZ
    rw [un1_lef w1 d1 (Or.inr rfl) b1 hb1, un1_lef w0 d0 (Or.inl rfl) b0 hb0, cl0_lef hw ho hb, e7, e6', s3, s4, s1, s2]
    simp only [l1, l2]
  · unfold clZ
    rw [un1_ex d1.1 (Or.inr rfl) b1 hb.1 (by omega), un1_ex d0.1 (Or.inl rfl) b0 hb.1 (by omega), x0, e7, e6', s4, s2]
    simp only [l1, l2]
theorem clZ_oZ (hw : WF g) {d : Int} (ho : opZ g d) {d' w' : Int} (hd' : 0 ≤ d') (h0' : 0 ≤ w') (h9 : w' < 9) : oZ (clZ g d) d' w' = if d' = d ∧ w' = 7 then -1 else if d' = d ∧ w' = 6 then -1 else if d' = d ∧ w' = 5 then 2 else if d' = d ∧ w' = 2 then 0 else oZ g d' w' := by
  have h0 := hw.w0
  obtain ⟨w0, d0, b0, h5, w1, d1, b1, h51, e7⟩ := clZ_s hw ho
  have z0 : cl0 g d 0 = g 0 := cl0_lo ho.1.1 (by omega)
  have u0 : un1 (cl0 g d) d 0 0 = g 0 := by rw [un1_lo ho.1.1 (Or.inl rfl) b0 (by omega)]; exact z0
  unfold clZ
  rw [un1_oZ ho.1.1 (Or.inr rfl) b1 (by omega) hd' h0' h9, un1_oZ ho.1.1 (Or.inl rfl) b0 (by omega) hd' h0' h9, cl0_oZ ho.1.1 hd' h0' h9]
  rfl
theorem y_takeOff (hp : PoR s P g) (hw : WF g) {d : Nat} (hd : dlZ g d) (h14 : gI s L 14 = zI (g 36)) (h4 : gI s (L + 4) d = zI (oZ g d 3)) (hPL : P + 7 ≤ L) {b x y : Int} (hb : bdyZ g b) (hx : gI s (L + 7) b.toNat = zI x) (hy : gI s (L + 8) b.toNat = zI y) : ∃ s', mX4_takeOff s L P (zI (d : Int)) (zI b) = s' ∧ rX4_takeOff s L P (zI (d : Int)) (zI b) ∧ Fr (fun c => c = L + 7 ∨ c = L + 8) s s' ∧ (∀ i, gI s' (L + 7) i = if i = b.toNat then zI (x + sizZ g d - dlt g d b) else gI s (L + 7) i) ∧ (∀ i, gI s' (L + 8) i = if i = b.toNat then zI (y + dlt g d b) else gI s (L + 8) i) := by
  have h0 := hw.w0
  have hwd := hw.wd hd
  have hk : kndZ g (oZ g d 3) := hwd.2.2.2.1
  have hs := (hp.2.2 _ hk).1
  have hsb := (hw.wk hk).1
  have ck : (zI (oZ g d 3)).toNatClampNeg = (oZ g d 3).toNat := z_cl (by omega)
  have vk : vp_in (zI (oZ g d 3)) 6 := by rw [z_in (by omega)]; omega
  have cd' : (zI (d : Int)).toNatClampNeg = d := by rw [z_cl (by omega)]; exact Int.toNat_natCast _
  have vd : vp_in (zI (d : Int)) 60 := by rw [z_in (by omega)]; omega
  have cb : (zI b).toNatClampNeg = b.toNat := z_cl (by omega)
  have vb : vp_in (zI b) 9 := by rw [z_in (by omega)]; omega
  have nb : ¬ zI b = -1 := by rw [show (-1 : Int32) = zI (-1) from rfl, z_eq (by omega) (by omega)]; omega
  have hsz : szZ g (oZ g d 3) = sizZ g d := rfl
  rw [hsz] at hs
  obtain ⟨s1, hs1⟩ : ∃ s1, s1 = pI s (L + 7) b.toNat (zI (x + sizZ g d)) := ⟨_, rfl⟩
  have f1 : Fr (fun c => c = L + 7 ∨ c = L + 8) s s1 := by rw [hs1]; exact Fr_pI s _ _ (Or.inl rfl)
  have p1 : PoR s1 P g := PoR_fr hp f1 (fun c h1 h2 => by omega)
  have il : vX4_lives s1 L P (zI b) = bI (livZ g b) := by
    unfold vX4_lives
    rw [f1.1 L (by omega), h14]
    exact bI_c (i_and1_0 _)
  have h41 : gI s1 (L + 4) d = zI (oZ g d 3) := by rw [f1.1 (L + 4) (by omega)]; exact h4
  have ed : vX6_dotOn s1 P (zI (oZ g d 3)) = zI (dtZ g d) ∧ rX6_dotOn s1 P (zI (oZ g d 3)) := by
    have h9 := p1.1.2.2.2
    have hs' := (p1.2.2 _ hk).1
    rw [hsz] at hs' hsb
    unfold vX6_dotOn rX6_dotOn dtZ
    simp only [ck, hs', h9, z_lt (show IR (sizZ g d) by omega) (show IR (g 3) by omega)]
    refine ⟨?_, vk⟩
    by_cases h1 : sizZ g d < g 3
    · rw [if_pos h1, if_pos (by omega)]
    · rw [if_neg h1]
      by_cases h2 : sizZ g d ≤ g 3
      · rw [if_pos h2]; congr 1; omega
      · rw [if_neg h2]
  have e1 : gI s (L + 7) b.toNat + gI s (P + 5) (oZ g d 3).toNat = zI (x + sizZ g d) := by rw [hx, hs, z_add]
  by_cases hl : livZ g b
  · have hdl : dlt g d b = dtZ g d := if_pos hl
    obtain ⟨s2, hs2⟩ : ∃ s2, s2 = pI s1 (L + 7) b.toNat (zI (x + sizZ g d - dtZ g d)) := ⟨_, rfl⟩
    have e7 : gI s1 (L + 7) b.toNat - zI (dtZ g d) = zI (x + sizZ g d - dtZ g d) := by rw [hs1, gI_s, if_pos rfl, z_sub]
    have e8 : gI s2 (L + 8) b.toNat + zI (dtZ g d) = zI (y + dtZ g d) := by rw [hs2, gI_n _ _ _ _ (by omega), hs1, gI_n _ _ _ _ (by omega), hy, z_add]
    have n0 : ¬ bI (livZ g b) = 0 := by rw [bI_0]; exact not_not_intro hl
    refine ⟨pI s2 (L + 8) b.toNat (zI (y + dtZ g d)), ?_, ?_, ?_, fun i => ?_, fun i => ?_⟩
    · unfold mX4_takeOff
      rw [if_neg nb]
      dsimp only []
      rw [cb, cd', h4, ck, e1, ← hs1, il, if_neg n0, h41, ed.1]
      unfold mX4_scratch
      dsimp only []
      rw [cb, e7, ← hs2, e8]
    · unfold rX4_takeOff
      intro _
      rw [cd', h4]
      refine ⟨vb, vd, vk, vb, fun s5 hs5 hn5 => ?_⟩
      rw [cb, ck, e1, ← hs1] at hs5
      subst hs5
      rw [h41]
      exact ⟨vd, ed.2, vb, vb, vb, vb⟩
    · rw [hs2]; exact Fr_p (Fr_p f1 (Or.inl rfl)) (Or.inr rfl)
    · rw [gI_n _ _ _ _ (by omega), hs2, gI_s, hdl]
      by_cases hi : i = b.toNat
      · rw [if_pos hi, if_pos hi]
      · rw [if_neg hi, if_neg hi, hs1, gI_s, if_neg hi]
    · rw [gI_s, hdl]
      by_cases hi : i = b.toNat
      · rw [if_pos hi, if_pos hi]
      · rw [if_neg hi, if_neg hi, hs2, gI_n _ _ _ _ (by omega), hs1, gI_n _ _ _ _ (by omega)]
  · have hdl : dlt g d b = 0 := if_neg hl
    have n0 : bI (livZ g b) = 0 := by rw [bI_0]; exact hl
    refine ⟨s1, ?_, ?_, f1, fun i => ?_, fun i => ?_⟩
    · unfold mX4_takeOff
      rw [if_neg nb]
      dsimp only []
      rw [cb, cd', h4, ck, e1, ← hs1, il, if_pos n0]
    · unfold rX4_takeOff
      intro _
      rw [cd', h4]
      refine ⟨vb, vd, vk, vb, fun s5 hs5 hn5 => ?_⟩
      rw [cb, ck, e1, ← hs1] at hs5
      subst hs5
      exact absurd (by rw [il]; exact n0) hn5
    · rw [hs1, gI_s, hdl, Int.sub_zero]
    · rw [hs1, gI_n _ _ _ _ (by omega), hdl, Int.add_zero]
      by_cases hi : i = b.toNat
      · rw [if_pos hi, hi, hy]
      · rw [if_neg hi]
theorem LdR_s2 (h : LdR s L P g) (hPL : P + 7 ≤ L) (hw : WF g) {d : Nat} {v : Int} (ho : opZ g d) : LdR (pI s (L + 3) d (zI v)) L P (stD g d 2 v) := by
  have h0 := hw.w0
  have f : Fr (fun c => c = L + 3) s (pI s (L + 3) d (zI v)) := Fr_pI s _ _ rfl
  refine ⟨PoR_c hw (SP_st g v ho.1.1 (by omega)) (PoR_fr h.1 f (fun c h1 h2 => by omega)), ?_, fun b hb => ?_, fun d' hd' => ?_⟩
  · rw [f.1 L (by omega), stD_lo _ _ ho.1.1 (by omega) (by omega), stD_lo _ _ ho.1.1 (by omega) (by omega), stD_lo _ _ ho.1.1 (by omega) (by omega)]; exact h.2.1
  · have hb2 : bdyZ g b := by unfold bdyZ at hb; rw [stD_lo _ _ ho.1.1 (by omega) (by omega)] at hb; exact hb
    have := h.2.2.1 b hb2
    unfold LdB at this ⊢
    rw [f.1 _ (by omega), f.1 _ (by omega), st_lef hw ho.1 (by omega) (by omega) (by omega) (by omega) (by omega) hb2.1 (by omega)]
    have e : exZ (stD g d 2 v) b = exZ g b := stD_lo _ _ ho.1.1 (by omega) (by omega)
    rw [e]; exact this
  · have hd2 : dlZ g d' := by unfold dlZ at hd'; rw [stD_lo _ _ ho.1.1 (by omega) (by omega)] at hd'; exact hd'
    have := h.2.2.2 d' hd2
    have oo := fun w' (h1 : 0 ≤ w') (h2 : w' < 9) => oZ_st g v ho.1.1 (w := 2) (by omega) (by omega) hd2.1 (w' := w') h1 h2
    unfold LdD at this ⊢
    rw [oo 0 (by omega) (by omega), oo 1 (by omega) (by omega), oo 2 (by omega) (by omega), oo 3 (by omega) (by omega), oo 4 (by omega) (by omega), oo 5 (by omega) (by omega), oo 6 (by omega) (by omega), oo 7 (by omega) (by omega), oo 8 (by omega) (by omega)]
    simp only [show ¬ (0 : Int) = 2 by omega, show ¬ (1 : Int) = 2 by omega, show ¬ (3 : Int) = 2 by omega, show ¬ (4 : Int) = 2 by omega, show ¬ (5 : Int) = 2 by omega, show ¬ (6 : Int) = 2 by omega, show ¬ (7 : Int) = 2 by omega, show ¬ (8 : Int) = 2 by omega, and_false, if_false, and_true]
    rw [f.1 (L + 1) (by omega), f.1 (L + 2) (by omega), f.1 (L + 4) (by omega), f.1 (L + 5) (by omega), f.1 (L + 6) (by omega), f.1 (L + 9) (by omega), f.1 (L + 10) (by omega), f.1 (L + 11) (by omega), gI_s]
    refine ⟨this.1, this.2.1, ?_, this.2.2.2⟩
    by_cases hq : d' = d
    · rw [if_pos hq, if_pos (by omega)]
    · rw [if_neg hq, if_neg (by omega)]; exact this.2.2.1
theorem y_lessen (h : LdR s L P g) (hPL : P + 7 ≤ L) (hw : WF g) {d : Nat} {m : Int} (ho : opZ g d) (hm : 0 ≤ m ∧ m ≤ oZ g d 2) : LdR (mX4_lessen s L P (zI (d : Int)) (zI m)) L P (leD g m d) ∧ Fr (InL L) s (mX4_lessen s L P (zI (d : Int)) (zI m)) ∧ rX4_lessen s L P (zI (d : Int)) (zI m) := by
  have h0 := hw.w0
  have hwd := hw.wd ho.1
  have h67 := hwd.2.2.2.2.2.2.2.2.2 ho.2
  obtain ⟨f0, f1, f2, f3, f4, f5, f6, f7, f8⟩ := n_f h.2 hw ho.1
  have cd' : (zI (d : Int)).toNatClampNeg = d := by rw [z_cl (by omega)]; exact Int.toNat_natCast _
  have vd : vp_in (zI (d : Int)) 60 := by rw [z_in (by omega)]; omega
  rw [cd'] at f0 f1 f2 f3 f4 f5 f6 f7 f8
  have e3 : gI s (L + 3) d - zI m = zI (oZ g d 2 - m) := by rw [f2, z_sub]
  obtain ⟨s1, hs1⟩ : ∃ s1, s1 = pI s (L + 3) d (zI (oZ g d 2 - m)) := ⟨_, rfl⟩
  have e31 : gI s1 (L + 3) d = zI (oZ g d 2 - m) := by rw [hs1, gI_s, if_pos rfl]
  unfold mX4_lessen rX4_lessen leD
  rw [cd', e3, ← hs1, e31]
  by_cases hq : oZ g d 2 - m = 0
  · have q0 : zI (oZ g d 2 - m) = 0 := by rw [hq]; rfl
    rw [if_pos q0, if_pos hq]
    dsimp only []
    obtain ⟨s2, hs2⟩ : ∃ s2, s2 = pI s1 (L + 6) d 2 := ⟨_, rfl⟩
    rw [← hs2]
    have fr2 : Fr (fun c => c = L + 3 ∨ c = L + 6) s s2 := by rw [hs2, hs1]; exact Fr_p (Fr_pI s _ _ (Or.inl rfl)) (Or.inr rfl)
    have b6 : bdyZ g (oZ g d 6) := ⟨by omega, by omega⟩
    have b7 : bdyZ g (oZ g d 7) := ⟨by omega, by omega⟩
    have k6 := h.2.2.1 _ b6
    have i9 : gI s2 (L + 9) d = zI (oZ g d 6) := by rw [fr2.1 _ (by omega)]; exact f6
    obtain ⟨s3, t1, r1, g1, a7, a8⟩ := y_takeOff (L := L) (PoR_fr h.1 fr2 (fun c h1 h2 => by omega)) hw ho.1 (by rw [fr2.1 L (by omega)]; exact h.2.1.2.2) (by rw [fr2.1 _ (by omega)]; exact f3) hPL b6 (x := lefZ g (oZ g d 6)) (y := exZ g (oZ g d 6)) (by rw [fr2.1 _ (by omega)]; exact k6.1) (by rw [fr2.1 _ (by omega)]; exact k6.2)
    have fr3 : Fr (fun c => c = L + 3 ∨ c = L + 6 ∨ c = L + 7 ∨ c = L + 8) s s3 := Fr_tr (Fr_mo fr2 (fun c hc => by omega)) (Fr_mo g1 (fun c hc => by omega))
    have i10 : gI s3 (L + 10) d = zI (oZ g d 7) := by rw [fr3.1 _ (by omega)]; exact f7
    have k7 := h.2.2.1 _ b7
    have x7 : gI s3 (L + 7) (oZ g d 7).toNat = zI (lefZ g (oZ g d 7) + (if oZ g d 6 = oZ g d 7 then sizZ g d - dlt g d (oZ g d 7) else 0)) := by
      rw [a7]
      by_cases he : oZ g d 6 = oZ g d 7
      · rw [if_pos (by rw [he]), if_pos he, he]; congr 1; omega
      · rw [if_neg (by omega), if_neg he, fr2.1 _ (by omega), Int.add_zero]; exact k7.1
    have x8 : gI s3 (L + 8) (oZ g d 7).toNat = zI (exZ g (oZ g d 7) + (if oZ g d 6 = oZ g d 7 then dlt g d (oZ g d 7) else 0)) := by
      rw [a8]
      by_cases he : oZ g d 6 = oZ g d 7
      · rw [if_pos (by rw [he]), if_pos he, he]
      · rw [if_neg (by omega), if_neg he, fr2.1 _ (by omega), Int.add_zero]; exact k7.2
    obtain ⟨s4, t2, r2, g2, c7, c8⟩ := y_takeOff (L := L) (PoR_fr h.1 fr3 (fun c h1 h2 => by omega)) hw ho.1 (by rw [fr3.1 L (by omega)]; exact h.2.1.2.2) (by rw [fr3.1 _ (by omega)]; exact f3) hPL b7 x7 x8
    rw [i9, t1, i10, t2]
    have fr4 : Fr (fun c => c = L + 3 ∨ c = L + 6 ∨ c = L + 7 ∨ c = L + 8) s s4 := Fr_tr fr3 (Fr_mo g2 (fun c hc => by omega))
    obtain ⟨s5, hs5⟩ : ∃ s5, s5 = pI (pI s4 (L + 9) d (-1)) (L + 10) d (-1) := ⟨_, rfl⟩
    rw [← hs5]
    have fr5 : Fr (fun c => c = L + 3 ∨ c = L + 6 ∨ c = L + 7 ∨ c = L + 8 ∨ c = L + 9 ∨ c = L + 10) s s5 := by rw [hs5]; exact Fr_p (Fr_p (Fr_mo fr4 (fun c hc => by omega)) (by omega)) (by omega)
    have v3 : ∀ i, gI s5 (L + 3) i = if i = d then zI 0 else gI s (L + 3) i := fun i => by
      rw [hs5, gI_n _ _ _ _ (by omega), gI_n _ _ _ _ (by omega), g2.1 _ (by omega), g1.1 _ (by omega), hs2, gI_n _ _ _ _ (by omega), hs1, gI_s, hq]
    have v6 : ∀ i, gI s5 (L + 6) i = if i = d then zI 2 else gI s (L + 6) i := fun i => by
      rw [hs5, gI_n _ _ _ _ (by omega), gI_n _ _ _ _ (by omega), g2.1 _ (by omega), g1.1 _ (by omega), hs2, gI_s, hs1, gI_n _ _ _ _ (by omega)]; rfl
    have v9 : ∀ i, gI s5 (L + 9) i = if i = d then zI (-1) else gI s (L + 9) i := fun i => by
      rw [hs5, gI_n _ _ _ _ (by omega), gI_s, fr4.1 _ (by omega)]; rfl
    have v10 : ∀ i, gI s5 (L + 10) i = if i = d then zI (-1) else gI s (L + 10) i := fun i => by
      rw [hs5, gI_s, gI_n _ _ _ _ (by omega), fr4.1 _ (by omega)]; rfl
    have v7 : ∀ i, gI s5 (L + 7) i = gI s4 (L + 7) i := fun i => by rw [hs5, gI_n _ _ _ _ (by omega), gI_n _ _ _ _ (by omega)]
    have v8 : ∀ i, gI s5 (L + 8) i = gI s4 (L + 8) i := fun i => by rw [hs5, gI_n _ _ _ _ (by omega), gI_n _ _ _ _ (by omega)]
    obtain ⟨cl1, cl2, cl3, cl4⟩ := clZ_all hw ho
    refine ⟨⟨PoR_c hw (fun k hk => cl2 k (by omega)) (PoR_fr h.1 fr5 (fun c h1 h2 => by omega)), ?_, fun b hb => ?_, fun d' hd' => ?_⟩, Fr_mo fr5 (fun c hc => by unfold InL; omega), vd, vd, vd, fun _ => ⟨vd, fun s' hs' => ?_⟩⟩
    · rw [fr5.1 L (by omega), cl2 34 (by omega), cl2 35 (by omega), cl2 36 (by omega)]; exact h.2.1
    · have hb2 : bdyZ g b := by unfold bdyZ at hb; rw [cl2 0 (by omega)] at hb; exact hb
      obtain ⟨q1, q2⟩ := clZ_lef hw ho hb2
      have kb := h.2.2.1 b hb2
      unfold LdB
      rw [v7, v8, c7, c8, q1, q2]
      by_cases e7 : oZ g d 7 = b
      · subst e7
        rw [if_pos rfl, if_pos rfl, if_pos rfl, if_pos rfl]
        exact ⟨by congr 1; omega, rfl⟩
      · have n7 : ¬ b.toNat = (oZ g d 7).toNat := by omega
        rw [if_neg n7, if_neg n7, if_neg e7, if_neg e7, a7, a8]
        by_cases e6 : oZ g d 6 = b
        · subst e6
          rw [if_pos rfl, if_pos rfl, if_pos rfl, if_pos rfl, Int.add_zero, Int.add_zero]
          exact ⟨by congr 1; omega, rfl⟩
        · have n6 : ¬ b.toNat = (oZ g d 6).toNat := by omega
          rw [if_neg n6, if_neg n6, if_neg e6, if_neg e6, Int.add_zero, Int.add_zero, Int.add_zero, Int.add_zero, fr2.1 _ (by omega), fr2.1 _ (by omega)]
          exact kb
    · have hd2 : dlZ g d' := by unfold dlZ at hd'; rw [cl2 34 (by omega)] at hd'; exact hd'
      have := h.2.2.2 d' hd2
      have oo := fun w' (h1 : 0 ≤ w') (h2 : w' < 9) => clZ_oZ hw ho hd2.1 h1 h2
      unfold LdD at this ⊢
      rw [oo 0 (by omega) (by omega), oo 1 (by omega) (by omega), oo 2 (by omega) (by omega), oo 3 (by omega) (by omega), oo 4 (by omega) (by omega), oo 5 (by omega) (by omega), oo 6 (by omega) (by omega), oo 7 (by omega) (by omega), oo 8 (by omega) (by omega), v3, v6, v9, v10, fr5.1 _ (by omega), fr5.1 _ (by omega), fr5.1 _ (by omega), fr5.1 _ (by omega), fr5.1 _ (by omega)]
      by_cases hdq : d' = d
      · have hdt : d'.toNat = d := by omega
        rw [hdt] at this ⊢
        have e1 : (d' = (d : Int)) = True := eq_true hdq
        simp only [e1, Int.reduceAdd, Int.reduceSub, Int.reduceMul, Int.reduceNeg, Int.reduceLT, Int.reduceLE, Int.reduceToNat, Int.reduceEq, if_true, if_false, true_and, and_true, not_true, not_false_eq_true, false_implies, true_implies, imp_self, and_self, and_false, false_and, or_true, true_or, or_false, false_or, ite_self, implies_true, and_false, if_false]
        exact ⟨this.1, this.2.1, this.2.2.2.1, this.2.2.2.2.1, this.2.2.2.2.2.2.2.2⟩
      · have hdt : ¬ d'.toNat = d := by omega
        simp only [hdq, hdt, false_and, if_false]
        exact this
    · rw [hs', i9]
      refine ⟨vd, r1, vd, ?_, fun _ _ => ⟨vd, vd⟩⟩
      rw [t1, i10]
      exact r2
  · have q0 : ¬ zI (oZ g d 2 - m) = 0 := by rw [zl0, z_eq (by omega) (by omega)]; exact hq
    rw [if_neg q0, if_neg hq, hs1]
    exact ⟨LdR_s2 h hPL hw ho, Fr_pI s _ _ (by unfold InL; omega), vd, vd, vd, fun hc => absurd hc q0⟩
end
