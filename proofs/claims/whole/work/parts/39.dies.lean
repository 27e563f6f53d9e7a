def ddV (x b : Int) : Int := (zI x ||| ((1 : Int32) <<< (zI b &&& 31))).toInt
theorem ddV_z (x b : Int) : zI (ddV x b) = zI x ||| ((1 : Int32) <<< (zI b &&& 31)) := zI_tI _
theorem ddV_n {x b : Int} (hx : 0 ≤ x ∧ x < 512) (hb : 0 ≤ b ∧ b < 9) : ddV x b = ((x.toNat ||| 2 ^ b.toNat : Nat) : Int) ∧ ddV x b < 512 := by
  have h1 := zN_shl b.toNat (by omega)
  rw [Int.toNat_of_nonneg hb.1] at h1
  have h2 := zN_or x.toNat (2 ^ b.toNat)
  rw [Int.toNat_of_nonneg hx.1] at h2
  have h3 : x.toNat ||| 2 ^ b.toNat < 2 ^ 9 := Nat.or_lt_two_pow (by omega) (Nat.pow_lt_pow_right (by omega) (by omega))
  have h4 : ddV x b = ((x.toNat ||| 2 ^ b.toNat : Nat) : Int) := by
    unfold ddV
    rw [h1, h2, tI_zI (by omega)]
  exact ⟨h4, by rw [h4]; omega⟩
theorem WF_up {g : Nat → Int} (hw : WF g) {k : Nat} {v : Int} (hk : k = 35 ∧ 0 ≤ v ∧ v ≤ 99 ∨ k = 36 ∧ 0 ≤ v ∧ v < 512) : WF (upZ g k v) := by
  have h0 := hw.w0
  have hs : SP g (upZ g k v) := SP_up g _ (by omega)
  have ne : ∀ j, j ≠ k → upZ g k v j = g j := fun j hj => by unfold upZ; rw [if_neg hj]
  have yk : upZ g k v k = v := by unfold upZ; rw [if_pos rfl]
  refine ⟨?_, fun b hb => ?_, fun k' hk' => ?_, fun d hd => ?_⟩
  · unfold W0
    rw [ne 0 (by omega), ne 1 (by omega), ne 2 (by omega), ne 3 (by omega), ne 34 (by omega)]
    rcases hk with ⟨rfl, h⟩ | ⟨rfl, h⟩
    · rw [yk, ne 36 (by omega)]; omega
    · rw [yk, ne 35 (by omega)]; omega
  · have hb2 : bdyZ g b := ⟨hb.1, by have := hb.2; rw [ne 0 (by omega)] at this; exact this⟩
    have hB := hw.wb hb2
    have he : exZ (upZ g k v) b = exZ g b := ne _ (by omega)
    have hl := lef_c (v := 0) hs (by omega : b < 9) (ne 34 (by omega)) (fun d hd => by
      have hk := (hw.wd hd).2.2.2.1
      unfold mkZ sizZ
      rw [oZ_up g _ (by omega) hd.1 (by omega), oZ_up g _ (by omega) hd.1 (by omega), oZ_up g _ (by omega) hd.1 (by omega), SP_sz hs (by omega)]) (show _ = exZ g b + 0 by rw [he]; omega)
    unfold WB
    rw [SP_rm hs (by omega), SP_ki hs (by omega), ne 0 (by omega), he, hl]
    omega
  · have hk2 : kndZ g k' := ⟨hk'.1, by have := hk'.2; rw [ne 1 (by omega)] at this; exact this⟩
    have hK := hw.wk hk2
    unfold WK
    rw [SP_sz hs (by omega), SP_so hs (by omega)]
    exact hK
  · have hd2 : dlZ g d := ⟨hd.1, by have := hd.2; rw [ne 34 (by omega)] at this; exact this⟩
    have hD := hw.wd hd2
    have oo : ∀ w, 0 ≤ w → oZ (upZ g k v) d w = oZ g d w := fun w h => oZ_up g _ (by omega) hd2.1 h
    unfold WD
    rw [oo 0 (by omega), oo 1 (by omega), oo 2 (by omega), oo 3 (by omega), oo 4 (by omega), oo 5 (by omega), oo 6 (by omega), oo 7 (by omega), oo 8 (by omega), ne 0 (by omega), ne 1 (by omega)]
    exact hD
/-- lender, debtor, state of d anew -/
abbrev bu3 (g : Nat → Int) (d l t v : Int) : Nat → Int := stD (stD (stD g d 0 l) d 1 t) d 5 v
theorem bu3_oZ (g : Nat → Int) {d : Int} (l t v : Int) (hd : 0 ≤ d) {d' w : Int} (hd' : 0 ≤ d') (h0 : 0 ≤ w) (h9 : w < 9) : oZ (bu3 g d l t v) d' w = if d' = d then (if w = 0 then l else if w = 1 then t else if w = 5 then v else oZ g d' w) else oZ g d' w := by
  simp (disch := omega) only [bu3, oZ_st]
  by_cases hq : d' = d
  · simp only [hq, true_and, if_true]
    by_cases h5 : w = 5
    · rw [if_pos h5, if_neg (by omega), if_neg (by omega), if_pos h5]
    · rw [if_neg h5]
      by_cases h1 : w = 1
      · rw [if_pos h1, if_neg (by omega), if_pos h1]
      · rw [if_neg h1]
        by_cases h2 : w = 0
        · rw [if_pos h2, if_pos h2]
        · rw [if_neg h2, if_neg h2, if_neg h1, if_neg h5]
  · simp only [hq, false_and, if_false]
theorem bu3_lo (g : Nat → Int) {d : Int} (l t v : Int) (hd : 0 ≤ d) {k : Nat} (hk : k < 46) : bu3 g d l t v k = g k := by
  simp (disch := omega) only [bu3, stD_lo]
theorem bu3_hi (g : Nat → Int) {d : Int} (l t v : Int) (hd : d < 60) {k : Nat} (hk : 586 ≤ k) : bu3 g d l t v k = g k := by
  simp (disch := omega) only [bu3, stD_hi]
theorem bu3_lef {g : Nat → Int} (hw : WF g) {d : Int} (l t v : Int) (hd : 0 ≤ d) {b : Int} (hb : bdyZ g b) : lefZ (bu3 g d l t v) b = lefZ g b := by
  have h0 := hw.w0
  have hs : SP g (bu3 g d l t v) := fun k hk => bu3_lo g l t v hd (by omega)
  have := lef_c (v := 0) hs (by omega : b < 9) (bu3_lo g l t v hd (by omega)) (fun d' hd' => by
    have hk := (hw.wd hd').2.2.2.1
    have oo : ∀ w, w ≠ 0 → w ≠ 1 → w ≠ 5 → 0 ≤ w → w < 9 → oZ (bu3 g d l t v) d' w = oZ g d' w := fun w h1 h2 h3 h4 h5 => by
      rw [bu3_oZ g l t v hd hd'.1 h4 h5, if_neg h1, if_neg h2, if_neg h3]; split <;> rfl
    unfold mkZ sizZ
    rw [oo 6 (by omega) (by omega) (by omega) (by omega) (by omega), oo 7 (by omega) (by omega) (by omega) (by omega) (by omega), oo 3 (by omega) (by omega) (by omega) (by omega) (by omega), SP_sz hs (by omega)]) (show exZ (bu3 g d l t v) b = exZ g b + 0 by
      rw [show exZ (bu3 g d l t v) b = exZ g b from bu3_lo g l t v hd (by omega)]; omega)
  rw [this]; omega
theorem bu3_wf {g : Nat → Int} (hw : WF g) {d l t : Int} (ho : opZ g d) (hl : bdyZ g l) (ht : bdyZ g t) : WF (bu3 g d l t (if l = t then 2 else 0)) := by
  have h0 := hw.w0
  have hD0 := hw.wd ho.1
  generalize hv : (if l = t then (2 : Int) else 0) = v
  have hv2 : (v = 2 ∧ l = t) ∨ (v = 0 ∧ l ≠ t) := by
    split at hv
    · rename_i h; exact Or.inl ⟨hv.symm, h⟩
    · rename_i h; exact Or.inr ⟨hv.symm, h⟩
  have hs : SP g (bu3 g d l t v) := fun k hk => bu3_lo g l t v ho.1.1 (by omega)
  have lo : ∀ k, k < 46 → bu3 g d l t v k = g k := fun k hk => bu3_lo g l t v ho.1.1 hk
  refine ⟨?_, fun b hb => ?_, fun k' hk' => ?_, fun d' hd' => ?_⟩
  · unfold W0
    rw [lo 0 (by omega), lo 1 (by omega), lo 2 (by omega), lo 3 (by omega), lo 34 (by omega), lo 35 (by omega), lo 36 (by omega)]
    exact h0
  · have hb2 : bdyZ g b := ⟨hb.1, by have := hb.2; rw [lo 0 (by omega)] at this; exact this⟩
    have hB := hw.wb hb2
    unfold WB
    rw [SP_rm hs (by omega), SP_ki hs (by omega), lo 0 (by omega), show exZ (bu3 g d l t v) b = exZ g b from lo _ (by omega), bu3_lef hw l t v ho.1.1 hb2]
    exact hB
  · have hk2 : kndZ g k' := ⟨hk'.1, by have := hk'.2; rw [lo 1 (by omega)] at this; exact this⟩
    have hK := hw.wk hk2
    unfold WK
    rw [SP_sz hs (by omega), SP_so hs (by omega)]
    exact hK
  · have hd2 : dlZ g d' := ⟨hd'.1, by have := hd'.2; rw [lo 34 (by omega)] at this; exact this⟩
    have hD := hw.wd hd2
    have oo := fun w h1 h2 => bu3_oZ g l t v ho.1.1 hd2.1 (w := w) h1 h2
    unfold WD
    rw [oo 0 (by omega) (by omega), oo 1 (by omega) (by omega), oo 2 (by omega) (by omega), oo 3 (by omega) (by omega), oo 4 (by omega) (by omega), oo 5 (by omega) (by omega), oo 6 (by omega) (by omega), oo 7 (by omega) (by omega), oo 8 (by omega) (by omega), lo 0 (by omega), lo 1 (by omega)]
    by_cases hq : d' = d
    · subst hq
      simp only [Int.reduceAdd, Int.reduceSub, Int.reduceMul, Int.reduceNeg, Int.reduceLT, Int.reduceLE, Int.reduceToNat, Int.reduceEq, if_true, if_false, true_and, and_true, not_true, not_false_eq_true, false_implies, true_implies, imp_self, and_self]
      omega
    · simp only [hq, if_false]
      exact hD
def buS (g : Nat → Int) (b h : Int) (d : Int) : Nat → Int := if opZ g d then bu3 g d (if oZ g d 0 = b then h else oZ g d 0) (if oZ g d 1 = b then h else oZ g d 1) (if (if oZ g d 0 = b then h else oZ g d 0) = (if oZ g d 1 = b then h else oZ g d 1) then 2 else 0) else g
def buP (g : Nat → Int) (b h : Int) (n : Nat) : Nat → Int := fold (fun d g' => buS g' b h d) n (upZ g 36 (ddV (g 36) b))
theorem buS_wf {g : Nat → Int} (hw : WF g) {b h d : Int} (hh : bdyZ g h) : WF (buS g b h d) := by
  unfold buS
  split
  · rename_i ho
    have hD := hw.wd ho.1
    refine bu3_wf hw ho ?_ ?_
    · split
      · exact hh
      · exact ⟨hD.1.1, hD.1.2⟩
    · split
      · exact hh
      · exact ⟨hD.2.1.1, hD.2.1.2⟩
  · exact hw
theorem buS_lo {g : Nat → Int} {b h d : Int} {k : Nat} (hk : k < 46) : buS g b h d k = g k := by
  unfold buS
  split
  · rename_i ho; exact bu3_lo g _ _ _ ho.1.1 hk
  · rfl
theorem buS_hi {g : Nat → Int} (hw : WF g) {b h d : Int} {k : Nat} (hk : 586 ≤ k) : buS g b h d k = g k := by
  have h0 := hw.w0
  unfold buS
  split
  · rename_i ho; exact bu3_hi g _ _ _ (by omega) hk
  · rfl
theorem buS_old {g : Nat → Int} {b h d d' w : Int} (hd' : 0 ≤ d') (hne : d' ≠ d) (h0 : 0 ≤ w) (h9 : w < 9) : oZ (buS g b h d) d' w = oZ g d' w := by
  unfold buS
  split
  · rename_i ho; rw [bu3_oZ g _ _ _ ho.1.1 hd' h0 h9, if_neg hne]
  · rfl
theorem buP_all {g : Nat → Int} (hw : WF g) {b h : Int} (hb : bdyZ g b) (hh : bdyZ g h) (n : Nat) : WF (buP g b h n) ∧ (∀ k, k < 46 → buP g b h n k = upZ g 36 (ddV (g 36) b) k) ∧ (∀ k, 586 ≤ k → buP g b h n k = g k) ∧ ∀ d w, (n : Int) ≤ d → 0 ≤ w → w < 9 → oZ (buP g b h n) d w = oZ g d w := by
  have h0 := hw.w0
  have hdd := ddV_n (x := g 36) (b := b) h0.2.2.2.2.2.2 (by omega)
  induction n with
  | zero =>
    refine ⟨WF_up hw (Or.inr ⟨rfl, by omega, hdd.2⟩), fun _ _ => rfl, fun k hk => ?_, fun d w h1 h2 h3 => oZ_up g _ (by omega) (by omega) h2⟩
    show upZ g 36 _ k = _
    unfold upZ; rw [if_neg (by omega)]
  | succ n ih =>
    obtain ⟨i1, i2, i3, i4⟩ := ih
    have hh' : bdyZ (buP g b h n) h := ⟨hh.1, by rw [i2 0 (by omega)]; exact hh.2⟩
    refine ⟨buS_wf i1 hh', fun k hk => (buS_lo hk).trans (i2 k hk), fun k hk => (buS_hi i1 hk).trans (i3 k hk), fun d w h1 h2 h3 => ?_⟩
    rw [show oZ (buP g b h (n + 1)) d w = oZ (buS (buP g b h n) b h n) d w from rfl, buS_old (by omega) (by omega) h2 h3, i4 d w (by omega) h2 h3]
