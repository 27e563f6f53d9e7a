theorem FUk (k : Nat) (h : k ≤ 1000) : ∃ n, FU = n + k := ⟨FU - k, by have := FU_eq; omega⟩
section
variable {s : SM} {g : Nat → Int} {L P : Nat}
theorem x_ws63 (s : SM) (a b c e : Int32) : lX12_whyStrike FU s a b c e = (if vX12_isLiving s c = 0 then (0 : Int32) else if e ≤ vX12_leftOf s c then 0 else 5) ∧ qX12_whyStrike FU s a b c e = (¬ vX12_isLiving s c = 0 → rX12_leftOf s c) := by
  obtain ⟨n, hn⟩ := FUk 1 (by omega)
  rw [hn]
  exact ⟨rfl, rfl⟩
theorem x_whyStrike (h : RR s g) (hw : WF g) {d : Int} (hd : IR d) : vX12_whyStrike s (zI d) = zI (wsZ g d) ∧ rX12_whyStrike s (zI d) := by
  have h0 := hw.w0
  have e1 := x_isOpen h hw hd
  have r1 := x_isOpen_r h hw hd
  unfold vX12_whyStrike rX12_whyStrike fX12_whyStrike wsZ
  simp only [e1, bI_0]
  by_cases ho : opZ g d
  · have hD := hw.wd ho.1
    have b6 : bdyZ g (oZ g d 6) := by have := hD.2.2.2.2.2.2.2.2.2 ho.2; omega
    have b7 : bdyZ g (oZ g d 7) := by have := hD.2.2.2.2.2.2.2.2.2 ho.2; omega
    have e6 := x_of h (d := d) (w := 6) (by omega) (by omega)
    have e7 := x_of h (d := d) (w := 7) (by omega) (by omega)
    have p6 := x_of_r s (d := d) (w := 6) (by omega) (by omega)
    have p7 := x_of_r s (d := d) (w := 7) (by omega) (by omega)
    obtain ⟨l6, q6⟩ := x_leftOf h hw b6
    obtain ⟨l7, q7⟩ := x_leftOf h hw b7
    have i6 := x_isLiving h (oZ g d 6)
    have i7 := x_isLiving h (oZ g d 7)
    have hL6 := hw.lef b6
    have hL7 := hw.lef b7
    have hn := ndZ_b hw d
    have en : gI s 250 ((2 : Int32)).toNatClampNeg * (if zI (oZ g d 6) = zI (oZ g d 7) then (2 : Int32) else 1) = zI (ndZ g d) := by
      rw [x_2 h]
      unfold ndZ
      simp (disch := omega) only [z_eq]
      split
      · exact z_mul _ 2
      · exact z_mul _ 1
    rw [if_neg (Classical.not_not.mpr ho), if_pos ho]
    simp only [show (6 : Int32) = zI 6 from rfl, show (7 : Int32) = zI 7 from rfl, e6, e7]
    rw [en]
    simp only [(x_ws63 s _ _ _ _).1, (x_ws63 s _ _ _ _).2, i6, i7, l6, l7, r1, p6, p7, q6, q7, bI_0, implies_true, and_true]
    simp (disch := omega) only [z_lt, z_le]
    by_cases k6 : livZ g (oZ g d 6)
    · rw [if_neg (Classical.not_not.mpr k6)]
      by_cases m6 : lefZ g (oZ g d 6) < ndZ g d
      · rw [if_pos m6, if_pos (Or.inl ⟨k6, m6⟩)]; rfl
      · rw [if_neg m6]
        by_cases k7 : livZ g (oZ g d 7)
        · rw [if_neg (Classical.not_not.mpr k7)]
          by_cases m7 : lefZ g (oZ g d 7) < ndZ g d
          · rw [if_neg (by omega), if_pos (Or.inr ⟨k7, m7⟩)]; rfl
          · rw [if_pos (by omega), if_neg (fun hc => hc.elim (fun q => m6 q.2) (fun q => m7 q.2))]; rfl
        · rw [if_pos k7, if_neg (fun hc => hc.elim (fun q => m6 q.2) (fun q => k7 q.1))]; rfl
    · rw [if_pos k6]
      by_cases k7 : livZ g (oZ g d 7)
      · rw [if_neg (Classical.not_not.mpr k7)]
        by_cases m7 : lefZ g (oZ g d 7) < ndZ g d
        · rw [if_neg (by omega), if_pos (Or.inr ⟨k7, m7⟩)]; rfl
        · rw [if_pos (by omega), if_neg (fun hc => hc.elim (fun q => k6 q.1) (fun q => m7 q.2))]; rfl
      · rw [if_pos k7, if_neg (fun hc => hc.elim (fun q => k6 q.1) (fun q => k7 q.1))]; rfl
  · rw [if_pos ho, if_neg ho]
    exact ⟨rfl, r1, fun hc => absurd ho hc⟩
theorem RR_ex (h : RR s g) {b v : Int} (hb0 : 0 ≤ b) (hb9 : b < 9) : RR (pI s 250 ((37 : Int32) + zI b).toNatClampNeg (gI s 250 ((37 : Int32) + zI b).toNatClampNeg + zI v)) (exU g b v) := by
  rw [show (37 : Int32) = zI 37 from rfl, z_add, z_cl (by omega), h, z_add]
  exact RR_up h _ _
/-- a line on the bearer of one side -/
theorem x_strikes (h : RR s g) (hw : WF g) {d : Int} (ho : opZ g d) : RR (mX12_strikes s (zI d)) (skZ g d) ∧ Fr (fun c => c = 250) s (mX12_strikes s (zI d)) ∧ rX12_strikes s (zI d) := by
  have h0 := hw.w0
  have hD := hw.wd ho.1
  have b6 : bdyZ g (oZ g d 6) := by have := hD.2.2.2.2.2.2.2.2.2 ho.2; omega
  have b7 : bdyZ g (oZ g d 7) := by have := hD.2.2.2.2.2.2.2.2.2 ho.2; omega
  -- one side
  have side : ∀ (t : SM) (g' : Nat → Int) (w : Int) (b : Int), (w = 0 ∨ w = 1) → RR t g' → oZ g' d (6 + w) = b → bdyZ g b → g' 2 = g 2 → ST 1 (fun n => lX12_strikes n t (zI d) (zI w)) (fun n => qX12_strikes n t (zI d) (zI w)) (fun n => lX12_strikes n (if livZ g' b then pI t 250 ((37 : Int32) + zI b).toNatClampNeg (gI t 250 ((37 : Int32) + zI b).toNatClampNeg + zI (g 2)) else t) (zI d) (zI (w + 1))) (fun n => qX12_strikes n (if livZ g' b then pI t 250 ((37 : Int32) + zI b).toNatClampNeg (gI t 250 ((37 : Int32) + zI b).toNatClampNeg + zI (g 2)) else t) (zI d) (zI (w + 1))) := by
    intro t g' w b hw01 ht hb hbb h2
    have oB := x_of ht (d := d) (w := 6 + w) (by omega) (by omega)
    have pB := x_of_r t (d := d) (w := 6 + w) (by omega) (by omega)
    rw [hb] at oB
    have iB := x_isLiving ht b
    have e2 : gI t 250 ((2 : Int32)).toNatClampNeg = zI (g 2) := by rw [x_2 ht, h2]
    have vB : vp_in (zI 37 + zI b) 787 := by rw [z_add, z_in (by omega)]; omega
    have hw2 : (2 ≤ w) = False := eq_false (by omega)
    refine ST_1 (fun n => ?_)
    rcases tf (livZ g' b) with hl | hl <;>
      simp (disch := omega) only [lX12_strikes, qX12_strikes, tX12_strikes_2, uX12_strikes_2, show (2 : Int32) = zI 2 from rfl, show (6 : Int32) = zI 6 from rfl, show (37 : Int32) = zI 37 from rfl, show (1 : Int32) = zI 1 from rfl, show (0 : Int32) = zI 0 from rfl, z_le, z_add, oB, pB, iB, bI_z, bI_F, bI_T, hl, hw2, forall_eq, eq_self, z_eq, Int.reduceAdd, Int.reduceSub, Int.reduceMul, Int.reduceNeg, Int.reduceLT, Int.reduceLE, Int.reduceToNat, Int.reduceEq, if_true, if_false, true_and, and_true, not_true, not_false_eq_true, false_implies, true_implies, imp_self, and_self] <;>
      simp (disch := omega) only [show zI (37 + b) = zI 37 + zI b from (z_add _ _).symm, vB, show zI 2 = (2 : Int32) from rfl, e2, if_true, if_false, true_and, and_true, not_true, not_false_eq_true, false_implies, true_implies, imp_self, and_self]
  have A1 : RR (if livZ g (oZ g d 6) then pI s 250 ((37 : Int32) + zI (oZ g d 6)).toNatClampNeg (gI s 250 ((37 : Int32) + zI (oZ g d 6)).toNatClampNeg + zI (g 2)) else s) (exA g (oZ g d 6) (g 2)) := by
    unfold exA
    split
    · exact RR_ex h b6.1 (by omega)
    · exact h
  have F1 : Fr (fun c => c = 250) s (if livZ g (oZ g d 6) then pI s 250 ((37 : Int32) + zI (oZ g d 6)).toNatClampNeg (gI s 250 ((37 : Int32) + zI (oZ g d 6)).toNatClampNeg + zI (g 2)) else s) := by
    split
    · exact Fr_pI s _ _ rfl
    · exact Fr_rf _ s
  have S1 := side s g 0 (oZ g d 6) (Or.inl rfl) h rfl b6 rfl
  generalize (if livZ g (oZ g d 6) then pI s 250 ((37 : Int32) + zI (oZ g d 6)).toNatClampNeg (gI s 250 ((37 : Int32) + zI (oZ g d 6)).toNatClampNeg + zI (g 2)) else s) = s1 at A1 F1 S1
  have S2 := side s1 _ 1 (oZ g d 7) (Or.inr rfl) A1 (exA_hi g _ (by omega) (by omega)) b7 (exA_lo g _ b6.1 (by omega))
  have A2 : RR (if livZ (exA g (oZ g d 6) (g 2)) (oZ g d 7) then pI s1 250 ((37 : Int32) + zI (oZ g d 7)).toNatClampNeg (gI s1 250 ((37 : Int32) + zI (oZ g d 7)).toNatClampNeg + zI (g 2)) else s1) (exA (exA g (oZ g d 6) (g 2)) (oZ g d 7) (g 2)) := by
    unfold exA
    split
    · split
      · exact RR_ex (by rename_i h1 h2; unfold exA at A1; rw [if_pos h1] at A1; exact A1) b7.1 (by omega)
      · rename_i h1 h2; unfold exA at A1; rw [if_pos h1] at A1; exact A1
    · split
      · exact RR_ex (by rename_i h1 h2; unfold exA at A1; rw [if_neg h1] at A1; exact A1) b7.1 (by omega)
      · rename_i h1 h2; unfold exA at A1; rw [if_neg h1] at A1; exact A1
  have F2 : Fr (fun c => c = 250) s1 (if livZ (exA g (oZ g d 6) (g 2)) (oZ g d 7) then pI s1 250 ((37 : Int32) + zI (oZ g d 7)).toNatClampNeg (gI s1 250 ((37 : Int32) + zI (oZ g d 7)).toNatClampNeg + zI (g 2)) else s1) := by
    split
    · exact Fr_pI s1 _ _ rfl
    · exact Fr_rf _ s1
  generalize (if livZ (exA g (oZ g d 6) (g 2)) (oZ g d 7) then pI s1 250 ((37 : Int32) + zI (oZ g d 7)).toNatClampNeg (gI s1 250 ((37 : Int32) + zI (oZ g d 7)).toNatClampNeg + zI (g 2)) else s1) = s2 at A2 F2 S2
  obtain ⟨A3, F3, q3⟩ := x_set A2 (d := d) (w := 5) (v := 1) (by omega) (by omega)
  have S3 : ST 1 (fun n => lX12_strikes n s2 (zI d) (zI (1 + 1))) (fun n => qX12_strikes n s2 (zI d) (zI (1 + 1))) (fun _ => mX12_set s2 (zI d) (zI 5) (zI 1)) (fun _ => True) := by
    refine ST_1 (fun n => ⟨?_, fun _ => ?_⟩)
    · show tX12_strikes_2 _ _ _ _ = _
      unfold tX12_strikes_2
      rw [if_pos (by decide)]; rfl
    · show uX12_strikes_2 _ _ _ _
      exact ⟨fun _ => q3, fun hc => absurd (by decide) hc⟩
  obtain ⟨E, R⟩ := ST_fu (ST_trans S1 (ST_trans S2 S3)) (by omega)
  have hg : stD (exA (exA g (oZ g d 6) (g 2)) (oZ g d 7) (g 2)) d 5 1 = skZ g d := by
    unfold skZ
    rw [exA_st g b6 (by omega) ho.1.1 (by omega), exA_st (exA g (oZ g d 6) (g 2)) (by unfold bdyZ; rw [exA_lo g _ b6.1 (by omega)]; exact b7) (by rw [exA_lo g _ b6.1 (by omega)]; omega) ho.1.1 (by omega)]
  rw [hg] at A3
  unfold mX12_strikes rX12_strikes fX12_strikes
  have E' : lX12_strikes FU s (zI d) 0 = mX12_set s2 (zI d) (zI 5) (zI 1) := E
  rw [E']
  exact ⟨A3, Fr_tr F1 (Fr_tr F2 F3), R⟩
end
