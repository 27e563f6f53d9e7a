section
variable {s : SM} {g : Nat → Int} {L P : Nat}
abbrev InL (L : Nat) (c : Nat) : Prop := L ≤ c ∧ c ≤ L + 11
theorem y_scratch (h : LdR s L P g) (hPL : P + 7 ≤ L) (hw : WF g) {b v : Int} (hb : bdyZ g b) : LdR (mX4_scratch s L P (zI b) (zI v)) L P (exU g b v) ∧ Fr (InL L) s (mX4_scratch s L P (zI b) (zI v)) ∧ rX4_scratch s L P (zI b) (zI v) := by
  have h0 := hw.w0
  have vb := y_vb hw hb
  obtain ⟨k1, k2⟩ := h.2.2.1 b hb
  have H := LdR_ex h hPL hw hb (v := v)
  have ec : (zI b).toNatClampNeg = b.toNat := z_cl (by omega)
  unfold mX4_scratch rX4_scratch
  simp (disch := omega) only [ec, gI_n, k1, k2, z_sub, z_add]
  exact ⟨H, Fr_p (Fr_pI s _ _ ⟨by omega, by omega⟩) ⟨by omega, by omega⟩, vb, vb, vb, vb⟩
theorem y_isBuried (h : LdS s L g) {b : Int} (hb : 0 ≤ b) (hb9 : b < 9) : vX4_isBuried s L P (zI b) = bI (¬ livZ g b) := by
  unfold vX4_isBuried
  simp (disch := omega) only [show (-1 : Int32) = zI (-1) from rfl, z_eq, y_lives h, bI_0]
  rw [if_neg (by omega)]
  rfl
theorem y_hr43 (s : SM) (L P : Nat) (a b c : Int32) : lX4_hasRoomForLines FU s L P a b c = (if vX4_isBuried s L P b = 0 then (if gI s (L + 7) b.toNatClampNeg < c then (0 : Int32) else 1) else 1) ∧ qX4_hasRoomForLines FU s L P a b c = (vX4_isBuried s L P b = 0 → vp_in b 9) := by
  obtain ⟨n, hn⟩ := FUk 1 (by omega)
  rw [hn]
  exact ⟨rfl, rfl⟩
theorem y_hasRoom (h : LdR s L P g) (hw : WF g) {d : Int} (ho : opZ g d) : vX4_hasRoomForLines s L P (zI (oZ g d 6)) (zI (oZ g d 7)) = bI (wsZ g d = 0) ∧ rX4_hasRoomForLines s L P (zI (oZ g d 6)) (zI (oZ g d 7)) := by
  have h0 := hw.w0
  have hD := hw.wd ho.1
  have b6 : bdyZ g (oZ g d 6) := by have := hD.2.2.2.2.2.2.2.2.2 ho.2; omega
  have b7 : bdyZ g (oZ g d 7) := by have := hD.2.2.2.2.2.2.2.2.2 ho.2; omega
  have k6 := (h.2.2.1 _ b6).1
  have k7 := (h.2.2.1 _ b7).1
  have L6 := hw.lef b6
  have L7 := hw.lef b7
  have v6 := y_vb hw b6
  have v7 := y_vb hw b7
  have n6 : (zI (oZ g d 6)).toNatClampNeg = (oZ g d 6).toNat := z_cl (by omega)
  have n7 : (zI (oZ g d 7)).toNatClampNeg = (oZ g d 7).toNat := z_cl (by omega)
  have i6 := y_isBuried (P := P) h.2 (b := oZ g d 6) b6.1 (by omega)
  have i7 := y_isBuried (P := P) h.2 (b := oZ g d 7) b7.1 (by omega)
  have hn := ndZ_b hw d
  have hnd : ndZ g d = g 2 * (if oZ g d 6 = oZ g d 7 then 2 else 1) := rfl
  have h8 := h.1.1.2.2.1
  unfold vX4_hasRoomForLines rX4_hasRoomForLines fX4_hasRoomForLines
  simp only [(y_hr43 s L P _ _ _).1, (y_hr43 s L P _ _ _).2, i6, i7, n6, n7, k6, k7, h8, v6, v7, bI_0, implies_true, and_true, true_and, Classical.not_not, show (2 : Int32) = zI 2 from rfl, z_mul]
  have hb : bI (wsZ g d = 0) = (if (livZ g (oZ g d 6) ∧ lefZ g (oZ g d 6) < ndZ g d) ∨ (livZ g (oZ g d 7) ∧ lefZ g (oZ g d 7) < ndZ g d) then (0 : Int32) else 1) := by
    unfold wsZ
    rw [if_pos ho]
    split
    · exact if_neg (by omega)
    · exact if_pos rfl
  rw [hb]
  have key : ∀ x : Int, x = ndZ g d → (if livZ g (oZ g d 6) then (if zI (lefZ g (oZ g d 6)) < zI x then (0 : Int32) else (if livZ g (oZ g d 7) then (if zI (lefZ g (oZ g d 7)) < zI x then (0 : Int32) else 1) else 1)) else (if livZ g (oZ g d 7) then (if zI (lefZ g (oZ g d 7)) < zI x then (0 : Int32) else 1) else 1)) = (if (livZ g (oZ g d 6) ∧ lefZ g (oZ g d 6) < ndZ g d) ∨ (livZ g (oZ g d 7) ∧ lefZ g (oZ g d 7) < ndZ g d) then (0 : Int32) else 1) := by
    intro x hx
    subst hx
    simp (disch := omega) only [z_lt]
    by_cases q6 : livZ g (oZ g d 6)
    · rw [if_pos q6]
      by_cases m6 : lefZ g (oZ g d 6) < ndZ g d
      · rw [if_pos m6, if_pos (Or.inl ⟨q6, m6⟩)]
      · rw [if_neg m6]
        by_cases q7 : livZ g (oZ g d 7)
        · rw [if_pos q7]
          by_cases m7 : lefZ g (oZ g d 7) < ndZ g d
          · rw [if_pos m7, if_pos (Or.inr ⟨q7, m7⟩)]
          · rw [if_neg m7, if_neg (fun hc => hc.elim (fun q => m6 q.2) (fun q => m7 q.2))]
        · rw [if_neg q7, if_neg (fun hc => hc.elim (fun q => m6 q.2) (fun q => q7 q.1))]
    · rw [if_neg q6]
      by_cases q7 : livZ g (oZ g d 7)
      · rw [if_pos q7]
        by_cases m7 : lefZ g (oZ g d 7) < ndZ g d
        · rw [if_pos m7, if_pos (Or.inr ⟨q7, m7⟩)]
        · rw [if_neg m7, if_neg (fun hc => hc.elim (fun q => q6 q.1) (fun q => m7 q.2))]
      · rw [if_neg q7, if_neg (fun hc => hc.elim (fun q => q6 q.1) (fun q => q7 q.1))]
  by_cases hq : zI (oZ g d 6) = zI (oZ g d 7)
  · have hq' : oZ g d 6 = oZ g d 7 := (z_eq (by omega) (by omega)).mp hq
    rw [if_pos hq]
    exact key _ (by rw [hnd, if_pos hq']; omega)
  · have hq' : ¬ oZ g d 6 = oZ g d 7 := fun hc => hq (by rw [hc])
    rw [if_neg hq]
    exact key _ (by rw [hnd, if_neg hq']; omega)
theorem y_tryStrike (h : LdR s L P g) (hPL : P + 7 ≤ L) (hw : WF g) {d : Int} (hd : IR d) : vX4_tryStrike s L P (zI d) = zI (wsZ g d) ∧ LdR (mX4_tryStrike s L P (zI d)) L P (if wsZ g d = 0 then skZ g d else g) ∧ Fr (InL L) s (mX4_tryStrike s L P (zI d)) ∧ rX4_tryStrike s L P (zI d) := by
  have h0 := hw.w0
  obtain ⟨e1, r1⟩ := y_isOpen (P := P) h.2 hw hd
  by_cases ho : opZ g d
  · have hD := hw.wd ho.1
    have b6 : bdyZ g (oZ g d 6) := by have := hD.2.2.2.2.2.2.2.2.2 ho.2; omega
    have b7 : bdyZ g (oZ g d 7) := by have := hD.2.2.2.2.2.2.2.2.2 ho.2; omega
    obtain ⟨e2, r2⟩ := y_hasRoom h hw ho
    obtain ⟨f0, f1, f2, f3, f4, f5, f6, f7, f8⟩ := n_f h.2 hw ho.1
    have vd := y_vp hw ho.1
    by_cases hz : wsZ g d = 0
    · -- done
      have w1 := skZ_wf hw hz
      have A0 := LdR_st5 h hPL hw ho.1 (v := 1)
      have lo : ∀ k, k < 46 → stD g d 5 1 k = g k := fun k hk => stD_lo g 1 ho.1.1 (by omega) hk
      have oo : ∀ w', 0 ≤ w' → w' < 9 → oZ (stD g d 5 1) d w' = if w' = 5 then 1 else oZ g d w' := fun w' h1 h2 => by
        rw [oZ_st g 1 ho.1.1 (by omega) (by omega) ho.1.1 h1 h2]
        by_cases hq : w' = 5
        · rw [if_pos ⟨rfl, hq⟩, if_pos hq]
        · rw [if_neg (fun hc => hq hc.2), if_neg hq]
      have w0 : WF (stD g d 5 1) := WF_st hw ho.1 (by omega) (by omega) (by omega) (by omega) (by omega) (by
        unfold WD
        rw [oo 0 (by omega) (by omega), oo 1 (by omega) (by omega), oo 2 (by omega) (by omega), oo 3 (by omega) (by omega), oo 4 (by omega) (by omega), oo 5 (by omega) (by omega), oo 6 (by omega) (by omega), oo 7 (by omega) (by omega), oo 8 (by omega) (by omega), lo 0 (by omega), lo 1 (by omega)]
        simp only [Int.reduceAdd, Int.reduceSub, Int.reduceMul, Int.reduceNeg, Int.reduceLT, Int.reduceLE, Int.reduceToNat, Int.reduceEq, if_true, if_false, true_and, and_true, not_true, not_false_eq_true, false_implies, true_implies, imp_self, and_self]
        omega)
      have F0 : Fr (InL L) s (pI s (L + 6) (zI d).toNatClampNeg (zI 1)) := Fr_pI s _ _ ⟨by omega, by omega⟩
      -- one side
      have side : ∀ (t : SM) (g' : Nat → Int) (w b : Int), (w = 0 ∨ w = 1) → LdR t L P g' → WF g' → dlZ g' d → oZ g' d (6 + w) = b → bdyZ g' b → g' 2 = g 2 → ∃ t', LdR t' L P (exA g' b (g 2)) ∧ Fr (InL L) t t' ∧ ST 1 (fun n => lX4_tryStrike n t L P (zI d) (zI w)) (fun n => qX4_tryStrike n t L P (zI d) (zI w)) (fun n => lX4_tryStrike n t' L P (zI d) (zI (w + 1))) (fun n => qX4_tryStrike n t' L P (zI d) (zI (w + 1))) := by
        intro t g' w b hw01 ht hw' hd' hb hbb h2
        obtain ⟨eB, rB⟩ := y_bearer (P := P) ht.2 hw' hd' hw01
        rw [hb] at eB
        have iB := y_isBuried (P := P) ht.2 (b := b) hbb.1 (by have := hw'.w0; omega)
        have e8 : gI t P 8 = zI (g 2) := by rw [ht.1.1.2.2.1, h2]
        have hw1 : (1 < w) = False := eq_false (by omega)
        obtain ⟨B1, B2, B3⟩ := y_scratch ht hPL hw' hbb (v := g 2)
        by_cases hl : livZ g' b
        · refine ⟨mX4_scratch t L P (zI b) (zI (g 2)), by unfold exA; rw [if_pos hl]; exact B1, B2, ?_⟩
          refine ST_1 (fun n => ?_)
          have hlt : (livZ g' b) = True := eq_true hl
          simp (disch := omega) only [lX4_tryStrike, qX4_tryStrike, tX4_tryStrike_40, uX4_tryStrike_40, show (1 : Int32) = zI 1 from rfl, z_lt, z_add, eB, rB, iB, e8, B3, bI_0, hw1, hlt, forall_eq, if_true, if_false, true_and, and_true, not_true, not_false_eq_true, false_implies, true_implies, imp_self, and_self]
        · refine ⟨t, by unfold exA; rw [if_neg hl]; exact ht, Fr_rf _ t, ?_⟩
          refine ST_1 (fun n => ?_)
          have hlt : (livZ g' b) = False := eq_false hl
          simp (disch := omega) only [lX4_tryStrike, qX4_tryStrike, tX4_tryStrike_40, uX4_tryStrike_40, show (1 : Int32) = zI 1 from rfl, z_lt, z_add, eB, rB, iB, e8, B3, bI_0, hw1, hlt, forall_eq, if_true, if_false, true_and, and_true, not_true, not_false_eq_true, false_implies, true_implies, imp_self, and_self]
      have b6' : bdyZ (stD g d 5 1) (oZ g d 6) := ⟨b6.1, by rw [lo 0 (by omega)]; exact b6.2⟩
      have d0 : dlZ (stD g d 5 1) d := ⟨ho.1.1, by rw [lo 34 (by omega)]; exact ho.1.2⟩
      obtain ⟨s1, A1, F1, S1⟩ := side _ _ 0 (oZ g d 6) (Or.inl rfl) A0 w0 d0 (by rw [oo _ (by omega) (by omega)]; rfl) b6' (lo 2 (by omega))
      have lo2 : ∀ k, k < 37 → exA (stD g d 5 1) (oZ g d 6) (g 2) k = g k := fun k hk => (exA_lo _ _ b6.1 hk).trans (lo k (by omega))
      have hi2 : ∀ w', 0 ≤ w' → w' < 9 → oZ (exA (stD g d 5 1) (oZ g d 6) (g 2)) d w' = oZ (stD g d 5 1) d w' := fun w' h1 h2 => exA_hi _ _ (by omega) (by omega)
      have wA1 : WF (exA (stD g d 5 1) (oZ g d 6) (g 2)) := by
        have hz' := hz
        unfold wsZ at hz'
        rw [if_pos ho] at hz'
        refine WF_exA w0 b6' (by omega) (fun hl => ?_)
        rw [show livZ (stD g d 5 1) (oZ g d 6) = livZ g (oZ g d 6) from by unfold livZ; rw [lo 36 (by omega)]] at hl
        rw [st_lef hw ho.1 (by omega) (by omega) (by omega) (by omega) (by omega) b6.1 (by omega)]
        have hn := ndZ_b hw d
        rcases Int.lt_or_le (lefZ g (oZ g d 6)) (ndZ g d) with hq | hq
        · rw [if_pos (Or.inl ⟨hl, hq⟩)] at hz'; omega
        · omega
      obtain ⟨s2, A2, F2, S2⟩ := side s1 _ 1 (oZ g d 7) (Or.inr rfl) A1 wA1 ⟨ho.1.1, by rw [lo2 34 (by omega)]; exact ho.1.2⟩ (by rw [hi2 _ (by omega) (by omega), oo _ (by omega) (by omega)]; rfl) ⟨b7.1, by rw [lo2 0 (by omega)]; exact b7.2⟩ (lo2 2 (by omega))
      have S3 : ST 1 (fun n => lX4_tryStrike n s2 L P (zI d) (zI (1 + 1))) (fun n => qX4_tryStrike n s2 L P (zI d) (zI (1 + 1))) (fun _ => ((0 : Int32), s2)) (fun _ => True) := by
        refine ST_1 (fun n => ⟨?_, fun _ => ?_⟩)
        · show tX4_tryStrike_40 _ _ _ _ _ _ = _
          unfold tX4_tryStrike_40
          rw [if_pos (by decide)]
        · show uX4_tryStrike_40 _ _ _ _ _ _
          exact fun hc => absurd (by decide) hc
      obtain ⟨E, R⟩ := ST_fu (ST_trans S1 (ST_trans S2 S3)) (by omega)
      have E' : lX4_tryStrike FU (pI s (L + 6) (zI d).toNatClampNeg 1) L P (zI d) 0 = (0, s2) := E
      have hf : fX4_tryStrike s L P (zI d) = (0, s2) := by
        unfold fX4_tryStrike
        rw [f6, f7]
        simp only [e1, e2, bI_0]
        rw [if_neg (Classical.not_not.mpr ho), if_neg (Classical.not_not.mpr hz)]
        exact E'
      unfold vX4_tryStrike mX4_tryStrike rX4_tryStrike
      rw [hf, if_pos hz, hz]
      refine ⟨rfl, A2, Fr_tr F0 (Fr_tr F1 F2), ?_⟩
      rw [f6, f7]
      exact ⟨r1, fun _ => ⟨vd, vd, r2, fun _ => ⟨vd, R⟩⟩⟩
    · have h5 : wsZ g d = 5 := by
        unfold wsZ at hz ⊢
        rw [if_pos ho] at hz ⊢
        split
        · rfl
        · rename_i hq; rw [if_neg hq] at hz; omega
      have hf : fX4_tryStrike s L P (zI d) = (5, s) := by
        unfold fX4_tryStrike
        rw [f6, f7]
        simp only [e1, e2, bI_0]
        rw [if_neg (Classical.not_not.mpr ho), if_pos hz]
      unfold vX4_tryStrike mX4_tryStrike rX4_tryStrike
      rw [hf, if_neg hz, h5]
      refine ⟨rfl, h, Fr_rf _ s, ?_⟩
      rw [f6, f7]
      exact ⟨r1, fun _ => ⟨vd, vd, r2, fun hc => absurd (by rw [e2]; exact bI_F' hz) hc⟩⟩
  · have h4 : wsZ g d = 4 := by unfold wsZ; rw [if_neg ho]
    have hf : fX4_tryStrike s L P (zI d) = (4, s) := by
      unfold fX4_tryStrike
      simp only [e1, bI_0]
      rw [if_pos ho]
    unfold vX4_tryStrike mX4_tryStrike rX4_tryStrike
    rw [hf, h4, if_neg (by omega)]
    exact ⟨rfl, h, Fr_rf _ s, r1, fun hc => absurd (by rw [e1]; exact bI_F' ho) hc⟩
end
