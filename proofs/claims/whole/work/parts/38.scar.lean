def scW (g : Nat → Int) (d w : Int) : Int := if opZ g d then (if kaZ g d w (lvS g) then 0 else 6) else 4
def scV (x w : Int) : Int := (zI x ||| ((1 : Int32) <<< (zI w &&& 31))).toInt
def scZ (g : Nat → Int) (d w : Int) : Nat → Int := stD g d 8 (scV (oZ g d 8) w)
theorem scV_z (x w : Int) : zI (scV x w) = zI x ||| ((1 : Int32) <<< (zI w &&& 31)) := zI_tI _
theorem scV_b {x w : Int} (hx : 0 ≤ x ∧ x ≤ 3) (hs : w = 0 ∨ w = 1) : 0 ≤ scV x w ∧ scV x w ≤ 3 := by
  rcases (show x = 0 ∨ x = 1 ∨ x = 2 ∨ x = 3 by omega) with rfl | rfl | rfl | rfl <;> rcases hs with rfl | rfl <;> decide
theorem scW_b (g : Nat → Int) (d w : Int) : 0 ≤ scW g d w ∧ scW g d w ≤ 6 := by
  unfold scW
  split
  · split <;> omega
  · omega
theorem scZ_wf {g : Nat → Int} (hw : WF g) {d w : Int} (hs : w = 0 ∨ w = 1) (h : opZ g d) : WF (scZ g d w) := by
  have h0 := hw.w0
  have hD := hw.wd h.1
  have hv := scV_b (x := oZ g d 8) (w := w) hD.2.2.2.2.2.2.2.2.1 hs
  have oo : ∀ w', 0 ≤ w' → w' < 9 → oZ (scZ g d w) d w' = if w' = 8 then scV (oZ g d 8) w else oZ g d w' := fun w' h1 h2 => by
    unfold scZ
    rw [oZ_st g _ h.1.1 (by omega) (by omega) h.1.1 h1 h2]
    by_cases hq : w' = 8
    · rw [if_pos ⟨rfl, hq⟩, if_pos hq]
    · rw [if_neg (fun hc => hq hc.2), if_neg hq]
  have lo : ∀ k, k < 46 → scZ g d w k = g k := fun k hk => stD_lo g _ h.1.1 (by omega) hk
  refine WF_st hw h.1 (by omega) (by omega) (by omega) (by omega) (by omega) ?_
  show WD (scZ g d w) d
  unfold WD
  rw [oo 0 (by omega) (by omega), oo 1 (by omega) (by omega), oo 2 (by omega) (by omega), oo 3 (by omega) (by omega), oo 4 (by omega) (by omega), oo 5 (by omega) (by omega), oo 6 (by omega) (by omega), oo 7 (by omega) (by omega), oo 8 (by omega) (by omega), lo 0 (by omega), lo 1 (by omega)]
  simp only [Int.reduceAdd, Int.reduceSub, Int.reduceMul, Int.reduceNeg, Int.reduceLT, Int.reduceLE, Int.reduceToNat, Int.reduceEq, if_true, if_false, true_and, and_true, not_true, not_false_eq_true, false_implies, true_implies, imp_self, and_self]
  omega
theorem WF_yr {g : Nat → Int} (hw : WF g) (h : g 35 < 99) : WF (upZ g 35 (g 35 + 1)) := by
  have h0 := hw.w0
  have hs : SP g (upZ g 35 (g 35 + 1)) := SP_up g _ (by omega)
  have ne : ∀ k, k ≠ 35 → upZ g 35 (g 35 + 1) k = g k := fun k hk => by unfold upZ; rw [if_neg hk]
  have y5 : upZ g 35 (g 35 + 1) 35 = g 35 + 1 := by unfold upZ; rw [if_pos rfl]
  refine ⟨?_, fun b hb => ?_, fun k hk => ?_, fun d hd => ?_⟩
  · unfold W0
    rw [ne 0 (by omega), ne 1 (by omega), ne 2 (by omega), ne 3 (by omega), ne 34 (by omega), y5, ne 36 (by omega)]
    omega
  · have hb2 : bdyZ g b := ⟨hb.1, by have := hb.2; rw [ne 0 (by omega)] at this; exact this⟩
    have hB := hw.wb hb2
    have he : exZ (upZ g 35 (g 35 + 1)) b = exZ g b := ne _ (by omega)
    have hl := lef_c (v := 0) hs (by omega : b < 9) (ne 34 (by omega)) (fun d hd => by
      have hk := (hw.wd hd).2.2.2.1
      unfold mkZ sizZ
      rw [oZ_up g _ (by omega) hd.1 (by omega), oZ_up g _ (by omega) hd.1 (by omega), oZ_up g _ (by omega) hd.1 (by omega), SP_sz hs (by omega)]) (show _ = exZ g b + 0 by rw [he]; omega)
    unfold WB
    rw [SP_rm hs (by omega), SP_ki hs (by omega), ne 0 (by omega), he, hl]
    omega
  · have hk2 : kndZ g k := ⟨hk.1, by have := hk.2; rw [ne 1 (by omega)] at this; exact this⟩
    have hK := hw.wk hk2
    unfold WK
    rw [SP_sz hs (by omega), SP_so hs (by omega)]
    exact hK
  · have hd2 : dlZ g d := ⟨hd.1, by have := hd.2; rw [ne 34 (by omega)] at this; exact this⟩
    have hD := hw.wd hd2
    have oo : ∀ w, 0 ≤ w → oZ (upZ g 35 (g 35 + 1)) d w = oZ g d w := fun w h => oZ_up g _ (by omega) hd2.1 h
    unfold WD
    rw [oo 0 (by omega), oo 1 (by omega), oo 2 (by omega), oo 3 (by omega), oo 4 (by omega), oo 5 (by omega), oo 6 (by omega), oo 7 (by omega), oo 8 (by omega), ne 0 (by omega), ne 1 (by omega)]
    exact hD
section
variable {s : SM} {g : Nat → Int} {L P : Nat}
theorem x_whyScar (h : RR s g) (hw : WF g) {d w : Int} (hd : IR d) (hs : w = 0 ∨ w = 1) : vX12_whyScar s (zI d) (zI w) = zI (scW g d w) ∧ rX12_whyScar s (zI d) (zI w) := by
  have h0 := hw.w0
  have e1 := x_isOpen h hw hd
  have r1 := x_isOpen_r h hw hd
  unfold vX12_whyScar rX12_whyScar scW
  simp only [e1, bI_0]
  by_cases ho : opZ g d
  · have hD := hw.wd ho.1
    have oB := x_of h (d := d) (w := 6 + w) (by omega) (by omega)
    have pB := x_of_r s (d := d) (w := 6 + w) (by omega) (by omega)
    have o8 := x_of h (d := d) (w := 8) (by omega) (by omega)
    have p8 := x_of_r s (d := d) (w := 8) (by omega) (by omega)
    have hB := y_oB hw ho.1 hs
    have iB := x_isLiving h (oZ g d (6 + w))
    rw [if_neg (Classical.not_not.mpr ho), if_pos ho]
    simp (disch := omega) only [show (6 : Int32) = zI 6 from rfl, show (8 : Int32) = zI 8 from rfl, z_add, oB, pB, o8, p8, x_has, iB, bI_0, show (0 : Int32) = zI 0 from rfl, z_lt, bI_z, implies_true, and_true, r1]
    by_cases q1 : hasZ (oZ g d 8) w
    · rw [if_neg (Classical.not_not.mpr q1), if_neg (fun hc => hc.2.1 q1)]
    · rw [if_pos q1]
      by_cases q2 : oZ g d (6 + w) < 0
      · rw [if_pos q2, if_neg (fun hc => by omega)]
      · rw [if_neg q2]
        have hl := lvS_has hw (b := oZ g d (6 + w)) ⟨by omega, by omega⟩
        by_cases q3 : livZ g (oZ g d (6 + w))
        · rw [if_neg (Classical.not_not.mpr q3), if_pos ⟨by omega, q1, hl.mpr q3⟩]
        · rw [if_pos q3, if_neg (fun hc => q3 (hl.mp hc.2.2))]
  · rw [if_pos ho, if_neg ho]
    exact ⟨rfl, r1, fun hc => absurd ho hc⟩
/-- what scar sets -/
theorem x_scars (h : RR s g) (hw : WF g) {d w : Int} (ho : opZ g d) : RR (mX12_set s (zI d) 8 (vX12_of s (zI d) 8 ||| ((1 : Int32) <<< (zI w &&& 31)))) (scZ g d w) ∧ Fr (fun c => c = 250) s (mX12_set s (zI d) 8 (vX12_of s (zI d) 8 ||| ((1 : Int32) <<< (zI w &&& 31)))) ∧ rX12_of s (zI d) 8 ∧ rX12_set s (zI d) 8 (vX12_of s (zI d) 8 ||| ((1 : Int32) <<< (zI w &&& 31))) := by
  have h0 := hw.w0
  have o8 := x_of h (d := d) (w := 8) (by omega) (by omega)
  have p8 := x_of_r s (d := d) (w := 8) (by omega) (by omega)
  obtain ⟨A, B, C⟩ := x_set h (d := d) (w := 8) (v := scV (oZ g d 8) w) (by omega) (by omega)
  rw [scV_z] at A B C
  have o8' : vX12_of s (zI d) 8 = zI (oZ g d 8) := o8
  rw [o8']
  exact ⟨A, B, p8, C⟩
theorem y_tryScar (h : LdR s L P g) (hPL : P + 7 ≤ L) (hw : WF g) {d w : Int} (hd : IR d) (hs : w = 0 ∨ w = 1) : vX4_tryScar s L P (zI d) (zI w) = zI (scW g d w) ∧ LdR (mX4_tryScar s L P (zI d) (zI w)) L P (if scW g d w = 0 then scZ g d w else g) ∧ Fr (InL L) s (mX4_tryScar s L P (zI d) (zI w)) ∧ rX4_tryScar s L P (zI d) (zI w) := by
  have h0 := hw.w0
  obtain ⟨e1, r1⟩ := y_isOpen (P := P) h.2 hw hd
  unfold vX4_tryScar mX4_tryScar rX4_tryScar scW
  simp only [e1, bI_0]
  by_cases ho : opZ g d
  · obtain ⟨e2, r2⟩ := y_isReadable h hw ho.1 hs
    obtain ⟨f0, f1, f2, f3, f4, f5, f6, f7, f8⟩ := n_f h.2 hw ho.1
    have vd := y_vp hw ho.1
    have A := LdR_st8 h hPL hw ho.1 (v := scV (oZ g d 8) w)
    rw [scV_z] at A
    simp only [e2, bI_0, f8, r2, vd]
    rw [if_neg (Classical.not_not.mpr ho), if_neg (Classical.not_not.mpr ho), if_pos ho]
    by_cases hq : kaZ g d w (lvS g)
    · rw [if_neg (Classical.not_not.mpr hq), if_neg (Classical.not_not.mpr hq), if_pos hq, if_pos rfl]
      exact ⟨rfl, A, Fr_pI s _ _ ⟨by omega, by omega⟩, r1, fun _ => ⟨trivial, fun _ => ⟨trivial, trivial⟩⟩⟩
    · rw [if_pos hq, if_pos hq, if_neg hq, if_neg (by omega)]
      exact ⟨rfl, h, Fr_rf _ s, r1, fun _ => ⟨trivial, fun _ => ⟨trivial, trivial⟩⟩⟩
  · rw [if_pos ho, if_pos ho, if_neg ho, if_neg (by omega)]
    exact ⟨rfl, h, Fr_rf _ s, r1, fun hc => absurd ho hc⟩
theorem y_tryYear (h : LdR s L P g) (hPL : P + 7 ≤ L) (hw : WF g) : vX4_tryYear s L P = zI (if g 35 = 99 then 9 else 0) ∧ LdR (mX4_tryYear s L P) L P (if g 35 = 99 then g else upZ g 35 (g 35 + 1)) ∧ Fr (InL L) s (mX4_tryYear s L P) := by
  have h0 := hw.w0
  have e := h.2.1.2.1
  unfold vX4_tryYear mX4_tryYear
  rw [e]
  simp (disch := omega) only [show (99 : Int32) = zI 99 from rfl, z_lt]
  by_cases hq : g 35 = 99
  · have hlt : ¬ g 35 < 99 := by omega
    rw [if_neg hlt, if_neg hlt, if_pos hq, if_pos hq]
    exact ⟨rfl, h, Fr_rf _ s⟩
  · have hlt : g 35 < 99 := by omega
    rw [if_pos hlt, if_pos hlt, if_neg hq, if_neg hq]
    refine ⟨rfl, ?_, Fr_pI s _ _ ⟨by omega, by omega⟩⟩
    have hs : SP g (upZ g 35 (g 35 + 1)) := SP_up g _ (by omega)
    have ne : ∀ k, k ≠ 35 → upZ g 35 (g 35 + 1) k = g k := fun k hk => by unfold upZ; rw [if_neg hk]
    have y5 : upZ g 35 (g 35 + 1) 35 = g 35 + 1 := by unfold upZ; rw [if_pos rfl]
    rw [show zI (g 35) + 1 = zI (g 35 + 1) from z_add _ 1]
    refine ⟨PoR_c hw hs (PoR_p h.1 (by omega)), ⟨?_, ?_, ?_⟩, fun b hb => ⟨?_, ?_⟩, fun d hd => ?_⟩
    · rw [ne 34 (by omega), gI_s, if_neg (by omega)]; exact h.2.1.1
    · rw [y5, gI_s, if_pos rfl]
    · rw [ne 36 (by omega), gI_s, if_neg (by omega)]; exact h.2.1.2.2
    · have hb2 : bdyZ g b := ⟨hb.1, by have := hb.2; rw [ne 0 (by omega)] at this; exact this⟩
      have hl := lef_c (v := 0) hs (by omega : b < 9) (ne 34 (by omega)) (fun d hd => by
        have hk := (hw.wd hd).2.2.2.1
        unfold mkZ sizZ
        rw [oZ_up g _ (by omega) hd.1 (by omega), oZ_up g _ (by omega) hd.1 (by omega), oZ_up g _ (by omega) hd.1 (by omega), SP_sz hs (by omega)]) (show exZ (upZ g 35 (g 35 + 1)) b = exZ g b + 0 by rw [show exZ (upZ g 35 (g 35 + 1)) b = exZ g b from ne _ (by omega)]; omega)
      rw [hl, Int.sub_zero, gI_n _ _ _ _ (by omega)]
      exact (h.2.2.1 b hb2).1
    · have hb2 : bdyZ g b := ⟨hb.1, by have := hb.2; rw [ne 0 (by omega)] at this; exact this⟩
      rw [show exZ (upZ g 35 (g 35 + 1)) b = exZ g b from ne _ (by omega), gI_n _ _ _ _ (by omega)]
      exact (h.2.2.1 b hb2).2
    · have hd2 : dlZ g d := ⟨hd.1, by have := hd.2; rw [ne 34 (by omega)] at this; exact this⟩
      obtain ⟨k0, k1, k2, k3, k4, k5, k6, k7, k8⟩ := h.2.2.2 d hd2
      refine ⟨?_, ?_, ?_, ?_, ?_, ?_, ?_, ?_, ?_⟩ <;> rw [oZ_up g _ (by omega) hd2.1 (by omega), gI_n _ _ _ _ (by omega)] <;> assumption
end
