theorem stD_id {g : Nat → Int} {d w v : Int} (h : oZ g d w = v) : stD g d w v = g := by
  funext k
  unfold stD upZ
  split
  · rename_i hk; rw [hk, ← h]; rfl
  · rfl
theorem bu3_l {g : Nat → Int} {d l v : Int} (hd : 0 ≤ d) : bu3 g d l (oZ g d 1) v = stD (stD g d 0 l) d 5 v := by
  unfold bu3
  rw [stD_id (g := stD g d 0 l) (w := 1) (by rw [oZ_st g l hd (by omega) (by omega) hd (by omega) (by omega), if_neg (by omega)])]
theorem bu3_t {g : Nat → Int} {d t v : Int} (hd : 0 ≤ d) : bu3 g d (oZ g d 0) t v = stD (stD g d 1 t) d 5 v := by
  unfold bu3
  rw [stD_id (g := g) (w := 0) rfl]
theorem st5_0 {g : Nat → Int} {d w v : Int} (hd : 0 ≤ d) (h0 : 0 ≤ w) (h9 : w < 5) (h5 : oZ g d 5 = 0) : stD (stD g d w v) d 5 0 = stD g d w v := stD_id (by rw [oZ_st g v hd h0 (by omega) hd (by omega) (by omega), if_neg (by omega)]; exact h5)
/-- how many pass to the heir -/
abbrev doP (g : Nat → Int) (b h d : Int) : Prop := opZ g d ∧ ((oZ g d 0 = b ∧ ¬ oZ g d 1 = h) ∨ (oZ g d 1 = b ∧ ¬ oZ g d 0 = h))
def doC (g : Nat → Int) (b h : Int) (d : Nat) (a : Int32) : Int32 := if doP g b h d then a + zI 1 else a
section
variable {s : SM} {g : Nat → Int} {L P : Nat}
theorem x_buries (h : RR s g) (hw : WF g) {b e : Int} (hb : bdyZ g b) (he : bdyZ g e) (hbe : b ≠ e) : RR (mX12_buries s (zI b) (zI e)) (buP g b e (g 34).toNat) ∧ Fr (fun c => c = 250) s (mX12_buries s (zI b) (zI e)) ∧ vX12_buries s (zI b) (zI e) = fold (doC g b e) (g 34).toNat 0 ∧ rX12_buries s (zI b) (zI e) := by
  have h0 := hw.w0
  have hN : ((g 34).toNat : Int) = g 34 := by omega
  have hdd := ddV_z (g 36) b
  have A0 : RR (pI s 250 ((36 : Int32)).toNatClampNeg (gI s 250 ((36 : Int32)).toNatClampNeg ||| ((1 : Int32) <<< (zI b &&& 31)))) (buP g b e 0) := by
    rw [x_36 h, ← hdd]
    exact RR_up h 36 _
  have F0 : Fr (fun c => c = 250) s (pI s 250 ((36 : Int32)).toNatClampNeg (gI s 250 ((36 : Int32)).toNatClampNeg ||| ((1 : Int32) <<< (zI b &&& 31)))) := Fr_pI s _ _ rfl
  have up := ST_up (B := 2) (g 34).toNat (fun d (a : SM × Int32) => RR a.1 (buP g b e d) ∧ Fr (fun c => c = 250) s a.1 ∧ a.2 = fold (doC g b e) d 0)
    (fun d a n => (lX12_buries n).1 a.1 (zI b) (zI e) a.2 (zI (d : Int))) (fun d a n => (qX12_buries n).1 a.1 (zI b) (zI e) a.2 (zI (d : Int))) (by
    rintro d ⟨t, c⟩ hd ⟨hR, hF, hc⟩
    obtain ⟨b1, b2, b3, b4⟩ := buP_all hw hb he d
    dsimp only at hR hF hc
    have bN : buP g b e (d + 1) = buS (buP g b e d) b e d := rfl
    have cN : fold (doC g b e) (d + 1) 0 = doC g b e d (fold (doC g b e) d 0) := rfl
    have y0 := b4 d 0 (by omega) (by omega) (by omega)
    have y1 := b4 d 1 (by omega) (by omega) (by omega)
    have y5 := b4 d 5 (by omega) (by omega) (by omega)
    have z34 : buP g b e d 34 = g 34 := by rw [b2 34 (by omega)]; rfl
    have hdl : dlZ g d := by omega
    have hdl' : dlZ (buP g b e d) d := ⟨by omega, by omega⟩
    have hwd := hw.wd hdl
    have oop : opZ (buP g b e d) d ↔ opZ g d := by
      constructor
      · intro q; exact ⟨hdl, by rw [← y5]; exact q.2⟩
      · intro q; exact ⟨hdl', by rw [y5]; exact q.2⟩
    have e0 := x_of hR (d := d) (w := 0) (by omega) (by omega)
    have e1 := x_of hR (d := d) (w := 1) (by omega) (by omega)
    have p0 := x_of_r t (d := d) (w := 0) (by omega) (by omega)
    have p1 := x_of_r t (d := d) (w := 1) (by omega) (by omega)
    rw [y0] at e0
    rw [y1] at e1
    have eo := x_isOpen hR b1 (d := d) (by omega)
    have ro := x_isOpen_r hR b1 (d := d) (by omega)
    have e34 : gI t 250 ((34 : Int32)).toNatClampNeg = zI (g 34) := by rw [x_34 hR, z34]
    have hn1 : (g 34 ≤ (d : Int)) = False := eq_false (by omega)
    have hn2 : ((d : Int) < g 34) = True := eq_true (by omega)
    rw [bN, cN]
    by_cases ho : opZ g d
    · have ho' := oop.mpr ho
      have hot : opZ (buP g b e d) d = True := eq_true ho'
      have hlt := hwd.2.2.2.2.2.2.2.2.2 ho.2
      by_cases q0 : oZ g d 0 = b
      · have q1 : ¬ oZ g d 1 = b := by omega
        obtain ⟨A1, F1, r1⟩ := x_set hR (d := d) (w := 0) (v := e) (by omega) (by omega)
        have w0 := x_of A1 (d := d) (w := 0) (by omega) (by omega)
        have w1 := x_of A1 (d := d) (w := 1) (by omega) (by omega)
        have v0 := x_of_r (mX12_set t (zI d) (zI 0) (zI e)) (d := d) (w := 0) (by omega) (by omega)
        have v1 := x_of_r (mX12_set t (zI d) (zI 0) (zI e)) (d := d) (w := 1) (by omega) (by omega)
        rw [oZ_st _ _ (by omega) (by omega) (by omega) (by omega) (by omega) (by omega), if_pos ⟨rfl, rfl⟩] at w0
        rw [oZ_st _ _ (by omega) (by omega) (by omega) (by omega) (by omega) (by omega), if_neg (by omega), y1] at w1
        have hS : buS (buP g b e d) b e d = stD (stD (buP g b e d) d 0 e) d 5 (if e = oZ g d 1 then 2 else 0) := by
          unfold buS
          rw [if_pos ho', y0, y1, if_pos q0, if_neg q1, ← y1, bu3_l (by omega)]
        by_cases q2 : e = oZ g d 1
        · obtain ⟨A2, F2, r2⟩ := x_set A1 (d := d) (w := 5) (v := 2) (by omega) (by omega)
          refine ⟨(mX12_set (mX12_set t (zI d) (zI 0) (zI e)) (zI d) (zI 5) (zI 2), c), ⟨?_, Fr_tr hF (Fr_tr F1 F2), ?_⟩, ?_⟩
          · rw [hS, if_pos q2]; exact A2
          · dsimp only
            unfold doC
            rw [if_neg (fun hc => by have := hc.2; omega)]; exact hc
          · refine ⟨2, by decide, fun n => ?_⟩
            have q0t : (oZ g d 0 = b) = True := eq_true q0
            have q2t : (e = oZ g d 1) = True := eq_true q2
            simp (disch := omega) only [lX12_buries, qX12_buries, tX12_buries_18, tX12_buries_64, uX12_buries_18, uX12_buries_64, e34, zl0, zl1, zl2, zl5, Int.reduceAdd, Int.reduceSub, Int.reduceMul, Int.reduceNeg, Int.reduceLT, Int.reduceLE, Int.reduceToNat, Int.reduceEq, z_add, z_le, z_eq, eo, ro, e0, e1, p0, p1, w0, w1, v0, v1, r1, r2, bI_z, hot, q0t, q2t, hn1, hn2, forall_eq, i_a0, i_s0, i_or0, Int.natCast_succ, Int.sub_sub, Int.add_assoc, Int.add_zero, Int.zero_add, Int.sub_zero, if_true, if_false, true_and, and_true, not_true, not_false_eq_true, false_implies, true_implies, imp_self, and_self]
        · refine ⟨(mX12_set t (zI d) (zI 0) (zI e), c + zI 1), ⟨?_, Fr_tr hF F1, ?_⟩, ?_⟩
          · rw [hS, if_neg q2, st5_0 (by omega) (by omega) (by omega) (by rw [y5]; exact ho.2)]; exact A1
          · dsimp only
            rw [doC, if_pos ⟨ho, Or.inl ⟨q0, fun hc => q2 hc.symm⟩⟩, hc]
          · refine ⟨2, by decide, fun n => ?_⟩
            have q0t : (oZ g d 0 = b) = True := eq_true q0
            have q2t : (e = oZ g d 1) = False := eq_false q2
            simp (disch := omega) only [lX12_buries, qX12_buries, tX12_buries_18, tX12_buries_64, uX12_buries_18, uX12_buries_64, e34, zl0, zl1, zl2, zl5, Int.reduceAdd, Int.reduceSub, Int.reduceMul, Int.reduceNeg, Int.reduceLT, Int.reduceLE, Int.reduceToNat, Int.reduceEq, z_add, z_le, z_eq, eo, ro, e0, e1, p0, p1, w0, w1, v0, v1, r1, bI_z, hot, q0t, q2t, hn1, hn2, forall_eq, i_a0, i_s0, i_or0, Int.natCast_succ, Int.sub_sub, Int.add_assoc, Int.add_zero, Int.zero_add, Int.sub_zero, if_true, if_false, true_and, and_true, not_true, not_false_eq_true, false_implies, true_implies, imp_self, and_self]
      · by_cases q1 : oZ g d 1 = b
        · obtain ⟨A1, F1, r1⟩ := x_set hR (d := d) (w := 1) (v := e) (by omega) (by omega)
          have w0 := x_of A1 (d := d) (w := 0) (by omega) (by omega)
          have w1 := x_of A1 (d := d) (w := 1) (by omega) (by omega)
          have v0 := x_of_r (mX12_set t (zI d) (zI 1) (zI e)) (d := d) (w := 0) (by omega) (by omega)
          have v1 := x_of_r (mX12_set t (zI d) (zI 1) (zI e)) (d := d) (w := 1) (by omega) (by omega)
          rw [oZ_st _ _ (by omega) (by omega) (by omega) (by omega) (by omega) (by omega), if_neg (by omega), y0] at w0
          rw [oZ_st _ _ (by omega) (by omega) (by omega) (by omega) (by omega) (by omega), if_pos ⟨rfl, rfl⟩] at w1
          have hS : buS (buP g b e d) b e d = stD (stD (buP g b e d) d 1 e) d 5 (if oZ g d 0 = e then 2 else 0) := by
            unfold buS
            rw [if_pos ho', y0, y1, if_neg q0, if_pos q1, ← y0, bu3_t (by omega)]
          have q0t : (oZ g d 0 = b) = False := eq_false q0
          have q1t : (oZ g d 1 = b) = True := eq_true q1
          by_cases q2 : oZ g d 0 = e
          · obtain ⟨A2, F2, r2⟩ := x_set A1 (d := d) (w := 5) (v := 2) (by omega) (by omega)
            refine ⟨(mX12_set (mX12_set t (zI d) (zI 1) (zI e)) (zI d) (zI 5) (zI 2), c), ⟨?_, Fr_tr hF (Fr_tr F1 F2), ?_⟩, ?_⟩
            · rw [hS, if_pos q2]; exact A2
            · dsimp only
              unfold doC
              rw [if_neg (fun hc => by have := hc.2; omega)]; exact hc
            · refine ⟨2, by decide, fun n => ?_⟩
              have q2t : (oZ g d 0 = e) = True := eq_true q2
              simp (disch := omega) only [lX12_buries, qX12_buries, tX12_buries_18, tX12_buries_64, uX12_buries_18, uX12_buries_64, e34, zl0, zl1, zl2, zl5, Int.reduceAdd, Int.reduceSub, Int.reduceMul, Int.reduceNeg, Int.reduceLT, Int.reduceLE, Int.reduceToNat, Int.reduceEq, z_add, z_le, z_eq, eo, ro, e0, e1, p0, p1, w0, w1, v0, v1, r1, r2, bI_z, hot, q0t, q1t, q2t, hn1, hn2, forall_eq, i_a0, i_s0, i_or0, Int.natCast_succ, Int.sub_sub, Int.add_assoc, Int.add_zero, Int.zero_add, Int.sub_zero, if_true, if_false, true_and, and_true, not_true, not_false_eq_true, false_implies, true_implies, imp_self, and_self]
          · refine ⟨(mX12_set t (zI d) (zI 1) (zI e), c + zI 1), ⟨?_, Fr_tr hF F1, ?_⟩, ?_⟩
            · rw [hS, if_neg q2, st5_0 (by omega) (by omega) (by omega) (by rw [y5]; exact ho.2)]; exact A1
            · dsimp only
              rw [doC, if_pos ⟨ho, Or.inr ⟨q1, q2⟩⟩, hc]
            · refine ⟨2, by decide, fun n => ?_⟩
              have q2t : (oZ g d 0 = e) = False := eq_false q2
              simp (disch := omega) only [lX12_buries, qX12_buries, tX12_buries_18, tX12_buries_64, uX12_buries_18, uX12_buries_64, e34, zl0, zl1, zl2, zl5, Int.reduceAdd, Int.reduceSub, Int.reduceMul, Int.reduceNeg, Int.reduceLT, Int.reduceLE, Int.reduceToNat, Int.reduceEq, z_add, z_le, z_eq, eo, ro, e0, e1, p0, p1, w0, w1, v0, v1, r1, bI_z, hot, q0t, q1t, q2t, hn1, hn2, forall_eq, i_a0, i_s0, i_or0, Int.natCast_succ, Int.sub_sub, Int.add_assoc, Int.add_zero, Int.zero_add, Int.sub_zero, if_true, if_false, true_and, and_true, not_true, not_false_eq_true, false_implies, true_implies, imp_self, and_self]
        · refine ⟨(t, c), ⟨?_, hF, ?_⟩, ?_⟩
          · unfold buS
            rw [if_pos ho', y0, y1, if_neg q0, if_neg q1, if_neg hlt.2.1, ← y0, bu3_t (by omega), stD_id y1, stD_id (by rw [y5]; exact ho.2)]
            exact hR
          · dsimp only
            unfold doC
            rw [if_neg (fun hc => by have := hc.2; omega)]; exact hc
          · refine ⟨1, by decide, fun n => ?_⟩
            have q0t : (oZ g d 0 = b) = False := eq_false q0
            have q1t : (oZ g d 1 = b) = False := eq_false q1
            simp (disch := omega) only [lX12_buries, qX12_buries, tX12_buries_18, tX12_buries_64, uX12_buries_18, uX12_buries_64, e34, zl0, zl1, zl2, zl5, Int.reduceAdd, Int.reduceSub, Int.reduceMul, Int.reduceNeg, Int.reduceLT, Int.reduceLE, Int.reduceToNat, Int.reduceEq, z_add, z_le, z_eq, eo, ro, e0, e1, p0, p1, bI_z, hot, q0t, q1t, hn1, hn2, forall_eq, i_a0, i_s0, i_or0, Int.natCast_succ, Int.sub_sub, Int.add_assoc, Int.add_zero, Int.zero_add, Int.sub_zero, if_true, if_false, true_and, and_true, not_true, not_false_eq_true, false_implies, true_implies, imp_self, and_self]
    · refine ⟨(t, c), ⟨?_, hF, ?_⟩, ?_⟩
      · unfold buS
        rw [if_neg (fun hc => ho (oop.mp hc))]; exact hR
      · dsimp only
        unfold doC
        rw [if_neg (fun hc => ho hc.1)]; exact hc
      · refine ⟨1, by decide, fun n => ?_⟩
        have hot : opZ (buP g b e d) d = False := eq_false (fun hc => ho (oop.mp hc))
        simp (disch := omega) only [lX12_buries, qX12_buries, tX12_buries_18, tX12_buries_64, uX12_buries_18, uX12_buries_64, e34, zl0, zl1, zl2, zl5, Int.reduceAdd, Int.reduceSub, Int.reduceMul, Int.reduceNeg, Int.reduceLT, Int.reduceLE, Int.reduceToNat, Int.reduceEq, z_add, z_le, z_eq, eo, ro, e0, e1, p0, p1, bI_z, hot, hn1, hn2, forall_eq, i_a0, i_s0, i_or0, Int.natCast_succ, Int.sub_sub, Int.add_assoc, Int.add_zero, Int.zero_add, Int.sub_zero, if_true, if_false, true_and, and_true, not_true, not_false_eq_true, false_implies, true_implies, imp_self, and_self])
  obtain ⟨⟨t, c⟩, ⟨hR, hF, hc⟩, hst⟩ := up (g 34).toNat 0 (_, 0) (by omega) ⟨A0, F0, rfl⟩
  dsimp only at hR hF hc
  obtain ⟨b1, b2, -, -⟩ := buP_all hw hb he (g 34).toNat
  have z34 : buP g b e (g 34).toNat 34 = g 34 := by rw [b2 34 (by omega)]; rfl
  have e34 : gI t 250 ((34 : Int32)).toNatClampNeg = zI (g 34) := by rw [x_34 hR, z34]
  obtain ⟨E, R⟩ := ST_fu (ST_trans hst (ST_1 (F' := fun _ => (c, t)) (C' := fun _ => True) (fun n => by
    simp (disch := omega) only [lX12_buries, qX12_buries, tX12_buries_18, uX12_buries_18, e34, z_le, hN, Int.le_refl, Int.lt_irrefl, if_true, if_false, true_and, and_true, not_true, not_false_eq_true, false_implies, true_implies, imp_self, and_self]))) (by omega)
  have E' : fX12_buries s (zI b) (zI e) = (c, t) := E
  unfold mX12_buries vX12_buries rX12_buries
  rw [E']
  exact ⟨hR, hF, hc, R⟩
end
