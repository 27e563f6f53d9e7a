section
variable {s : SM} {g : Nat → Int} {L P : Nat}
theorem LdR_36 (h : LdR s L P g) (hPL : P + 7 ≤ L) (hw : WF g) (v : Int) : LdR (pI s L 14 (zI v)) L P (upZ g 36 v) := by
  have h0 := hw.w0
  have hs : SP g (upZ g 36 v) := SP_up g _ (by omega)
  have ne : ∀ k, k ≠ 36 → upZ g 36 v k = g k := fun k hk => by unfold upZ; rw [if_neg hk]
  have y5 : upZ g 36 v 36 = v := by unfold upZ; rw [if_pos rfl]
  refine ⟨PoR_c hw hs (PoR_p h.1 (by omega)), ⟨?_, ?_, ?_⟩, fun b hb => ⟨?_, ?_⟩, fun d hd => ?_⟩
  · rw [ne 34 (by omega), gI_s, if_neg (by omega)]; exact h.2.1.1
  · rw [ne 35 (by omega), gI_s, if_neg (by omega)]; exact h.2.1.2.1
  · rw [y5, gI_s, if_pos rfl]
  · have hb2 : bdyZ g b := ⟨hb.1, by have := hb.2; rw [ne 0 (by omega)] at this; exact this⟩
    have hl := lef_c (v := 0) hs (by omega : b < 9) (ne 34 (by omega)) (fun d hd => by
      have hk := (hw.wd hd).2.2.2.1
      unfold mkZ sizZ
      rw [oZ_up g _ (by omega) hd.1 (by omega), oZ_up g _ (by omega) hd.1 (by omega), oZ_up g _ (by omega) hd.1 (by omega), SP_sz hs (by omega)]) (show exZ (upZ g 36 v) b = exZ g b + 0 by rw [show exZ (upZ g 36 v) b = exZ g b from ne _ (by omega)]; omega)
    rw [hl, Int.sub_zero, gI_n _ _ _ _ (by omega)]
    exact (h.2.2.1 b hb2).1
  · have hb2 : bdyZ g b := ⟨hb.1, by have := hb.2; rw [ne 0 (by omega)] at this; exact this⟩
    rw [show exZ (upZ g 36 v) b = exZ g b from ne _ (by omega), gI_n _ _ _ _ (by omega)]
    exact (h.2.2.1 b hb2).2
  · have hd2 : dlZ g d := ⟨hd.1, by have := hd.2; rw [ne 34 (by omega)] at this; exact this⟩
    obtain ⟨k0, k1, k2, k3, k4, k5, k6, k7, k8⟩ := h.2.2.2 d hd2
    refine ⟨?_, ?_, ?_, ?_, ?_, ?_, ?_, ?_, ?_⟩ <;> rw [oZ_up g _ (by omega) hd2.1 (by omega), gI_n _ _ _ _ (by omega)] <;> assumption
theorem LdR_bu3 (h : LdR s L P g) (hPL : P + 7 ≤ L) (hw : WF g) {d l t v : Int} (hd : dlZ g d) : LdR (pI (pI (pI s (L + 1) (zI d).toNatClampNeg (zI l)) (L + 2) (zI d).toNatClampNeg (zI t)) (L + 6) (zI d).toNatClampNeg (zI v)) L P (bu3 g d l t v) := by
  have h0 := hw.w0
  have lo : ∀ k, k < 46 → bu3 g d l t v k = g k := fun k hk => bu3_lo g l t v hd.1 hk
  have hs : SP g (bu3 g d l t v) := fun k hk => lo k (by omega)
  rw [z_cl (by omega)]
  refine ⟨PoR_c hw hs (PoR_p (PoR_p (PoR_p h.1 (by omega)) (by omega)) (by omega)), ⟨?_, ?_, ?_⟩, fun b hb => ⟨?_, ?_⟩, fun d' hd' => ?_⟩
  · rw [lo 34 (by omega), gI_n _ _ _ _ (by omega), gI_n _ _ _ _ (by omega), gI_n _ _ _ _ (by omega)]; exact h.2.1.1
  · rw [lo 35 (by omega), gI_n _ _ _ _ (by omega), gI_n _ _ _ _ (by omega), gI_n _ _ _ _ (by omega)]; exact h.2.1.2.1
  · rw [lo 36 (by omega), gI_n _ _ _ _ (by omega), gI_n _ _ _ _ (by omega), gI_n _ _ _ _ (by omega)]; exact h.2.1.2.2
  · have hb2 : bdyZ g b := ⟨hb.1, by have := hb.2; rw [lo 0 (by omega)] at this; exact this⟩
    rw [bu3_lef hw l t v hd.1 hb2, gI_n _ _ _ _ (by omega), gI_n _ _ _ _ (by omega), gI_n _ _ _ _ (by omega)]
    exact (h.2.2.1 b hb2).1
  · have hb2 : bdyZ g b := ⟨hb.1, by have := hb.2; rw [lo 0 (by omega)] at this; exact this⟩
    rw [show exZ (bu3 g d l t v) b = exZ g b from lo _ (by omega), gI_n _ _ _ _ (by omega), gI_n _ _ _ _ (by omega), gI_n _ _ _ _ (by omega)]
    exact (h.2.2.1 b hb2).2
  · have hd2 : dlZ g d' := ⟨hd'.1, by have := hd'.2; rw [lo 34 (by omega)] at this; exact this⟩
    obtain ⟨k0, k1, k2, k3, k4, k5, k6, k7, k8⟩ := h.2.2.2 d' hd2
    have oo := fun w h1 h2 => bu3_oZ g l t v hd.1 hd2.1 (w := w) h1 h2
    unfold LdD
    rw [oo 0 (by omega) (by omega), oo 1 (by omega) (by omega), oo 2 (by omega) (by omega), oo 3 (by omega) (by omega), oo 4 (by omega) (by omega), oo 5 (by omega) (by omega), oo 6 (by omega) (by omega), oo 7 (by omega) (by omega), oo 8 (by omega) (by omega)]
    by_cases hq : d' = d
    · subst hq
      simp (disch := omega) only [gI_n, gI_s, Int.reduceAdd, Int.reduceSub, Int.reduceMul, Int.reduceNeg, Int.reduceLT, Int.reduceLE, Int.reduceToNat, Int.reduceEq, if_true, if_false, true_and, and_true, not_true, not_false_eq_true, false_implies, true_implies, imp_self, and_self]
      exact ⟨k2, k3, k4, k6, k7, k8⟩
    · have hne : ¬ d'.toNat = d.toNat := by omega
      simp (disch := omega) only [gI_n, gI_s, hq, hne, Int.reduceAdd, Int.reduceSub, Int.reduceMul, Int.reduceNeg, Int.reduceLT, Int.reduceLE, Int.reduceToNat, Int.reduceEq, if_true, if_false, true_and, and_true, not_true, not_false_eq_true, false_implies, true_implies, imp_self, and_self]
      exact ⟨k0, k1, k2, k3, k4, k5, k6, k7, k8⟩
theorem LdS_n {s : SM} {c i : Nat} {v : Int32} (h : LdR s L P g) (hc : c < P ∨ (P + 6 < c ∧ (c < L ∨ L + 11 < c))) (hPL : P + 7 ≤ L) : LdR (pI s c i v) L P g := by
  refine ⟨PoR_p h.1 (by omega), ⟨?_, ?_, ?_⟩, fun b hb => ⟨?_, ?_⟩, fun d hd => ?_⟩
  · rw [gI_n _ _ _ _ (by omega)]; exact h.2.1.1
  · rw [gI_n _ _ _ _ (by omega)]; exact h.2.1.2.1
  · rw [gI_n _ _ _ _ (by omega)]; exact h.2.1.2.2
  · rw [gI_n _ _ _ _ (by omega)]; exact (h.2.2.1 b hb).1
  · rw [gI_n _ _ _ _ (by omega)]; exact (h.2.2.1 b hb).2
  · obtain ⟨k0, k1, k2, k3, k4, k5, k6, k7, k8⟩ := h.2.2.2 d hd
    refine ⟨?_, ?_, ?_, ?_, ?_, ?_, ?_, ?_, ?_⟩ <;> rw [gI_n _ _ _ _ (by omega)] <;> assumption
theorem y_tryBury (h : LdR s L P g) (hPL : P + 7 ≤ L) (hw : WF g) {b e : Int} (hb : bdyZ g b) (he : bdyZ g e) : vX4_tryBury s L P (zI b) (zI e) = zI (if b = e ∨ ¬ livZ g b ∨ ¬ livZ g e then 1 else 0) ∧ LdR (mX4_tryBury s L P (zI b) (zI e)) L P (if b = e ∨ ¬ livZ g b ∨ ¬ livZ g e then g else buP g b e (g 34).toNat) ∧ Fr (InL L) s (mX4_tryBury s L P (zI b) (zI e)) ∧ rX4_tryBury s L P (zI b) (zI e) := by
  have h0 := hw.w0
  have hN : ((g 34).toNat : Int) = g 34 := by omega
  by_cases hq : b = e ∨ ¬ livZ g b ∨ ¬ livZ g e
  · have hf : fX4_tryBury s L P (zI b) (zI e) = (1, s) := by
      unfold fX4_tryBury
      simp (disch := omega) only [z_eq, y_lives h.2, bI_0]
      rcases hq with hq | hq | hq
      · rw [if_pos hq]
      · rw [if_pos hq]; split <;> rfl
      · rw [if_pos hq]; split
        · rfl
        · split <;> rfl
    unfold vX4_tryBury mX4_tryBury rX4_tryBury
    rw [hf, if_pos hq, if_pos hq]
    refine ⟨rfl, h, Fr_rf _ s, ?_⟩
    simp (disch := omega) only [z_eq, y_lives h.2, bI_0]
    intro q1 q2 q3
    rcases hq with hq | hq | hq
    · exact absurd hq q1
    · exact absurd hq q2
    · exact absurd hq q3
  · have q1 : ¬ b = e := fun hc => hq (Or.inl hc)
    have q2 : livZ g b := Classical.byContradiction (fun hc => hq (Or.inr (Or.inl hc)))
    have q3 : livZ g e := Classical.byContradiction (fun hc => hq (Or.inr (Or.inr hc)))
    have hdd := ddV_z (g 36) b
    have A0 : LdR (pI s L 14 (gI s L 14 ||| ((1 : Int32) <<< (zI b &&& 31)))) L P (buP g b e 0) := by
      rw [h.2.1.2.2, ← hdd]
      exact LdR_36 h hPL hw _
    have F0 : Fr (InL L) s (pI s L 14 (gI s L 14 ||| ((1 : Int32) <<< (zI b &&& 31)))) := Fr_pI s _ _ ⟨by omega, by omega⟩
    have up := ST_up (B := 1) (g 34).toNat (fun d (a : SM) => LdR a L P (buP g b e d) ∧ Fr (InL L) s a)
      (fun d a n => lX4_tryBury n a L P (zI b) (zI e) (zI (d : Int))) (fun d a n => qX4_tryBury n a L P (zI b) (zI e) (zI (d : Int))) (by
      rintro d t hd ⟨hR, hF⟩
      obtain ⟨b1, b2, b3, b4⟩ := buP_all hw hb he d
      have bN : buP g b e (d + 1) = buS (buP g b e d) b e d := rfl
      have z34 : buP g b e d 34 = g 34 := by rw [b2 34 (by omega)]; rfl
      have hdl' : dlZ (buP g b e d) d := ⟨by omega, by omega⟩
      have hwd := b1.wd hdl'
      have g0 : buP g b e d 0 = g 0 := by rw [b2 0 (by omega)]; rfl
      obtain ⟨f0, f1, f2, f3, f4, f5, f6, f7, f8⟩ := n_f hR.2 b1 hdl'
      obtain ⟨eo, ro⟩ := y_isOpen (P := P) hR.2 b1 (d := d) (by omega)
      have vd := y_vp b1 hdl'
      have e34 : gI t L 9 = zI (g 34) := by rw [hR.2.1.1, z34]
      have hn1 : (g 34 ≤ (d : Int)) = False := eq_false (by omega)
      have hn2 : ((d : Int) < g 34) = True := eq_true (by omega)
      by_cases ho : opZ (buP g b e d) d
      · have hot : opZ (buP g b e d) d = True := eq_true ho
        refine ⟨pI (pI (pI t (L + 1) (zI d).toNatClampNeg (zI (if oZ (buP g b e d) d 0 = b then e else oZ (buP g b e d) d 0))) (L + 2) (zI d).toNatClampNeg (zI (if oZ (buP g b e d) d 1 = b then e else oZ (buP g b e d) d 1))) (L + 6) (zI d).toNatClampNeg (zI (if (if oZ (buP g b e d) d 0 = b then e else oZ (buP g b e d) d 0) = (if oZ (buP g b e d) d 1 = b then e else oZ (buP g b e d) d 1) then 2 else 0)), ⟨?_, ?_⟩, ?_⟩
        · rw [bN, buS, if_pos ho]
          exact LdR_bu3 hR hPL b1 hdl'
        · exact Fr_tr hF (Fr_p (Fr_p (Fr_pI t _ _ ⟨by omega, by omega⟩) ⟨by omega, by omega⟩) ⟨by omega, by omega⟩)
        · refine ST_1 (fun n => ?_)
          rcases tf (oZ (buP g b e d) d 0 = b) with k0 | k0 <;> rcases tf (oZ (buP g b e d) d 1 = b) with k1 | k1 <;>
            simp (disch := omega) only [lX4_tryBury, qX4_tryBury, tX4_tryBury_37, uX4_tryBury_37, e34, zl0, zl1, zl2, z_add, z_le, z_eq, eo, ro, f0, f1, vd, bI_z, hot, k0, k1, gI_n, gI_s, zif, hn1, hn2, forall_eq, eq_self, i_a0, i_s0, i_or0, Int.natCast_succ, Int.sub_sub, Int.add_assoc, Int.add_zero, Int.zero_add, Int.sub_zero, if_true, if_false, true_and, and_true, not_true, not_false_eq_true, false_implies, true_implies, imp_self, and_self]
      · have hot : opZ (buP g b e d) d = False := eq_false ho
        refine ⟨t, ⟨?_, hF⟩, ?_⟩
        · rw [bN, buS, if_neg ho]; exact hR
        · refine ST_1 (fun n => ?_)
          simp (disch := omega) only [lX4_tryBury, qX4_tryBury, tX4_tryBury_37, uX4_tryBury_37, e34, zl0, zl1, zl2, z_add, z_le, z_eq, eo, ro, bI_z, hot, hn1, hn2, forall_eq, i_a0, i_s0, i_or0, Int.natCast_succ, Int.sub_sub, Int.add_assoc, Int.add_zero, Int.zero_add, Int.sub_zero, if_true, if_false, true_and, and_true, not_true, not_false_eq_true, false_implies, true_implies, imp_self, and_self])
    obtain ⟨t, ⟨hR, hF⟩, hst⟩ := up (g 34).toNat 0 _ (by omega) ⟨A0, F0⟩
    obtain ⟨b1, b2, -, -⟩ := buP_all hw hb he (g 34).toNat
    have e34 : gI t L 9 = zI (g 34) := by rw [hR.2.1.1, show buP g b e (g 34).toNat 34 = g 34 from by rw [b2 34 (by omega)]; rfl]
    obtain ⟨E, R⟩ := ST_fu (ST_trans hst (ST_1 (F' := fun _ => ((0 : Int32), t)) (C' := fun _ => True) (fun n => by
      simp (disch := omega) only [lX4_tryBury, qX4_tryBury, tX4_tryBury_37, uX4_tryBury_37, e34, z_le, hN, Int.le_refl, Int.lt_irrefl, if_true, if_false, true_and, and_true, not_true, not_false_eq_true, false_implies, true_implies, imp_self, and_self]))) (by omega)
    have hf : fX4_tryBury s L P (zI b) (zI e) = (0, t) := by
      unfold fX4_tryBury
      simp (disch := omega) only [z_eq, y_lives h.2, bI_0]
      rw [if_neg q1, if_neg (Classical.not_not.mpr q2), if_neg (Classical.not_not.mpr q3)]
      exact E
    unfold vX4_tryBury mX4_tryBury rX4_tryBury
    rw [hf, if_neg hq, if_neg hq]
    exact ⟨rfl, hR, hF, fun _ _ _ => R⟩
theorem y_openFor_l (h : LdR s L P g) (hw : WF g) {b e : Int} (hb : IR b) (he : IR e) : (lX4_openFor FU).1 s L P (zI b) (zI e) 0 (zI 0) = fold (doC g b e) (g 34).toNat 0 ∧ (qX4_openFor FU).1 s L P (zI b) (zI e) 0 (zI 0) := by
  have h0 := hw.w0
  have hN : ((g 34).toNat : Int) = g 34 := by omega
  have hs : ∀ (d : Nat) (a : Int32), d < (g 34).toNat → ST 3 (fun n => (lX4_openFor n).1 s L P (zI b) (zI e) a (zI d)) (fun n => (qX4_openFor n).1 s L P (zI b) (zI e) a (zI d)) (fun n => (lX4_openFor n).1 s L P (zI b) (zI e) (doC g b e d a) (zI ((d + 1 : Nat) : Int))) (fun n => (qX4_openFor n).1 s L P (zI b) (zI e) (doC g b e d a) (zI ((d + 1 : Nat) : Int))) := by
    intro d a hd
    have hdl : dlZ g (d : Int) := by omega
    have hwd := hw.wd hdl
    have hn1 : (g 34 ≤ (d : Int)) = False := eq_false (by omega)
    have hn2 : ((d : Int) < g 34) = True := eq_true (by omega)
    obtain ⟨f0, f1, f2, f3, f4, f5, f6, f7, f8⟩ := n_f h.2 hw hdl
    have c_vp := y_vp hw hdl
    obtain ⟨c_op, cr_op⟩ := y_isOpen (P := P) h.2 hw (d := (d : Int)) (by omega)
    obtain ⟨c_val, cr_val⟩ := y_valueOf h hw hdl
    have eC : ∀ p : Prop, ((opZ g d ∧ ((oZ g d 0 = b ∧ ¬ oZ g d 1 = e) ∨ (oZ g d 1 = b ∧ ¬ oZ g d 0 = e))) ↔ p) → ∀ [Decidable p], doC g b e d a = if p then a + zI 1 else a := by
      intro p hp _
      unfold doC
      by_cases hq : p
      · rw [if_pos (hp.mpr hq), if_pos hq]
      · rw [if_neg (fun hc => hq (hp.mp hc)), if_neg hq]
    rcases tf (oZ g d 0 = b) with k0 | k0 <;> rcases tf (oZ g d 1 = e) with k1 | k1 <;> rcases tf (oZ g d 1 = b) with k2 | k2 <;> rcases tf (oZ g d 0 = e) with k3 | k3
    all_goals first
      | (exfalso; have k0 := eq_iff_iff.mp k0; have k1 := eq_iff_iff.mp k1; have k2 := eq_iff_iff.mp k2; have k3 := eq_iff_iff.mp k3; omega)
      | skip
    all_goals rw [eC _ (by simp only [k0, k1, k2, k3, if_true, if_false, true_and, and_true, not_true, not_false_eq_true, false_implies, true_implies, imp_self, and_self, or_true, true_or, or_false, false_or, and_false, false_and, iff_self]; exact Iff.rfl)]
    all_goals rcases tf (opZ g d) with k4 | k4
    all_goals first
      | (refine ⟨1, by decide, fun n => ?_⟩; dsimp only []; rw [lpX4_openFor_5 (n), qpX4_openFor_5 (n)]; generalize hlK : lX4_openFor (n) = K; generalize hqK : qX4_openFor (n) = Q; simp (disch := omega) only [tX4_openFor_5, uX4_openFor_5, h.2.1.1, zl0, zl1, zl2, zl3, zl4, zl5, zl6, zl7, zl8, zl9, Int.reduceAdd, Int.reduceSub, Int.reduceMul, Int.reduceNeg, Int.reduceLT, Int.reduceLE, Int.reduceToNat, Int.reduceEq, z_add, z_sub, z_mul, z_neg, z_le, z_lt, z_eq, z_in, c_op, cr_op, f0, f1, c_vp, hn1, hn2, bI_F, bI_T, bI_z, bI_o, eq_self, k0, k1, k2, k3, k4, i_a0, i_s0, i_or0, Int.natCast_succ, Int.sub_sub, Int.add_assoc, Int.add_zero, Int.zero_add, Int.sub_zero, if_true, if_false, true_and, and_true, not_true, not_false_eq_true, false_implies, true_implies, imp_self, and_self]; done)
      | (refine ⟨2, by decide, fun n => ?_⟩; dsimp only []; rw [show n + 2 = n + 1 + 1 from rfl]; rw [lpX4_openFor_5 (n + 1), qpX4_openFor_5 (n + 1)]; generalize hlK : lX4_openFor (n + 1) = K; generalize hqK : qX4_openFor (n + 1) = Q; simp (disch := omega) only [tX4_openFor_5, uX4_openFor_5, h.2.1.1, zl0, zl1, zl2, zl3, zl4, zl5, zl6, zl7, zl8, zl9, Int.reduceAdd, Int.reduceSub, Int.reduceMul, Int.reduceNeg, Int.reduceLT, Int.reduceLE, Int.reduceToNat, Int.reduceEq, z_add, z_sub, z_mul, z_neg, z_le, z_lt, z_eq, z_in, c_op, cr_op, f0, f1, c_vp, hn1, hn2, bI_F, bI_T, bI_z, bI_o, eq_self, k0, k1, k2, k3, k4, i_a0, i_s0, i_or0, Int.natCast_succ, Int.sub_sub, Int.add_assoc, Int.add_zero, Int.zero_add, Int.sub_zero, if_true, if_false, true_and, and_true, not_true, not_false_eq_true, false_implies, true_implies, imp_self, and_self]; subst hlK hqK; rw [lpX4_openFor_69 (n), qpX4_openFor_69 (n)]; generalize hlK : lX4_openFor (n) = K; generalize hqK : qX4_openFor (n) = Q; simp (disch := omega) only [tX4_openFor_69, uX4_openFor_69, h.2.1.1, zl0, zl1, zl2, zl3, zl4, zl5, zl6, zl7, zl8, zl9, Int.reduceAdd, Int.reduceSub, Int.reduceMul, Int.reduceNeg, Int.reduceLT, Int.reduceLE, Int.reduceToNat, Int.reduceEq, z_add, z_sub, z_mul, z_neg, z_le, z_lt, z_eq, z_in, c_op, cr_op, f0, f1, c_vp, hn1, hn2, bI_F, bI_T, bI_z, bI_o, eq_self, k0, k1, k2, k3, k4, i_a0, i_s0, i_or0, Int.natCast_succ, Int.sub_sub, Int.add_assoc, Int.add_zero, Int.zero_add, Int.sub_zero, if_true, if_false, true_and, and_true, not_true, not_false_eq_true, false_implies, true_implies, imp_self, and_self]; done)
      | (refine ⟨2, by decide, fun n => ?_⟩; dsimp only []; rw [show n + 2 = n + 1 + 1 from rfl]; rw [lpX4_openFor_5 (n + 1), qpX4_openFor_5 (n + 1)]; generalize hlK : lX4_openFor (n + 1) = K; generalize hqK : qX4_openFor (n + 1) = Q; simp (disch := omega) only [tX4_openFor_5, uX4_openFor_5, h.2.1.1, zl0, zl1, zl2, zl3, zl4, zl5, zl6, zl7, zl8, zl9, Int.reduceAdd, Int.reduceSub, Int.reduceMul, Int.reduceNeg, Int.reduceLT, Int.reduceLE, Int.reduceToNat, Int.reduceEq, z_add, z_sub, z_mul, z_neg, z_le, z_lt, z_eq, z_in, c_op, cr_op, f0, f1, c_vp, hn1, hn2, bI_F, bI_T, bI_z, bI_o, eq_self, k0, k1, k2, k3, k4, i_a0, i_s0, i_or0, Int.natCast_succ, Int.sub_sub, Int.add_assoc, Int.add_zero, Int.zero_add, Int.sub_zero, if_true, if_false, true_and, and_true, not_true, not_false_eq_true, false_implies, true_implies, imp_self, and_self]; subst hlK hqK; rw [lpX4_openFor_40 (n), qpX4_openFor_40 (n)]; generalize hlK : lX4_openFor (n) = K; generalize hqK : qX4_openFor (n) = Q; simp (disch := omega) only [tX4_openFor_40, uX4_openFor_40, h.2.1.1, zl0, zl1, zl2, zl3, zl4, zl5, zl6, zl7, zl8, zl9, Int.reduceAdd, Int.reduceSub, Int.reduceMul, Int.reduceNeg, Int.reduceLT, Int.reduceLE, Int.reduceToNat, Int.reduceEq, z_add, z_sub, z_mul, z_neg, z_le, z_lt, z_eq, z_in, c_op, cr_op, f0, f1, c_vp, hn1, hn2, bI_F, bI_T, bI_z, bI_o, eq_self, k0, k1, k2, k3, k4, i_a0, i_s0, i_or0, Int.natCast_succ, Int.sub_sub, Int.add_assoc, Int.add_zero, Int.zero_add, Int.sub_zero, if_true, if_false, true_and, and_true, not_true, not_false_eq_true, false_implies, true_implies, imp_self, and_self]; done)
      | (refine ⟨3, by decide, fun n => ?_⟩; dsimp only []; rw [show n + 3 = n + 2 + 1 from rfl]; rw [lpX4_openFor_5 (n + 2), qpX4_openFor_5 (n + 2)]; generalize hlK : lX4_openFor (n + 2) = K; generalize hqK : qX4_openFor (n + 2) = Q; simp (disch := omega) only [tX4_openFor_5, uX4_openFor_5, h.2.1.1, zl0, zl1, zl2, zl3, zl4, zl5, zl6, zl7, zl8, zl9, Int.reduceAdd, Int.reduceSub, Int.reduceMul, Int.reduceNeg, Int.reduceLT, Int.reduceLE, Int.reduceToNat, Int.reduceEq, z_add, z_sub, z_mul, z_neg, z_le, z_lt, z_eq, z_in, c_op, cr_op, f0, f1, c_vp, hn1, hn2, bI_F, bI_T, bI_z, bI_o, eq_self, k0, k1, k2, k3, k4, i_a0, i_s0, i_or0, Int.natCast_succ, Int.sub_sub, Int.add_assoc, Int.add_zero, Int.zero_add, Int.sub_zero, if_true, if_false, true_and, and_true, not_true, not_false_eq_true, false_implies, true_implies, imp_self, and_self]; subst hlK hqK; rw [show n + 2 = n + 1 + 1 from rfl]; rw [lpX4_openFor_40 (n + 1), qpX4_openFor_40 (n + 1)]; generalize hlK : lX4_openFor (n + 1) = K; generalize hqK : qX4_openFor (n + 1) = Q; simp (disch := omega) only [tX4_openFor_40, uX4_openFor_40, h.2.1.1, zl0, zl1, zl2, zl3, zl4, zl5, zl6, zl7, zl8, zl9, Int.reduceAdd, Int.reduceSub, Int.reduceMul, Int.reduceNeg, Int.reduceLT, Int.reduceLE, Int.reduceToNat, Int.reduceEq, z_add, z_sub, z_mul, z_neg, z_le, z_lt, z_eq, z_in, c_op, cr_op, f0, f1, c_vp, hn1, hn2, bI_F, bI_T, bI_z, bI_o, eq_self, k0, k1, k2, k3, k4, i_a0, i_s0, i_or0, Int.natCast_succ, Int.sub_sub, Int.add_assoc, Int.add_zero, Int.zero_add, Int.sub_zero, if_true, if_false, true_and, and_true, not_true, not_false_eq_true, false_implies, true_implies, imp_self, and_self]; subst hlK hqK; rw [lpX4_openFor_69 (n), qpX4_openFor_69 (n)]; generalize hlK : lX4_openFor (n) = K; generalize hqK : qX4_openFor (n) = Q; simp (disch := omega) only [tX4_openFor_69, uX4_openFor_69, h.2.1.1, zl0, zl1, zl2, zl3, zl4, zl5, zl6, zl7, zl8, zl9, Int.reduceAdd, Int.reduceSub, Int.reduceMul, Int.reduceNeg, Int.reduceLT, Int.reduceLE, Int.reduceToNat, Int.reduceEq, z_add, z_sub, z_mul, z_neg, z_le, z_lt, z_eq, z_in, c_op, cr_op, f0, f1, c_vp, hn1, hn2, bI_F, bI_T, bI_z, bI_o, eq_self, k0, k1, k2, k3, k4, i_a0, i_s0, i_or0, Int.natCast_succ, Int.sub_sub, Int.add_assoc, Int.add_zero, Int.zero_add, Int.sub_zero, if_true, if_false, true_and, and_true, not_true, not_false_eq_true, false_implies, true_implies, imp_self, and_self]; done)
  obtain ⟨e1, r1⟩ := ST_fu (ST_trans (ST_fold (g 34).toNat (doC g b e) _ _ hs 0) (ST_1 (F' := fun _ => fold (doC g b e) (g 34).toNat 0) (C' := fun _ => True) (fun n => by
    simp (disch := omega) only [↓lpX4_openFor_5, ↓qpX4_openFor_5, tX4_openFor_5, uX4_openFor_5, h.2.1.1, zl0, zl1, z_le, hN, Int.le_refl, Int.lt_irrefl, if_true, if_false, true_and, and_true, not_true, not_false_eq_true, false_implies, true_implies, imp_self, and_self]))) (by omega)
  exact ⟨e1, r1⟩
end
