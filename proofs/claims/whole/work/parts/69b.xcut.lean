-- needs: 42.qa 51.fr 54.copy 55.hist 56.hist 60.rg 61.xrg 62.best 69a.cutz
section
variable {s : SM} {g : Nat → Int}
theorem x_cutside (h : RR s g) (hw : WF g) {d w : Int} (hd : dlZ g d) (hs : w = 0 ∨ w = 1) (hb : bdyZ g (oZ g d (6 + w))) (m k : Int32) : ∃ s', RR s' (un1 g d w) ∧ Fr (fun c => c = 250) s s' ∧ ST 2 (fun n => (lX12_cuts n).2.1 s m k (zI d) (zI w)) (fun n => (qX12_cuts n).2.1 s m k (zI d) (zI w)) (fun n => (lX12_cuts n).2.1 s' m k (zI d) (zI (w + 1))) (fun n => (qX12_cuts n).2.1 s' m k (zI d) (zI (w + 1))) := by
  have h0 := hw.w0
  have o6 := x_of h (d := d) (w := 6 + w) (by omega) (by omega)
  have p6 := x_of_r s (d := d) (w := 6 + w) (by omega) (by omega)
  have il := x_isLiving h (oZ g d (6 + w))
  obtain ⟨ed, rd⟩ := x_dotOf h hw hd
  have n2 : ((2 : Int) ≤ w) = False := eq_false (by omega)
  have e6 : (6 : Int32) + zI w = zI (6 + w) := by rw [show (6 : Int32) = zI 6 from rfl, z_add]
  have v37 : vp_in ((37 : Int32) + zI (oZ g d (6 + w))) 787 := by rw [show (37 : Int32) = zI 37 from rfl, z_add, z_in (by omega)]; omega
  have step : ∃ s1, RR s1 (exA g (oZ g d (6 + w)) (dtZ g d)) ∧ Fr (fun c => c = 250) s s1 ∧ ST 1 (fun n => (lX12_cuts n).2.1 s m k (zI d) (zI w)) (fun n => (qX12_cuts n).2.1 s m k (zI d) (zI w)) (fun n => (lX12_cuts n).2.2 s1 m k (zI d) (zI w) (zI (oZ g d (6 + w)))) (fun n => (qX12_cuts n).2.2 s1 m k (zI d) (zI w) (zI (oZ g d (6 + w)))) := by
    by_cases hl : livZ g (oZ g d (6 + w))
    · have hlT : livZ g (oZ g d (6 + w)) = True := eq_true hl
      obtain ⟨s1, hs1⟩ : ∃ s1, s1 = pI s 250 ((37 : Int32) + zI (oZ g d (6 + w))).toNatClampNeg (gI s 250 ((37 : Int32) + zI (oZ g d (6 + w))).toNatClampNeg + zI (dtZ g d)) := ⟨_, rfl⟩
      have r1 : RR s1 (exA g (oZ g d (6 + w)) (dtZ g d)) := by unfold exA; rw [if_pos hl, hs1]; exact RR_ex h hb.1 (by omega)
      refine ⟨s1, r1, by rw [hs1]; exact Fr_pI s _ _ rfl, ST_1 fun n => ?_⟩
      rw [lpX12_cuts_66, qpX12_cuts_66]
      generalize hlK : lX12_cuts n = K
      generalize hqK : qX12_cuts n = Q
      simp (disch := omega) only [tX12_cuts_66, uX12_cuts_66, e6, o6, p6, il, hlT, bI_T, ed, rd, v37, ← hs1, zl0, zl1, zl2, z_le, z_eq, n2, forall_eq, Int.reduceAdd, Int.reduceSub, Int.reduceMul, Int.reduceNeg, Int.reduceLT, Int.reduceLE, Int.reduceToNat, Int.reduceEq, if_true, if_false, true_and, and_true, not_true, not_false_eq_true, false_implies, true_implies, imp_self, and_self, and_false, false_and, or_true, true_or, or_false, false_or, ite_self, implies_true]
    · have hlF : livZ g (oZ g d (6 + w)) = False := eq_false hl
      refine ⟨s, by unfold exA; rw [if_neg hl]; exact h, Fr_rf _ s, ST_1 fun n => ?_⟩
      rw [lpX12_cuts_66, qpX12_cuts_66]
      generalize hlK : lX12_cuts n = K
      generalize hqK : qX12_cuts n = Q
      simp (disch := omega) only [tX12_cuts_66, uX12_cuts_66, e6, o6, p6, il, hlF, bI_F, zl0, zl1, zl2, z_le, z_eq, n2, Int.reduceAdd, Int.reduceSub, Int.reduceMul, Int.reduceNeg, Int.reduceLT, Int.reduceLE, Int.reduceToNat, Int.reduceEq, if_true, if_false, true_and, and_true, not_true, not_false_eq_true, false_implies, true_implies, imp_self, and_self, and_false, false_and, or_true, true_or, or_false, false_or, ite_self, implies_true]
  obtain ⟨s1, r1, f1, st1⟩ := step
  obtain ⟨r2, f2, q2⟩ := x_set r1 (d := d) (w := 6 + w) (v := -1) (by omega) (by omega)
  refine ⟨_, r2, Fr_tr f1 f2, ST_trans st1 (ST_1 fun n => ?_)⟩
  rw [lpX12_cuts_111, qpX12_cuts_111]
  generalize hlK : lX12_cuts n = K
  generalize hqK : qX12_cuts n = Q
  have e1 : (-1 : Int32) = zI (-1) := rfl
  simp (disch := omega) only [tX12_cuts_111, uX12_cuts_111, e6, zl1, z_neg, z_add, q2, if_true, if_false, true_and, and_true, not_true, not_false_eq_true, false_implies, true_implies, imp_self, and_self, and_false, false_and, or_true, true_or, or_false, false_or, ite_self, implies_true]
theorem x_cut1 (h : RR s g) (hw : WF g) {d : Nat} {m : Int} (ho : opZ g d) (hm : 0 ≤ m ∧ m ≤ oZ g d 2) {k : Nat} (hk : k < 5) {n5 : Nat} (hkn : k < n5) (hn : n5 ≤ 5) (h29 : gI s 248 29 = zI (n5 : Int)) (h257 : gI s 257 k = zI (d : Int)) : ∃ s', RR s' (leD g m d) ∧ Fr (fun c => c = 250) s s' ∧ ST 6 (fun n => (lX12_cuts n).1 s (zI m) (zI (k : Int))) (fun n => (qX12_cuts n).1 s (zI m) (zI (k : Int))) (fun n => (lX12_cuts n).1 s' (zI m) (zI ((k + 1 : Nat) : Int))) (fun n => (qX12_cuts n).1 s' (zI m) (zI ((k + 1 : Nat) : Int))) := by
  have h0 := hw.w0
  have hwd := hw.wd ho.1
  have ck : (zI (k : Int)).toNatClampNeg = k := by rw [z_cl (by omega)]; exact Int.toNat_natCast _
  have vk : vp_in (zI (k : Int)) 5 := by rw [z_in (by omega)]; omega
  have n1 : ((n5 : Int) ≤ (k : Int)) = False := eq_false (by omega)
  have o2 := x_of h (d := (d : Int)) (w := 2) (by omega) (by omega)
  have p2 := x_of_r s (d := (d : Int)) (w := 2) (by omega) (by omega)
  obtain ⟨r1, f1, q1⟩ := x_set h (d := (d : Int)) (w := 2) (v := oZ g d 2 - m) (by omega) (by omega)
  have h2 : oZ (stD g d 2 (oZ g d 2 - m)) d 2 = oZ g d 2 - m := by rw [oZ_st _ _ ho.1.1 (by omega) (by omega) ho.1.1 (by omega) (by omega), if_pos ⟨rfl, rfl⟩]
  obtain ⟨s1, hs1⟩ : ∃ s1, s1 = mX12_set s (zI (d : Int)) (zI 2) (zI (oZ g d 2 - m)) := ⟨_, rfl⟩
  rw [← hs1] at r1 f1
  have o3 := x_of r1 (d := (d : Int)) (w := 2) (by omega) (by omega)
  have p3 := x_of_r s1 (d := (d : Int)) (w := 2) (by omega) (by omega)
  rw [h2] at o3
  unfold leD
  by_cases hq : oZ g d 2 - m = 0
  · rw [if_pos hq]
    have nq : (oZ g d 2 - m ≤ 0) = True := eq_true (by omega)
    obtain ⟨r2, f2, q2⟩ := x_set r1 (d := (d : Int)) (w := 5) (v := 2) (by omega) (by omega)
    obtain ⟨s2, hs2⟩ : ∃ s2, s2 = mX12_set s1 (zI (d : Int)) (zI 5) (zI 2) := ⟨_, rfl⟩
    rw [← hs2] at r2 f2
    have ecl : stD (stD g d 2 (oZ g d 2 - m)) d 5 2 = cl0 g d := by rw [hq]; rfl
    rw [ecl] at r2
    obtain ⟨w0, d0, b0, h5, w1, d1, b1, h51, -⟩ := clZ_s hw ho
    obtain ⟨s3, r3, f3, st3⟩ := x_cutside r2 w0 d0 (Or.inl rfl) b0 (zI m) (zI (k : Int))
    obtain ⟨s4, r4, f4, st4⟩ := x_cutside r3 w1 d1 (Or.inr rfl) b1 (zI m) (zI (k : Int))
    refine ⟨s4, r4, Fr_tr f1 (Fr_tr f2 (Fr_tr f3 f4)), ST_mono (ST_trans (B1 := 1) (ST_1 fun n => ?_) (ST_trans st3 (ST_trans st4 (B2 := 1) (ST_1 fun n => ?_)))) (by omega)⟩
    · rw [lpX12_cuts_15, qpX12_cuts_15]
      generalize hlK : lX12_cuts n = K
      generalize hqK : qX12_cuts n = Q
      simp (disch := omega) only [tX12_cuts_15, uX12_cuts_15, h29, ck, vk, h257, zl0, zl1, zl2, zl5, z_sub, z_le, n1, o2, p2, q1, ← hs1, o3, p3, nq, q2, ← hs2, forall_eq, Int.reduceAdd, Int.reduceSub, Int.reduceMul, Int.reduceNeg, Int.reduceLT, Int.reduceLE, Int.reduceToNat, Int.reduceEq, if_true, if_false, true_and, and_true, not_true, not_false_eq_true, false_implies, true_implies, imp_self, and_self, and_false, false_and, or_true, true_or, or_false, false_or, ite_self, implies_true]
    · rw [lpX12_cuts_66, qpX12_cuts_66]
      generalize hlK : lX12_cuts n = K
      generalize hqK : qX12_cuts n = Q
      have n2 : ((2 : Int) ≤ 1 + 1) = True := eq_true (by decide)
      simp (disch := omega) only [tX12_cuts_66, uX12_cuts_66, zl0, zl1, zl2, z_le, z_add, n2, Int.natCast_succ, not_true, false_implies, if_true, if_false, true_and, and_true, not_true, not_false_eq_true, false_implies, true_implies, imp_self, and_self, and_false, false_and, or_true, true_or, or_false, false_or, ite_self, implies_true]
  · rw [if_neg hq]
    have nq : (oZ g d 2 - m ≤ 0) = False := eq_false (by omega)
    refine ⟨s1, r1, f1, ST_mono (B1 := 1) (ST_1 fun n => ?_) (by omega)⟩
    rw [lpX12_cuts_15, qpX12_cuts_15]
    generalize hlK : lX12_cuts n = K
    generalize hqK : qX12_cuts n = Q
    simp (disch := omega) only [tX12_cuts_15, uX12_cuts_15, h29, ck, vk, h257, zl0, zl1, zl2, zl5, z_add, z_sub, z_le, n1, o2, p2, q1, ← hs1, o3, p3, nq, Int.natCast_succ, forall_eq, Int.reduceAdd, Int.reduceSub, Int.reduceMul, Int.reduceNeg, Int.reduceLT, Int.reduceLE, Int.reduceToNat, Int.reduceEq, if_true, if_false, true_and, and_true, not_true, not_false_eq_true, false_implies, true_implies, imp_self, and_self, and_false, false_and, or_true, true_or, or_false, false_or, ite_self, implies_true]
theorem x_cuts (h : RR s g) (hw : WF g) {cn : Prop} {q : List Nat} (hq : RGs g cn q) (h29 : gI s 248 29 = zI (q.length : Int)) (hP : MPx 257 s q) : ∃ s', mX12_cuts s = s' ∧ vX12_cuts s = zI (mnR g q) ∧ rX12_cuts s ∧ Fr (fun c => c = 250) s s' ∧ RR s' (cutF g (mnR g q) q) := by
  have h0 := hw.w0
  have l := hq.2.1
  have hv := hq.1
  have hne : q ≠ [] := fun he => by rw [he] at l; exact absurd l.1 (by decide)
  have hmb := mn_b hw hv hne
  have hml := mn_le g q
  obtain ⟨el, rl⟩ := x_leastOf h hw hP (fun y hy => (vpa_ok hv y hy).1.1) l.2
  have up := ST_up (B := 6) q.length (fun k (a : SM) => Fr (fun c => c = 250) s a ∧ RR a (cutF g (mnR g q) (ini q k))) (fun k a n => (lX12_cuts n).1 a (zI (mnR g q)) (zI (k : Int))) (fun k a n => (qX12_cuts n).1 a (zI (mnR g q)) (zI (k : Int))) (by
    rintro k a hk ⟨f1, r1⟩
    obtain ⟨w, w1, w2, w3, -⟩ := MPx_k hP k hk
    have hvi : vpa g (w :: ini q k) := by
      rw [← w3]
      have e : q = q.take (q.length - (k + 1)) ++ ini q (k + 1) := (List.take_append_drop _ q).symm
      rw [e] at hv
      exact vpa_app hv
    have hmem : ∀ y ∈ w :: ini q k, mnR g q ≤ oZ g y 2 := fun y hy => hml y (by rw [← w3] at hy; exact List.mem_of_mem_drop hy)
    obtain ⟨c1, c2, c3⟩ := cutF_nx hw hmb.1 hvi hmem
    obtain ⟨s', r', f', st'⟩ := x_cut1 r1 c1 c2 ⟨hmb.1, c3⟩ (k := k) (by omega) hk l.2 (by rw [f1.1 248 (by omega)]; exact h29) (by rw [f1.1 257 (by omega)]; exact w2)
    exact ⟨s', ⟨Fr_tr f1 f', by rw [w3]; exact r'⟩, st'⟩)
  obtain ⟨s', ⟨f1, r1⟩, st⟩ := up q.length 0 s (by omega) ⟨Fr_rf _ s, by rw [ini_0]; exact h⟩
  rw [ini_n] at r1
  obtain ⟨E, R⟩ := ST_fu (ST_trans st (ST_1 (F' := fun _ => (zI (mnR g q), s')) (C' := fun _ => True) (fun n => by
    have e29 : gI s' 248 29 = zI (q.length : Int) := by rw [f1.1 248 (by omega)]; exact h29
    rw [lpX12_cuts_15, qpX12_cuts_15]
    generalize hlK : lX12_cuts n = K
    generalize hqK : qX12_cuts n = Q
    simp (disch := omega) only [tX12_cuts_15, uX12_cuts_15, e29, Int32.le_refl, not_true, false_implies, if_true, if_false, true_and, and_true, not_true, not_false_eq_true, false_implies, true_implies, imp_self, and_self, and_false, false_and, or_true, true_or, or_false, false_or, ite_self, implies_true]))) (by omega)
  have E' : fX12_cuts s = (zI (mnR g q), s') := by unfold fX12_cuts; rw [h29, el]; exact E
  exact ⟨s', by unfold mX12_cuts; rw [E'], by unfold vX12_cuts; rw [E'], by unfold rX12_cuts; rw [h29, el]; exact ⟨rl, R⟩, f1, r1⟩
end
