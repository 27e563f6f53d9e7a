-- needs: 42.qa 43.owed 47.qe 51.fr 52.settle
section
variable {s t : SM} {g : Nat → Int} {L P : Nat}
abbrev InS12 (c : Nat) : Prop := c = 260 ∨ c = 261
theorem smN_s (f : Nat → Int32) (S i : Nat) : fold (smF f S) (i + 1) (zI 0) = smF f S i (fold (smF f S) i (zI 0)) := rfl
theorem x_settled_l (h : RR s g) (hw : WF g) : ∃ t, (lX12_settled FU).1 s (zI 0) (zI 0) = (zI (stlZ g), t) ∧ (qX12_settled FU).1 s (zI 0) (zI 0) ∧ Fr InS12 s t := by
  have h0 := hw.w0
  have hN : ((g 0).toNat : Int) = g 0 := by omega
  have nvn : ∀ t b, RR t g → IR b → vX12_netOf t (zI b) = nvZ g b ∧ rX12_netOf t (zI b) := fun t b ht hb => x_netOf ht hw hb
  have up1 := ST_up (B := 1) (g 0).toNat (fun d (a : SM) => Fr InS12 s a ∧ ∀ i, i < (nlF g d).2 → gI a 261 i = (nlF g d).1 i)
    (fun d a n => (lX12_settled n).1 a (zI ((nlF g d).2 : Int)) (zI (d : Int))) (fun d a n => (qX12_settled n).1 a (zI ((nlF g d).2 : Int)) (zI (d : Int))) (by
    rintro d a hd ⟨hf, hl⟩
    have hR := RR_fr h hf (by omega)
    obtain ⟨e, r⟩ := nvn a d hR (by omega)
    have hb := nlF_b g d
    have n00 : gI a 250 0 = zI (g 0) := hR 0
    have n1 : (g 0 ≤ (d : Int)) = False := eq_false (by omega)
    show ∃ a', (Fr InS12 s a' ∧ ∀ i, i < (nlS g d (nlF g d)).2 → gI a' 261 i = (nlS g d (nlF g d)).1 i) ∧ ST 1 _ _ (fun n => (lX12_settled n).1 a' (zI ((nlS g d (nlF g d)).2 : Int)) (zI ((d + 1 : Nat) : Int))) (fun n => (qX12_settled n).1 a' (zI ((nlS g d (nlF g d)).2 : Int)) (zI ((d + 1 : Nat) : Int)))
    generalize nlF g d = x at *
    unfold nlS
    by_cases hq : nvZ g d = zI 0
    · rw [if_pos hq]
      refine ⟨a, ⟨hf, hl⟩, ?_⟩
      (refine ⟨1, by decide, fun n => ?_⟩; dsimp only []; rw [lpX12_settled_9 (n), qpX12_settled_9 (n)]; generalize hlK : lX12_settled (n) = K; generalize hqK : qX12_settled (n) = Q; simp (disch := omega) only [tX12_settled_9, uX12_settled_9, n00, zl0, zl1, z_add, z_le, z_cl, e, r, n1, Int.natCast_succ, Int.toNat_natCast, Int.reduceAdd, Int.reduceSub, Int.reduceMul, Int.reduceNeg, Int.reduceLT, Int.reduceLE, Int.reduceToNat, Int.reduceEq, if_true, if_false, true_and, and_true, not_true, not_false_eq_true, false_implies, true_implies, imp_self, and_self, and_false, false_and, or_true, true_or, or_false, false_or, ite_self, implies_true, hq]; done)
    · rw [if_neg hq]
      have hqp : (nvZ g d = zI 0) = False := eq_false hq
      refine ⟨pI a 261 x.2 (nvZ g d), ⟨Fr_p hf (Or.inr rfl), fun i hi => ?_⟩, ?_⟩
      · rw [gI_s]
        show (if i = x.2 then nvZ g d else gI a 261 i) = if i = x.2 then nvZ g d else x.1 i
        by_cases hi2 : i = x.2
        · rw [if_pos hi2, if_pos hi2]
        · rw [if_neg hi2, if_neg hi2]; exact hl i (by have : i < x.2 + 1 := hi; omega)
      · have n2 : vp_in (zI (x.2 : Int)) 9 := by rw [z_in (by omega)]; omega
        (refine ⟨1, by decide, fun n => ?_⟩; dsimp only []; rw [lpX12_settled_9 (n), qpX12_settled_9 (n)]; generalize hlK : lX12_settled (n) = K; generalize hqK : qX12_settled (n) = Q; simp (disch := omega) only [tX12_settled_9, uX12_settled_9, n00, zl0, zl1, z_add, z_le, z_cl, e, r, n1, Int.natCast_succ, Int.toNat_natCast, Int.reduceAdd, Int.reduceSub, Int.reduceMul, Int.reduceNeg, Int.reduceLT, Int.reduceLE, Int.reduceToNat, Int.reduceEq, if_true, if_false, true_and, and_true, not_true, not_false_eq_true, false_implies, true_implies, imp_self, and_self, and_false, false_and, or_true, true_or, or_false, false_or, ite_self, implies_true, hqp, n2]; done)
    )
  obtain ⟨a1, ⟨f1, l1⟩, st1⟩ := up1 (g 0).toNat 0 s (by omega) ⟨Fr_rf _ s, fun i hi => by have : i < 0 := hi; omega⟩
  have hnb := nlF_b g (g 0).toNat
  have hstl : stlZ g = (nlF g (g 0).toNat).2 - grN (nlF g (g 0).toNat).1 (nlF g (g 0).toNat).2 (2 ^ (nlF g (g 0).toNat).2 - 1) := rfl
  generalize nlF g (g 0).toNat = X at *
  obtain ⟨f, m⟩ := X
  dsimp only at l1 hstl hnb st1
  have hm9 : m ≤ 9 := by omega
  obtain ⟨hsh, hA1, hA2⟩ := shl9 (n := (m : Int)) (by omega) (by omega)
  rw [Int.toNat_natCast] at hsh hA1 hA2
  simp only [zl1] at hsh
  generalize hAA : 2 ^ m = A at *
  have hR1 := RR_fr h f1 (by omega)
  have n00 : gI a1 250 (zI 0).toNatClampNeg = zI (g 0) := hR1 0
  have st2 : ST 1 (fun n => (lX12_settled n).1 a1 (zI (m : Int)) (zI (g 0))) (fun n => (qX12_settled n).1 a1 (zI (m : Int)) (zI (g 0))) (fun n => (lX12_settled n).2.1 a1 (zI (m : Int)) (zI 0)) (fun n => (qX12_settled n).2.1 a1 (zI (m : Int)) (zI 0)) := by
    (refine ⟨1, by decide, fun n => ?_⟩; dsimp only []; rw [lpX12_settled_9 (n), qpX12_settled_9 (n)]; generalize hlK : lX12_settled (n) = K; generalize hqK : qX12_settled (n) = Q; simp (disch := omega) only [tX12_settled_9, uX12_settled_9, n00, zl0, zl1, z_le, Int.le_refl, Int.reduceAdd, Int.reduceSub, Int.reduceMul, Int.reduceNeg, Int.reduceLT, Int.reduceLE, Int.reduceToNat, Int.reduceEq, if_true, if_false, true_and, and_true, not_true, not_false_eq_true, false_implies, true_implies, imp_self, and_self, and_false, false_and, or_true, true_or, or_false, false_or, ite_self, implies_true]; done)
  have up3 := ST_up (B := 11) A (fun S (a : SM) => Fr InS12 s a ∧ (∀ i, i < m → gI a 261 i = f i) ∧ ∀ S', S' < S → gI a 260 S' = zI (grN f m S'))
    (fun S a n => (lX12_settled n).2.1 a (zI (m : Int)) (zI (S : Int))) (fun S a n => (qX12_settled n).2.1 a (zI (m : Int)) (zI (S : Int))) (by
    rintro S a hd ⟨hf, hl, hS⟩
    have hS5 : S < 512 := by omega
    have vS : vp_in (zI (S : Int)) 512 := by rw [z_in (by omega)]; omega
    have n1 : ((A : Int) ≤ (S : Int)) = False := eq_false (by omega)
    have cS : (zI (S : Int)).toNatClampNeg = S := by rw [z_cl (by omega)]; exact Int.toNat_natCast S
    have t1 : ST 1 (fun n => (lX12_settled n).2.1 a (zI (m : Int)) (zI (S : Int))) (fun n => (qX12_settled n).2.1 a (zI (m : Int)) (zI (S : Int))) (fun n => (lX12_settled n).2.2 a (zI (m : Int)) (zI (S : Int)) (zI 0) (zI 0) (zI 0)) (fun n => (qX12_settled n).2.2 a (zI (m : Int)) (zI (S : Int)) (zI 0) (zI 0) (zI 0)) := by
      (refine ⟨1, by decide, fun n => ?_⟩; dsimp only []; rw [lpX12_settled_50 (n), qpX12_settled_50 (n)]; generalize hlK : lX12_settled (n) = K; generalize hqK : qX12_settled (n) = Q; simp (disch := omega) only [tX12_settled_50, uX12_settled_50, hsh, zl0, zl1, zl512, z_le, n1, Int.reduceAdd, Int.reduceSub, Int.reduceMul, Int.reduceNeg, Int.reduceLT, Int.reduceLE, Int.reduceToNat, Int.reduceEq, if_true, if_false, true_and, and_true, not_true, not_false_eq_true, false_implies, true_implies, imp_self, and_self, and_false, false_and, or_true, true_or, or_false, false_or, ite_self, implies_true]; done)
    have it4 := ST_it0 (B := 1) m (fun i n => (lX12_settled n).2.2 a (zI (m : Int)) (zI (S : Int)) (fold (smF f S) i (zI 0)) (zI (mxN f m S i)) (zI (i : Int))) (fun i n => (qX12_settled n).2.2 a (zI (m : Int)) (zI (S : Int)) (fold (smF f S) i (zI 0)) (zI (mxN f m S i)) (zI (i : Int))) (by
      intro i hi
      have hb := hasZ_n (x := (S : Int)) (b := (i : Int)) (by omega) (by omega) (by omega) (by omega)
      rw [Int.toNat_natCast, Int.toNat_natCast] at hb
      have n3 : ((m : Int) ≤ (i : Int)) = False := eq_false (by omega)
      have hmx0 : mxN f m S (i + 1) = (if S.testBit i = true then mxI (mxN f m S i) (grN f m (S ^^^ 2 ^ i)) else mxN f m S i) := rfl
      rw [smN_s, hmx0]
      generalize fold (smF f S) i (zI 0) = y
      unfold smF
      by_cases hbit : S.testBit i = true
      · have k1 : hasZ S i = True := eq_true (hb.mpr hbit)
        rw [if_pos hbit, if_pos hbit]
        obtain ⟨-, zx2⟩ := z_x_all S (List.mem_range.mpr hS5) i (List.mem_range.mpr (by omega))
        obtain ⟨zx3, zx4⟩ := zx2 hbit
        have zc := z_clr hS5 (show i < 9 by omega)
        rw [zx3] at zc
        simp only [zl1, z_neg] at zc
        generalize hrr : S ^^^ 2 ^ i = R at *
        have hR := hS R zx4
        have vR : vp_in (zI (R : Int)) 512 := by rw [z_in (by omega)]; omega
        have vi : vp_in (zI (i : Int)) 9 := by rw [z_in (by omega)]; omega
        have cR : (zI (R : Int)).toNatClampNeg = R := by rw [z_cl (by omega)]; exact Int.toNat_natCast R
        have ci : (zI (i : Int)).toNatClampNeg = i := by rw [z_cl (by omega)]; exact Int.toNat_natCast i
        have hli := hl i hi
        have hmb := mxN_b f m S i hm9 hS5 (by omega)
        have hgb := grN_b f m hm9 R (by omega)
        have hmxI : mxI (mxN f m S i) (grN f m R) = if grN f m R ≤ mxN f m S i then mxN f m S i else grN f m R := by
          unfold mxI; split <;> split <;> omega
        rw [hmxI]
        rcases tf (grN f m R ≤ mxN f m S i) with k2 | k2
        all_goals
          (refine ⟨1, by decide, fun n => ?_⟩; dsimp only []; rw [lpX12_settled_65 (n), qpX12_settled_65 (n)]; generalize hlK : lX12_settled (n) = K; generalize hqK : qX12_settled (n) = Q; simp (disch := omega) only [tX12_settled_65, uX12_settled_65, zl0, zl1, z_neg, z_add, z_le, z_lt, z_eq, x_has, n3, k1, k2, zc, cR, ci, cS, vR, vi, vS, hR, hli, bI_T, bI_F, bI_z, Int.natCast_succ, Int.reduceAdd, Int.reduceSub, Int.reduceMul, Int.reduceNeg, Int.reduceLT, Int.reduceLE, Int.reduceToNat, Int.reduceEq, if_true, if_false, true_and, and_true, not_true, not_false_eq_true, false_implies, true_implies, imp_self, and_self, and_false, false_and, or_true, true_or, or_false, false_or, ite_self, implies_true]; done)
      · have k1 : hasZ S i = False := eq_false (fun hc => hbit (hb.mp hc))
        rw [if_neg hbit, if_neg hbit]
        (refine ⟨1, by decide, fun n => ?_⟩; dsimp only []; rw [lpX12_settled_65 (n), qpX12_settled_65 (n)]; generalize hlK : lX12_settled (n) = K; generalize hqK : qX12_settled (n) = Q; simp (disch := omega) only [tX12_settled_65, uX12_settled_65, zl0, zl1, z_add, z_le, z_lt, z_eq, x_has, n3, k1, bI_T, bI_F, bI_z, Int.natCast_succ, Int.reduceAdd, Int.reduceSub, Int.reduceMul, Int.reduceNeg, Int.reduceLT, Int.reduceLE, Int.reduceToNat, Int.reduceEq, if_true, if_false, true_and, and_true, not_true, not_false_eq_true, false_implies, true_implies, imp_self, and_self, and_false, false_and, or_true, true_or, or_false, false_or, ite_self, implies_true]; done)
      )
    have hmb := mxN_b f m S m hm9 hS5 hm9
    refine ⟨pI a 260 S (zI (grN f m S)), ⟨Fr_p hf (Or.inl rfl), fun j hj => by rw [gI_n _ _ _ _ (by omega)]; exact hl j hj, fun S' hS' => ?_⟩, ?_⟩
    · rw [gI_s]
      by_cases hq : S' = S
      · rw [if_pos hq, hq]
      · rw [if_neg hq]; exact hS S' (by omega)
    · refine ST_mono (ST_trans t1 (ST_trans it4 (B2 := 1) ?_)) (by omega)
      have hsm : fold (smF f S) m (zI 0) = smN f m S := rfl
      rw [hsm]
      by_cases hS0 : S = 0
      · have hg0 : grN f m S = mxN f m S m := by
          subst hS0
          rw [grN_0]
          have : ∀ i, (0 : Int) = mxN f m 0 i := by
            intro i
            induction i with
            | zero => rfl
            | succ i ih => show _ = (if (0 : Nat).testBit i = true then mxI (mxN f m 0 i) (grN f m (0 ^^^ 2 ^ i)) else mxN f m 0 i); rw [Nat.zero_testBit, if_neg (by decide)]; exact ih
          exact this m
        rw [hg0]
        have hS0p : ((S : Int) = 0) = True := eq_true (by omega)
        (refine ⟨1, by decide, fun n => ?_⟩; dsimp only []; rw [lpX12_settled_65 (n), qpX12_settled_65 (n)]; generalize hlK : lX12_settled (n) = K; generalize hqK : qX12_settled (n) = Q; simp (disch := omega) only [tX12_settled_65, uX12_settled_65, zl0, zl1, z_add, z_le, z_eq, Int.le_refl, cS, vS, hS0p, Int.natCast_succ, Int.reduceAdd, Int.reduceSub, Int.reduceMul, Int.reduceNeg, Int.reduceLT, Int.reduceLE, Int.reduceToNat, Int.reduceEq, if_true, if_false, true_and, and_true, not_true, not_false_eq_true, false_implies, true_implies, imp_self, and_self, and_false, false_and, or_true, true_or, or_false, false_or, ite_self, implies_true, Int.add_zero]; done)
      · have hS0p : ((S : Int) = 0) = False := eq_false (by omega)
        rw [grN_s f m S hm9 hS5 hS0]
        rcases tf (smN f m S = zI 0) with k2 | k2
        all_goals
          (refine ⟨1, by decide, fun n => ?_⟩; dsimp only []; rw [lpX12_settled_65 (n), qpX12_settled_65 (n)]; generalize hlK : lX12_settled (n) = K; generalize hqK : qX12_settled (n) = Q; simp (disch := omega) only [tX12_settled_65, uX12_settled_65, zl0, zl1, z_add, z_le, z_eq, Int.le_refl, cS, vS, hS0p, k2, Int.natCast_succ, Int.reduceAdd, Int.reduceSub, Int.reduceMul, Int.reduceNeg, Int.reduceLT, Int.reduceLE, Int.reduceToNat, Int.reduceEq, if_true, if_false, true_and, and_true, not_true, not_false_eq_true, false_implies, true_implies, imp_self, and_self, and_false, false_and, or_true, true_or, or_false, false_or, ite_self, implies_true, Int.add_zero]; done)
    )
  obtain ⟨a2, ⟨f2, l2, S2⟩, st3⟩ := up3 A 0 a1 (by omega) ⟨f1, l1, fun S hS => by omega⟩
  have hG := S2 (A - 1) (by omega)
  simp only [hN] at st1
  have st4 : ST 1 (fun n => (lX12_settled n).2.1 a2 (zI (m : Int)) (zI (A : Int))) (fun n => (qX12_settled n).2.1 a2 (zI (m : Int)) (zI (A : Int))) (fun _ => (zI (stlZ g), a2)) (fun _ => True) := by
    have n3 : (zI ((A : Int) - 1)).toNatClampNeg = A - 1 := by rw [z_cl (by omega)]; omega
    have v3 : vp_in (zI ((A : Int) - 1)) 512 := by rw [z_in (by omega)]; omega
    (refine ⟨1, by decide, fun n => ?_⟩; dsimp only []; rw [lpX12_settled_50 (n), qpX12_settled_50 (n)]; generalize hlK : lX12_settled (n) = K; generalize hqK : qX12_settled (n) = Q; simp (disch := omega) only [tX12_settled_50, uX12_settled_50, hsh, zl0, zl1, zl512, z_sub, z_le, Int.le_refl, hG, n3, v3, hstl, hAA, Int.reduceAdd, Int.reduceSub, Int.reduceMul, Int.reduceNeg, Int.reduceLT, Int.reduceLE, Int.reduceToNat, Int.reduceEq, if_true, if_false, true_and, and_true, not_true, not_false_eq_true, false_implies, true_implies, imp_self, and_self, and_false, false_and, or_true, true_or, or_false, false_or, ite_self, implies_true]; done)
  obtain ⟨E, Rr⟩ := ST_fu (ST_trans st1 (ST_trans st2 (ST_trans st3 st4))) (by omega)
  exact ⟨a2, E, Rr, f2⟩
theorem x_settled (h : RR s g) (hw : WF g) : vX12_settled s = zI (stlZ g) ∧ rX12_settled s ∧ Fr (fun c => c = 248 ∨ c = 260 ∨ c = 261) s (mX12_settled s) ∧ ∃ u, Fr InS12 (Th s) u ∧ mX12_settled s = u := by
  obtain ⟨t, e, r, f⟩ := x_settled_l (Th_R h) hw
  have e' : (lX12_settled FU).1 (pI s 248 0 (0)) 0 0 = (zI (stlZ g), t) := e
  unfold vX12_settled rX12_settled mX12_settled fX12_settled
  rw [e']
  exact ⟨rfl, r, Fr_tr (Fr_pI s 0 _ (Or.inl rfl)) (Fr_mo f (fun c hc => Or.inr hc)), t, f, rfl⟩
end
