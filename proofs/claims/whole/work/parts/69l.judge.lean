-- needs: 69k.judge
section
variable {s : SM} {g : Nat → Int} {L P : Nat}
theorem y_lol (h : LdR s L P g) (hw : WF g) : vX4_leftOfLiving s L P = fold (stLL g) (g 0).toNat (zI 0) ∧ rX4_leftOfLiving s L P := by
  have h0 := hw.w0
  have p6 : gI s P 6 = zI (g 0) := h.1.1.1
  have hN : ((g 0).toNat : Int) = g 0 := by omega
  have hs : ∀ (b : Nat) (a : Int32), b < (g 0).toNat → ST 1 (fun n => lX4_leftOfLiving n s L P a (zI (b : Int))) (fun n => qX4_leftOfLiving n s L P a (zI (b : Int))) (fun n => lX4_leftOfLiving n s L P (stLL g b a) (zI ((b + 1 : Nat) : Int))) (fun n => qX4_leftOfLiving n s L P (stLL g b a) (zI ((b + 1 : Nat) : Int))) := by
    intro b a hb
    have hbd : bdyZ g (b : Int) := by omega
    have k1 := (h.2.2.1 _ hbd).1
    have ev := y_lives (P := P) h.2 (b : Int)
    have cb : (zI (b : Int)).toNatClampNeg = b := by rw [z_cl (by omega)]; exact Int.toNat_natCast _
    have vb : vp_in (zI (b : Int)) 9 := by rw [z_in (by omega)]; omega
    have n1 : (g 0 ≤ (b : Int)) = False := eq_false (by omega)
    rw [Int.toNat_natCast] at k1
    refine ST_1 fun n => ?_
    unfold stLL
    rcases tf (livZ g (b : Int)) with k2 | k2 <;>
      simp (disch := omega) only [lX4_leftOfLiving, qX4_leftOfLiving, tX4_leftOfLiving_4, uX4_leftOfLiving_4, p6, zl0, zl1, z_le, z_add, n1, ev, k2, bI_T, bI_F, bI_z, cb, vb, k1, z_eq, Int.natCast_succ, Int.reduceAdd, Int.reduceSub, Int.reduceMul, Int.reduceNeg, Int.reduceLT, Int.reduceLE, Int.reduceToNat, Int.reduceEq, i_a0, i_s0, i_or0, Int.natCast_succ, Int.sub_sub, Int.add_assoc, Int.add_zero, Int.zero_add, Int.sub_zero, if_true, if_false, true_and, and_true, not_true, not_false_eq_true, false_implies, true_implies, imp_self, and_self, and_false, false_and, or_true, true_or, or_false, false_or, ite_self, implies_true]
  obtain ⟨E, R⟩ := ST_fu (ST_trans (ST_fold (g 0).toNat (stLL g) _ _ hs (zI 0)) (ST_1 (F' := fun _ => fold (stLL g) (g 0).toNat (zI 0)) (C' := fun _ => True) (fun n => by
    simp (disch := omega) only [lX4_leftOfLiving, qX4_leftOfLiving, tX4_leftOfLiving_4, uX4_leftOfLiving_4, p6, hN, Int32.le_refl, not_true, false_implies, if_true, if_false, true_and, and_true, not_true, not_false_eq_true, false_implies, true_implies, imp_self, and_self, and_false, false_and, or_true, true_or, or_false, false_or, ite_self, implies_true]))) (by omega)
  exact ⟨E, R⟩
theorem x_left (h : RR s g) (hw : WF g) (h3 : gI s 263 3 = zI 0) (a1 a2 : Int32) : ∃ t, Fp (fun c i => c = 263 ∧ i = 3) s t ∧ gI t 263 3 = fold (stLL g) (g 0).toNat (zI 0) ∧ ST (g 0).toNat (fun n => (lX12_judge n).2.2.2 s a1 a2 (zI 0)) (fun n => (qX12_judge n).2.2.2 s a1 a2 (zI 0)) (fun n => (lX12_judge n).2.2.2 t a1 a2 (zI (g 0))) (fun n => (qX12_judge n).2.2.2 t a1 a2 (zI (g 0))) := by
  have h0 := hw.w0
  have hN : ((g 0).toNat : Int) = g 0 := by omega
  have c3 : (3 : Int32).toNatClampNeg = 3 := rfl
  have c0 : (0 : Int32).toNatClampNeg = 0 := rfl
  have up := ST_up (B := 1) (g 0).toNat (fun b (t : SM) => Fp (fun c i => c = 263 ∧ i = 3) s t ∧ gI t 263 3 = fold (stLL g) b (zI 0)) (fun b t n => (lX12_judge n).2.2.2 t a1 a2 (zI (b : Int))) (fun b t n => (qX12_judge n).2.2.2 t a1 a2 (zI (b : Int))) (by
    rintro b t hb ⟨f1, f2⟩
    have hbd : bdyZ g (b : Int) := by omega
    have ht : RR t g := RR_fp h f1 (fun i => by omega)
    have ev := x_isLiving ht (b : Int)
    obtain ⟨el, rl⟩ := x_leftOf ht hw hbd
    have g0 : gI t 250 0 = zI (g 0) := ht 0
    have n1 : ¬ zI (g 0) ≤ zI (b : Int) := by rw [z_le (by omega) (by omega)]; omega
    have eb : zI (b : Int) + 1 = zI ((b + 1 : Nat) : Int) := by rw [zl1, z_add]; rfl
    by_cases hl : livZ g (b : Int)
    · have n0 : ¬ bI (livZ g (b : Int)) = 0 := by rw [bI_0]; exact not_not_intro hl
      have e1 : fold (stLL g) (b + 1) (zI 0) = fold (stLL g) b (zI 0) + zI (lefZ g b) := by show stLL g b _ = _; unfold stLL; rw [if_pos hl]
      refine ⟨pI t 263 3 (fold (stLL g) b (zI 0) + zI (lefZ g b)), ⟨Fp_tr f1 (Fp_p t ⟨rfl, rfl⟩), by rw [gI_s, if_pos rfl, e1]⟩, ST_1 fun n => ?_⟩
      rw [lpX12_judge_120, qpX12_judge_120]
      unfold tX12_judge_120 uX12_judge_120
      rw [c0, c3, g0, if_neg n1, ev, if_neg n0, el, f2, eb]
      exact ⟨rfl, fun hh => ⟨fun hc => absurd hc n1, fun _ => ⟨fun hc => absurd hc n0, fun _ => ⟨rl, hh⟩⟩⟩⟩
    · have n0 : bI (livZ g (b : Int)) = 0 := by rw [bI_0]; exact hl
      have e1 : fold (stLL g) (b + 1) (zI 0) = fold (stLL g) b (zI 0) := by show stLL g b _ = _; unfold stLL; rw [if_neg hl]
      refine ⟨pI t 263 3 (fold (stLL g) b (zI 0)), ⟨Fp_tr f1 (Fp_p t ⟨rfl, rfl⟩), by rw [gI_s, if_pos rfl, e1]⟩, ST_1 fun n => ?_⟩
      rw [lpX12_judge_120, qpX12_judge_120]
      unfold tX12_judge_120 uX12_judge_120
      have ea : fold (stLL g) b (zI 0) + 0 = fold (stLL g) b (zI 0) := i_a0 _
      rw [c0, c3, g0, if_neg n1, ev, if_pos n0, f2, ea, eb]
      exact ⟨rfl, fun hh => ⟨fun hc => absurd hc n1, fun _ => ⟨fun _ => hh, fun hc => absurd n0 hc⟩⟩⟩)
  obtain ⟨t, ⟨f1, f2⟩, st⟩ := up (g 0).toNat 0 s (by omega) ⟨Fp_rf _ s, h3⟩
  rw [hN] at st
  exact ⟨t, f1, f2, ST_mono st (by omega)⟩
theorem x_keepsBefore {G : Nat → Int} {kp : Nat} (hk : kp ≤ 8) (h25 : gI s 248 25 = zI (kp : Int)) (h259 : ∀ k, k < 552 → gI s 259 k = zI (G (34 + k))) : ∃ t, mX12_keepsBefore s = t ∧ rX12_keepsBefore s ∧ Fr (fun c => c = 248 ∨ c = 255) s t ∧ (∀ i, i ≠ 25 → gI t 248 i = gI s 248 i) ∧ gI t 248 25 = zI ((if kp = 8 then 8 else kp + 1 : Nat) : Int) ∧ (∀ k, k < 552 → gI t 255 (552 * (if kp = 8 then 7 else kp) + k) = zI (G (34 + k))) ∧ (∀ j, j < (if kp = 8 then 7 else kp) → ∀ k, k < 552 → gI t 255 (552 * j + k) = gI s 255 (552 * (if kp = 8 then j + 1 else j) + k)) := by
  obtain ⟨a, e, rk, f5, q1, q2, q3, q4⟩ := x_keep s hk h25
  obtain ⟨q, hq⟩ : ∃ q, q = (if kp = 8 then 7 else kp) := ⟨_, rfl⟩
  have hqn : ((if kp = 8 then 8 else kp + 1 : Nat) : Int) = (q : Int) + 1 := by rw [hq]; split <;> omega
  have hq8 : q < 8 := by rw [hq]; split <;> omega
  rw [hqn] at q2 ⊢
  rw [← hq] at q3 q4 ⊢
  have up := ST_up (B := 1) 552 (fun k (b : SM) => Fr (fun c => c = 255) a b ∧ (∀ i, i < k → gI b 255 (552 * q + i) = zI (G (34 + i))) ∧ (∀ i, i < 552 * q → gI b 255 i = gI a 255 i)) (fun k b n => lX12_keepsBefore n b (zI (k : Int))) (fun k b n => qX12_keepsBefore n b (zI (k : Int))) (by
    rintro k b hk ⟨f1, f2, f3⟩
    have e25 : gI b 248 25 = zI ((q : Int) + 1) := by rw [f1.1 248 (by omega)]; exact q2
    have n1 : ((552 : Int) ≤ (k : Int)) = False := eq_false (by omega)
    have v1 : vp_in (zI (k : Int)) 552 := by rw [z_in (by omega)]; omega
    have ei : (552 : Int) * ((q : Int) + 1 - 1) + (k : Int) = 552 * (q : Int) + k := by omega
    have v2 : vp_in (zI (552 * (q : Int) + (k : Int))) 4416 := by rw [z_in (by omega)]; omega
    have c1 : (zI (k : Int)).toNatClampNeg = k := by rw [z_cl (by omega)]; omega
    have c2 : (zI (552 * (q : Int) + (k : Int))).toNatClampNeg = 552 * q + k := by rw [z_cl (by omega)]; omega
    have g2 : gI b 259 k = zI (G (34 + k)) := by rw [f1.1 259 (by omega), f5.1 259 (by omega)]; exact h259 k hk
    refine ⟨pI b 255 (552 * q + k) (zI (G (34 + k))), ⟨Fr_p f1 rfl, fun i hi => ?_, fun i hi => ?_⟩, ST_1 fun n => ?_⟩
    · rw [gI_s]
      by_cases hik : i = k
      · subst hik; rw [if_pos rfl]
      · rw [if_neg (by omega)]; exact f2 i (by omega)
    · rw [gI_s, if_neg (by omega)]; exact f3 i hi
    · simp (disch := omega) only [lX12_keepsBefore, qX12_keepsBefore, tX12_keepsBefore_6, uX12_keepsBefore_6, e25, zl1, zl552, z_mul, z_add, z_sub, z_le, n1, ei, v1, v2, c1, c2, g2, Int.natCast_succ, if_true, if_false, true_and, and_true, not_true, not_false_eq_true, false_implies, true_implies, imp_self, and_self, and_false, false_and, or_true, true_or, or_false, false_or, ite_self, implies_true])
  obtain ⟨b, ⟨f1, f2, f3⟩, st⟩ := up 552 0 a (by omega) ⟨Fr_rf _ a, fun i hi => by omega, fun _ _ => rfl⟩
  obtain ⟨E, R⟩ := ST_fu (ST_trans st (ST_1 (F' := fun _ => b) (C' := fun _ => True) (fun n => by
    simp (disch := omega) only [lX12_keepsBefore, qX12_keepsBefore, tX12_keepsBefore_6, uX12_keepsBefore_6, zl1, zl552, show (((552 : Nat) : Int)) = 552 from rfl, Int32.le_refl, not_true, false_implies, if_true, if_false, true_and, and_true, not_true, not_false_eq_true, false_implies, true_implies, imp_self, and_self, and_false, false_and, or_true, true_or, or_false, false_or, ite_self, implies_true]))) (by omega)
  refine ⟨b, ?_, ?_, Fr_tr f5 (Fr_mo f1 (fun c hc => Or.inr hc)), fun i hi => by rw [f1.1 248 (by omega)]; exact q1 i hi, by rw [f1.1 248 (by omega)]; exact q2, f2, fun j hj k hk => by rw [f3 _ (by omega)]; exact q4 j hj k hk⟩
  · unfold mX12_keepsBefore fX12_keepsBefore; rw [e]; exact E
  · unfold rX12_keepsBefore; rw [e]; exact ⟨rk, R⟩
/-- the judgement told latest -/
def JdT (s : SM) : Prop := gI s 2 17 = gI s 248 38 ∧ (gI s 2 17 = 0 ∨ ∀ i, i < 5 → gI s 247 i = gI s 263 i)
abbrev JudC (c i : Nat) : Prop := FreeC c i ∨ (c = 2 ∧ i = 17) ∨ c = 247 ∨ c = 263 ∨ (c = 248 ∧ i = 38)
theorem q_judged (h : JdT s) (a1 : Int32) : rX11_judged s a1 ∧ rX12_judged s a1 ∧ vX11_judged s a1 = vX12_judged s a1 ∧ mX12_judged s a1 = Th s := by
  obtain ⟨i, hi, rfl⟩ := z_ex a1
  obtain ⟨j1, j2⟩ := h
  have e38 : gI (pI s 248 0 0) 248 38 = gI s 2 17 := by rw [gI_s, if_neg (by omega)]; exact j1.symm
  have e263 : ∀ j, gI (pI s 248 0 0) 263 j = gI s 263 j := fun j => gI_n _ _ _ _ (by omega)
  have iS : ∀ t, vX12_isIn t (zI i) 0 4 = bI (0 ≤ i ∧ i ≤ 4) := fun t => x_isIn t hi (b := 0) (c := 4) (by omega) (by omega)
  unfold rX11_judged rX12_judged vX11_judged vX12_judged mX12_judged
  rw [e38, iS, e263]
  by_cases q0 : gI s 2 17 = 0
  · rw [if_pos q0, if_pos q0]
    exact ⟨fun hc => absurd q0 hc, fun hc => absurd q0 hc, rfl, rfl⟩
  · rw [if_neg q0, if_neg q0]
    have j2 := j2.resolve_left q0
    by_cases c1 : i < 0
    · have hF : bI (0 ≤ i ∧ i ≤ 4) = 0 := bI_F' (by omega)
      have l1 : zI i < 0 := by rw [zl0, z_lt hi (by omega)]; exact c1
      rw [hF, if_pos l1, if_pos rfl]
      exact ⟨fun _ hc => absurd l1 hc, fun _ hc => absurd rfl hc, rfl, rfl⟩
    · have l1 : ¬ zI i < 0 := by rw [zl0, z_lt hi (by omega)]; exact c1
      by_cases c2 : 5 ≤ i
      · have hF : bI (0 ≤ i ∧ i ≤ 4) = 0 := bI_F' (by omega)
        have l2 : 5 ≤ zI i := by rw [show (5 : Int32) = zI 5 from rfl, z_le (by omega) hi]; exact c2
        rw [hF, if_neg l1, if_pos l2, if_pos rfl]
        exact ⟨fun _ _ hc => absurd l2 hc, fun _ hc => absurd rfl hc, rfl, rfl⟩
      · have hT : bI (0 ≤ i ∧ i ≤ 4) = 1 := bI_T' (by omega)
        have l2 : ¬ 5 ≤ zI i := by rw [show (5 : Int32) = zI 5 from rfl, z_le (by omega) hi]; exact c2
        have vi : vp_in (zI i) 5 := by rw [z_in hi]; omega
        rw [hT, if_neg l1, if_neg l2, if_neg (by decide), z_cl hi]
        exact ⟨fun _ _ _ => vi, fun _ _ => vi, j2 _ (by omega), rfl⟩
/-- the class's judgement is told -/
theorem y_jtell (h : LdR s L P g) (hw : WF g) (hb : L + 11 < 247 ∧ P + 6 < 247 ∧ 2 < P ∧ 2 < L) (hLX : (L, P) ∈ LX) (a1 w i : Int32) : ∃ t, Fp (fun c j => (c = 2 ∧ j = 17) ∨ c = 247) s t ∧ gI t 2 17 = 1 ∧ gI t 247 0 = w ∧ gI t 247 1 = i ∧ gI t 247 2 = fold (stOM g) (g 34).toNat (zI 0) ∧ gI t 247 3 = fold (stLL g) (g 0).toNat (zI 0) ∧ gI t 247 4 = zI (g 35) ∧ ST 1 (fun n => (lX11_judge n).2.2 s a1 L P w i) (fun n => (qX11_judge n).2.2 s a1 L P w i) (fun _ => ((if w = 0 then (-1) else i), t)) (fun _ => True) := by
  obtain ⟨s1, hs1⟩ : ∃ s1, s1 = pI (pI (pI s 2 17 1) 247 0 w) 247 1 i := ⟨_, rfl⟩
  have f1 : Fp (fun c j => (c = 2 ∧ j = 17) ∨ c = 247) s s1 := by rw [hs1]; exact Fp_tr (Fp_p s (by omega)) (Fp_tr (Fp_p _ (by omega)) (Fp_p _ (by omega)))
  obtain ⟨eo, ro⟩ := y_openDeals (LdR_fp h f1 (fun c i hc => by omega)) hw
  obtain ⟨s2, hs2⟩ : ∃ s2, s2 = pI s1 247 2 (fold (stOM g) (g 34).toNat (zI 0)) := ⟨_, rfl⟩
  have f2 : Fp (fun c j => (c = 2 ∧ j = 17) ∨ c = 247) s s2 := Fp_tr f1 (by rw [hs2]; exact Fp_p s1 (by omega))
  have l2 := LdR_fp h f2 (fun c i hc => by omega)
  obtain ⟨el, rl⟩ := y_lol l2 hw
  obtain ⟨s3, hs3⟩ : ∃ s3, s3 = pI s2 247 3 (fold (stLL g) (g 0).toNat (zI 0)) := ⟨_, rfl⟩
  have f3 : Fp (fun c j => (c = 2 ∧ j = 17) ∨ c = 247) s s3 := Fp_tr f2 (by rw [hs3]; exact Fp_p s2 (by omega))
  have l3 := LdR_fp h f3 (fun c i hc => by omega)
  have e10 : gI s3 L 10 = zI (g 35) := l3.2.1.2.1
  obtain ⟨s4, hs4⟩ : ∃ s4, s4 = pI s3 247 4 (zI (g 35)) := ⟨_, rfl⟩
  have f4 : Fp (fun c j => (c = 2 ∧ j = 17) ∨ c = 247) s s4 := Fp_tr f3 (by rw [hs4]; exact Fp_p s3 (by omega))
  have c0 : (0 : Int32).toNatClampNeg = 0 := rfl
  have c1 : (1 : Int32).toNatClampNeg = 1 := rfl
  have c2 : (2 : Int32).toNatClampNeg = 2 := rfl
  have c3 : (3 : Int32).toNatClampNeg = 3 := rfl
  have c4 : (4 : Int32).toNatClampNeg = 4 := rfl
  refine ⟨s4, f4, ?_, ?_, ?_, ?_, ?_, ?_, ST_1 fun n => ?_⟩
  · rw [hs4, gI_n _ _ _ _ (by omega), hs3, gI_n _ _ _ _ (by omega), hs2, gI_n _ _ _ _ (by omega), hs1, gI_n _ _ _ _ (by omega), gI_n _ _ _ _ (by omega), gI_s, if_pos rfl]
  · rw [hs4, gI_s, if_neg (by decide), hs3, gI_s, if_neg (by decide), hs2, gI_s, if_neg (by decide), hs1, gI_s, if_neg (by decide), gI_s, if_pos rfl]
  · rw [hs4, gI_s, if_neg (by decide), hs3, gI_s, if_neg (by decide), hs2, gI_s, if_neg (by decide), hs1, gI_s, if_pos rfl]
  · rw [hs4, gI_s, if_neg (by decide), hs3, gI_s, if_neg (by decide), hs2, gI_s, if_pos rfl]
  · rw [hs4, gI_s, if_neg (by decide), hs3, gI_s, if_pos rfl]
  · rw [hs4, gI_s, if_pos rfl]
  · rw [lpX11_judge_129, qpX11_judge_129]
    unfold tX11_judge_129 uX11_judge_129
    dsimp only []
    rw [c0, c1, c2, c3, c4, ← hs1, eo, ← hs2, el, ← hs3, e10, ← hs4]
    exact ⟨rfl, fun _ => ⟨hLX, ro, fun s' hs' => by rw [hs']; exact rl⟩⟩
end
