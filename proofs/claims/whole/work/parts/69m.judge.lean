-- needs: 69l.judge
section
variable {s : SM} {g : Nat → Int}
theorem x_jhead (s : SM) (a1 : Int32) : ∃ s', Fp (fun c _ => c = 263) s s' ∧ (∀ i, i < 5 → gI s' 263 i = zI 0) ∧ ST 6 (fun n => (lX12_judge n).1 s a1 (zI 0)) (fun n => (qX12_judge n).1 s a1 (zI 0)) (fun n => (lX12_judge n).2.1 s' a1 (zI (-1)) (zI ((0 : Nat) : Int))) (fun n => (qX12_judge n).2.1 s' a1 (zI (-1)) (zI ((0 : Nat) : Int))) := by
  have up := ST_up (B := 1) 5 (fun k (b : SM) => Fp (fun c _ => c = 263) s b ∧ ∀ i, i < k → gI b 263 i = zI 0) (fun k b n => (lX12_judge n).1 b a1 (zI (k : Int))) (fun k b n => (qX12_judge n).1 b a1 (zI (k : Int))) (by
    rintro k b hk ⟨f1, f2⟩
    have ck : (zI (k : Int)).toNatClampNeg = k := by rw [z_cl (by omega)]; exact Int.toNat_natCast _
    have vk : vp_in (zI (k : Int)) 5 := by rw [z_in (by omega)]; omega
    have n1 : ((5 : Int) ≤ (k : Int)) = False := eq_false (by omega)
    refine ⟨pI b 263 k (zI 0), ⟨Fp_tr f1 (Fp_p b rfl), fun i hi => ?_⟩, ST_1 fun n => ?_⟩
    · rw [gI_s]
      by_cases hik : i = k
      · rw [if_pos hik]
      · rw [if_neg hik]; exact f2 i (by omega)
    · rw [lpX12_judge_23, qpX12_judge_23]
      generalize hlK : lX12_judge n = K
      generalize hqK : qX12_judge n = Q
      simp (disch := omega) only [tX12_judge_23, uX12_judge_23, zl0, zl1, zl5, z_le, z_add, n1, ck, vk, Int.natCast_succ, if_true, if_false, true_and, and_true, not_true, not_false_eq_true, false_implies, true_implies, imp_self, and_self, and_false, false_and, or_true, true_or, or_false, false_or, ite_self, implies_true])
  obtain ⟨b, ⟨f1, f2⟩, st⟩ := up 5 0 s (by omega) ⟨Fp_rf _ s, fun i hi => by omega⟩
  refine ⟨b, f1, f2, ST_trans (B1 := 5) st (ST_1 fun n => ?_)⟩
  rw [lpX12_judge_23, qpX12_judge_23]
  generalize hlK : lX12_judge n = K
  generalize hqK : qX12_judge n = Q
  simp (disch := omega) only [tX12_judge_23, uX12_judge_23, zl0, zl1, zl5, z_neg, show (((5 : Nat) : Int)) = 5 from rfl, show (((0 : Nat) : Int)) = 0 from rfl, Int32.le_refl, not_true, false_implies, if_true, if_false, true_and, and_true, not_true, not_false_eq_true, false_implies, true_implies, imp_self, and_self, and_false, false_and, or_true, true_or, or_false, false_or, ite_self, implies_true]
/-- the reference's, up to its end -/
theorem x_jmid {s0 : SM} (hb : BkR s0 g) (h : RR s g) (hw : WF g) (a1 : Int32) : ∃ t, Fp JxA s t ∧ RR t (jdF g (g 586).toNat 0 g).2.2 ∧ gI t 263 0 = zI (jdF g (g 586).toNat 0 g).1 ∧ gI t 263 1 = zI ((jdF g (g 586).toNat 0 g).2.1 : Int) ∧ gI t 263 2 = fold (stOM (jdF g (g 586).toNat 0 g).2.2) ((jdF g (g 586).toNat 0 g).2.2 34).toNat (zI 0) ∧ gI t 263 3 = fold (stLL (jdF g (g 586).toNat 0 g).2.2) ((jdF g (g 586).toNat 0 g).2.2 0).toNat (zI 0) ∧ ST 1000 (fun n => (lX12_judge n).1 s a1 (zI 0)) (fun n => (qX12_judge n).1 s a1 (zI 0)) (fun n => (lX12_judge n).2.2.2 t a1 (zI (if (jdF g (g 586).toNat 0 g).1 = 0 then -1 else ((jdF g (g 586).toNat 0 g).2.1 : Int))) (zI ((jdF g (g 586).toNat 0 g).2.2 0))) (fun n => (qX12_judge n).2.2.2 t a1 (zI (if (jdF g (g 586).toNat 0 g).1 = 0 then -1 else ((jdF g (g 586).toNat 0 g).2.1 : Int))) (zI ((jdF g (g 586).toNat 0 g).2.2 0))) := by
  have hb2 := hb.2.1
  obtain ⟨s1, f1, z1, st1⟩ := x_jhead s a1
  obtain ⟨s2, x, f2, r2, k0, k1, k2, st2⟩ := x_jloop hb a1 (g 586).toNat 0 s1 g (by omega) hw (fun _ _ => rfl) (fun _ _ => rfl) (RR_fp h f1 (fun i => by omega)) (z1 0 (by omega)) (z1 1 (by omega))
  obtain ⟨w1, w2, w3, -, w5, -, -⟩ := jdF_all hb (g 586).toNat 0 g (by omega) hw (fun _ _ => rfl) (fun _ _ => rfl)
  generalize jdF g (g 586).toNat 0 g = J at *
  have u0 := w1.w0
  obtain ⟨eo, ro⟩ := x_openMany r2 w1
  obtain ⟨s3, hs3⟩ : ∃ s3, s3 = pI s2 263 2 (fold (stOM J.2.2) (J.2.2 34).toNat (zI 0)) := ⟨_, rfl⟩
  have f3 : Fp (fun c i => c = 263 ∧ i = 2) s2 s3 := by rw [hs3]; exact Fp_p s2 ⟨rfl, rfl⟩
  obtain ⟨s4, f4, l4, st4⟩ := x_left (RR_fp r2 f3 (fun i => by omega)) w1 (by rw [f3.1 263 3 (by omega), k2 3 (by omega)]; exact z1 3 (by omega)) a1 (zI (if J.1 = 0 then -1 else (J.2.1 : Int)))
  refine ⟨s4, Fp_tr (Fp_mo f1 (fun c i hc => by omega)) (Fp_tr f2 (Fp_tr (Fp_mo f3 (fun c i hc => by omega)) (Fp_mo f4 (fun c i hc => by omega)))), RR_fp (RR_fp r2 f3 (fun i => by omega)) f4 (fun i => by omega), ?_, ?_, ?_, l4, ST_mono (ST_trans st1 (ST_trans st2 (ST_trans (B1 := 1) (ST_1 fun n => ?_) st4))) (by omega)⟩
  · rw [f4.1 263 0 (by omega), f3.1 263 0 (by omega)]; exact k0
  · rw [f4.1 263 1 (by omega), f3.1 263 1 (by omega)]; exact k1
  · rw [f4.1 263 2 (by omega), hs3, gI_s, if_pos rfl]
  · rw [lpX12_judge_108, qpX12_judge_108]
    unfold tX12_judge_108 uX12_judge_108
    have c2 : (2 : Int32).toNatClampNeg = 2 := rfl
    rw [eo, c2, ← hs3]
    exact ⟨rfl, fun hh => ⟨ro, hh⟩⟩
theorem q_judge (h : LdR s 31 5 g) (h2 : RR s g) (hw : WF g) (hi : HI s g) (hb : BkR s g) (hj : JdT s) (a1 : Int32) : rX11_judge s a1 ∧ rX12_judge (mX11_judge s a1) a1 ∧ vX11_judge s a1 = vX12_judge (mX11_judge s a1) a1 ∧ ∃ g', WF g' ∧ SP g g' ∧ (∀ k, 586 ≤ k → g' k = g k) ∧ LdR (mX12_judge (mX11_judge s a1) a1) 31 5 g' ∧ RR (mX12_judge (mX11_judge s a1) a1) g' ∧ HI (mX12_judge (mX11_judge s a1) a1) g' ∧ Fp JudC s (mX12_judge (mX11_judge s a1) a1) ∧ JdT (mX12_judge (mX11_judge s a1) a1) := by
  obtain ⟨lv, hlv, rfl⟩ := z_ex a1
  have h0 := hw.w0
  have hb2 := hb.2.1
  have iS : ∀ t, vX12_isIn t (zI lv) 0 1 = bI (0 ≤ lv ∧ lv ≤ 1) := fun t => x_isIn t hlv (b := 0) (c := 1) (by omega) (by omega)
  have c4 : (4 : Int32).toNatClampNeg = 4 := rfl
  have c1' : (1 : Int32).toNatClampNeg = 1 := rfl
  have c0 : (0 : Int32).toNatClampNeg = 0 := rfl
  have c35 : (35 : Int32).toNatClampNeg = 35 := rfl
  by_cases hc : 0 ≤ lv ∧ lv ≤ 1
  · obtain ⟨w1, w2, w3, -, w5, w6, w7⟩ := jdF_all hb (g 586).toNat 0 g (by omega) hw (fun _ _ => rfl) (fun _ _ => rfl)
    have l1 : ¬ zI lv < 0 := by rw [zl0, z_lt hlv (by omega)]; omega
    have l2 : zI lv ≤ 1 := by rw [zl1, z_le hlv (by omega)]; omega
    have iT : ∀ t, ¬ vX12_isIn t (zI lv) 0 1 = 0 := fun t => by rw [iS, bI_0]; exact not_not_intro hc
    -- the reference, from what the class left
    have xr : ∀ t : SM, RR t g → ∃ t2 t3, mX12_keepsAll (pI t 248 0 0) = t2 ∧ rX12_keepsAll (pI t 248 0 0) ∧ Fp (fun c i => JxA c i ∨ c = 259 ∨ (c = 248 ∧ i = 0)) t t3 ∧ RR t3 (jdF g (g 586).toNat 0 g).2.2 ∧ (∀ k, k < 552 → gI t3 259 k = zI (g (34 + k))) ∧ gI t3 263 0 = zI (jdF g (g 586).toNat 0 g).1 ∧ gI t3 263 1 = zI ((jdF g (g 586).toNat 0 g).2.1 : Int) ∧ gI t3 263 2 = fold (stOM (jdF g (g 586).toNat 0 g).2.2) ((jdF g (g 586).toNat 0 g).2.2 34).toNat (zI 0) ∧ gI t3 263 3 = fold (stLL (jdF g (g 586).toNat 0 g).2.2) ((jdF g (g 586).toNat 0 g).2.2 0).toNat (zI 0) ∧ ST 1000 (fun n => (lX12_judge n).1 t2 (zI lv) (zI 0)) (fun n => (qX12_judge n).1 t2 (zI lv) (zI 0)) (fun n => (lX12_judge n).2.2.2 t3 (zI lv) (zI (if (jdF g (g 586).toNat 0 g).1 = 0 then -1 else ((jdF g (g 586).toNat 0 g).2.1 : Int))) (zI ((jdF g (g 586).toNat 0 g).2.2 0))) (fun n => (qX12_judge n).2.2.2 t3 (zI lv) (zI (if (jdF g (g 586).toNat 0 g).1 = 0 then -1 else ((jdF g (g 586).toNat 0 g).2.1 : Int))) (zI ((jdF g (g 586).toNat 0 g).2.2 0))) := by
      intro t ht
      obtain ⟨t2, k1, k2, k3, k4⟩ := x_keepsAll (Th_R ht)
      obtain ⟨t3, f3, r3, q0, q1, q2, q3, st⟩ := x_jmid hb (RR_fr (Th_R ht) k3 (by omega)) hw (zI lv)
      exact ⟨t2, t3, k1, k2, Fp_tr (Fp_p t (i := 0) (v := zI 0) (c := 248) (by omega)) (Fp_tr (Fp_fr k3 (fun c hc i => by omega)) (Fp_mo f3 (fun c i hc => Or.inl hc))), r3, fun k hk => by rw [f3.1 259 k (by omega)]; exact k4 k hk, q0, q1, q2, q3, st⟩
    obtain ⟨J, hJ⟩ : ∃ J, J = jdF g (g 586).toNat 0 g := ⟨_, rfl⟩
    rw [← hJ] at w1 w2 w3 w5 w6 w7 xr
    have u0 := w1.w0
    have hJ1 : J.2.1 ≤ 40 := by omega
    have jd : ∀ t : SM, gI t 2 17 = 1 → gI t 248 38 = 1 → gI t 247 0 = zI J.1 → gI t 247 1 = zI (J.2.1 : Int) → gI t 247 2 = fold (stOM J.2.2) (J.2.2 34).toNat (zI 0) → gI t 247 3 = fold (stLL J.2.2) (J.2.2 0).toNat (zI 0) → gI t 247 4 = zI (J.2.2 35) → gI t 263 0 = zI J.1 → gI t 263 1 = zI (J.2.1 : Int) → gI t 263 2 = fold (stOM J.2.2) (J.2.2 34).toNat (zI 0) → gI t 263 3 = fold (stLL J.2.2) (J.2.2 0).toNat (zI 0) → gI t 263 4 = zI (J.2.2 35) → JdT t := by
      intro t a b c0 c1 c2 c3 c4 d0 d1 d2 d3 d4
      refine ⟨by rw [a, b], Or.inr (fun i hi => ?_)⟩
      rcases (show i = 0 ∨ i = 1 ∨ i = 2 ∨ i = 3 ∨ i = 4 by omega) with h | h | h | h | h <;> rw [h]
      · rw [c0, d0]
      · rw [c1, d1]
      · rw [c2, d2]
      · rw [c3, d3]
      · rw [c4, d4]
    -- the end of the reference's
    have xe : ∀ (t3 : SM), RR t3 J.2.2 → gI t3 263 1 = zI (J.2.1 : Int) → ∃ t4, t4 = pI (pI t3 263 4 (zI (J.2.2 35))) 248 38 1 ∧ Fp (fun c i => (c = 263 ∧ i = 4) ∨ (c = 248 ∧ i = 38)) t3 t4 ∧ RR t4 J.2.2 ∧ gI t4 263 1 = zI (J.2.1 : Int) ∧ gI t4 263 4 = zI (J.2.2 35) ∧ gI t4 248 38 = 1 := by
      intro t3 r3 q1
      have f4 : Fp (fun c i => (c = 263 ∧ i = 4) ∨ (c = 248 ∧ i = 38)) t3 (pI (pI t3 263 4 (zI (J.2.2 35))) 248 38 1) := Fp_tr (Fp_p t3 (by omega)) (Fp_p _ (by omega))
      refine ⟨_, rfl, f4, RR_fp r3 f4 (fun i => by omega), by rw [f4.1 263 1 (by omega)]; exact q1, ?_, ?_⟩
      · rw [gI_n _ _ _ _ (by omega), gI_s, if_pos rfl]
      · rw [gI_s, if_pos rfl]
    -- the class's value
    have ev9 : (if zI J.1 = 0 then (-1 : Int32) else zI (J.2.1 : Int)) = zI (if J.1 = 0 then -1 else (J.2.1 : Int)) := by
      by_cases hz : J.1 = 0
      · rw [if_pos hz, if_pos (by rw [hz]; rfl)]; rfl
      · rw [if_neg hz, if_neg (by rw [zl0, z_eq (by omega) (by omega)]; exact hz)]
    by_cases hv : lv = 1
    · -- it lives
      subst hv
      obtain ⟨nt, kp, hix⟩ := id hi
      obtain ⟨m1, m2, m3, m4, m5⟩ := HIx_note h hw hix
      have hnt := hix.1
      obtain ⟨s2, f2, l2', st2⟩ := y_jloop hb (L := 31) (P := 5) (by omega) (by decide) (by decide) (zI 1) (g 586).toNat 0 _ g (by omega) hw (fun _ _ => rfl) (fun _ _ => rfl) m4 (fun c q1 q2 => m3.1 c (by unfold InL; omega))
      rw [← hJ] at l2' st2
      have b1 : gI s2 55 1 = zI (nt : Int) := by rw [f2.1 55 (by unfold InL; omega)]; exact m1.2.2.1
      have b2 : gI s2 55 2 = zI (kp : Int) := by rw [f2.1 55 (by unfold InL; omega)]; exact m1.2.2.2.1
      obtain ⟨kn1, kn2, kn3⟩ := y_keepNoted hix.1 hix.2.1 b1 b2
      -- kept or not
      obtain ⟨s3, hs3⟩ : ∃ s3, s3 = (if J.2.1 = 0 then s2 else mX2_keepNoted s2) := ⟨_, rfl⟩
      have f3 : Fr (fun c => c = 55) s2 s3 := by rw [hs3]; split; exact Fr_rf _ s2; exact kn1
      have st3 : ST 1 (fun m => (lX11_judge m).2.1 s2 (zI 1) 31 5 (zI J.1) (zI (J.2.1 : Int))) (fun m => (qX11_judge m).2.1 s2 (zI 1) 31 5 (zI J.1) (zI (J.2.1 : Int))) (fun m => (lX11_judge m).2.2 s3 (zI 1) 31 5 (zI J.1) (zI (J.2.1 : Int))) (fun m => (qX11_judge m).2.2 s3 (zI 1) 31 5 (zI J.1) (zI (J.2.1 : Int))) := ST_1 fun m => by
        rw [lpX11_judge_112, qpX11_judge_112]
        unfold tX11_judge_112 uX11_judge_112
        have e1 : zI 1 = 1 := rfl
        rw [if_pos e1, hs3]
        by_cases hz : J.2.1 = 0
        · have le : zI (J.2.1 : Int) ≤ 0 := by rw [hz]; decide
          rw [if_pos le, if_pos hz]
          exact ⟨rfl, fun hh => ⟨by decide, fun hc => absurd e1 hc, fun _ => ⟨fun _ => hh, fun hc => absurd le hc⟩⟩⟩
        · have le : ¬ zI (J.2.1 : Int) ≤ 0 := by rw [zl0, z_le (by omega) (by omega)]; omega
          rw [if_neg le, if_neg hz]
          exact ⟨rfl, fun hh => ⟨by decide, fun hc => absurd e1 hc, fun _ => ⟨fun hc => absurd hc le, fun _ => hh⟩⟩⟩
      have l3' : LdR s3 31 5 J.2.2 := LdR_fr l2' f3 (fun c hc => by omega)
      obtain ⟨t, f4, v17, v0, v1, v2, v3, v4, st4⟩ := y_jtell l3' w1 (by omega) (by decide) (zI 1) (zI J.1) (zI (J.2.1 : Int))
      obtain ⟨E, R⟩ := ST_fu (ST_trans st2 (ST_trans st3 st4)) (by omega)
      have n11 : zI 1 = 1 := rfl
      have E1 : fX11_judge s (zI 1) = (zI (if J.1 = 0 then -1 else (J.2.1 : Int)), t) := by
        unfold fX11_judge
        rw [if_neg l1, if_pos l2, if_pos n11, if_pos n11, ← ev9]
        exact E
      have em : mX11_judge s (zI 1) = t := by unfold mX11_judge; rw [E1]
      have ev : vX11_judge s (zI 1) = zI (if J.1 = 0 then -1 else (J.2.1 : Int)) := by unfold vX11_judge; rw [E1]
      have er : rX11_judge s (zI 1) := by
        unfold rX11_judge
        exact fun _ _ => ⟨fun hc => absurd n11 hc, fun _ => ⟨fun hc => absurd n11 hc, fun _ => ⟨m5, R⟩⟩⟩
      have h250 : ∀ k, gI t 250 k = gI s 250 k := fun k => by rw [f4.1 250 k (by omega), f3.1 250 (by omega), f2.1 250 (by unfold InL; omega), m3.1 250 (by omega)]
      have rt : RR t g := fun k => by rw [h250 k]; exact h2 k
      obtain ⟨t2, t3, k1, k2, f5, r3, k4, q0, q1, q2, q3, st5⟩ := xr t rt
      obtain ⟨t4, ht4, f6, r4, q1', q4', q38⟩ := xe t3 r3 q1
      have f46 : Fp (fun c i => JxA c i ∨ c = 259 ∨ (c = 248 ∧ (i = 0 ∨ i = 38))) t t4 := Fp_tr (Fp_mo f5 (fun c i hc => by omega)) (Fp_mo f6 (fun c i hc => by omega))
      have g0' : gI t3 250 0 = zI (J.2.2 0) := r3 0
      have g35' : gI t3 250 35 = zI (J.2.2 35) := r3 35
      have n10 : ¬ zI 1 = 0 := by decide
      have stE : ∃ t5, (t5 = if J.2.1 = 0 then t4 else mX12_keepsBefore t4) ∧ (¬ J.2.1 = 0 → rX12_keepsBefore t4) ∧ True := ⟨_, rfl, fun _ => by
        have b3 : gI t4 248 25 = zI (kp : Int) := by
          rw [f46.1 248 25 (by omega), f4.1 248 25 (by omega), f3.1 248 (by omega), f2.1 248 (by unfold InL; omega)]; exact m1.2.2.2.2.1
        obtain ⟨_, _, rk, _⟩ := x_keepsBefore (G := g) hix.2.1 b3 (fun k hk => by rw [f6.1 259 k (by omega)]; exact k4 k hk)
        exact rk, trivial⟩
      obtain ⟨t5, ht5, rk5, -⟩ := stE
      obtain ⟨E2, R2⟩ := ST_fu (ST_trans (B2 := 1) st5 (ST_1 (F' := fun _ => (zI (if J.1 = 0 then -1 else (J.2.1 : Int)), t5)) (C' := fun _ => True) (fun m => by
        rw [lpX12_judge_120, qpX12_judge_120]
        unfold tX12_judge_120 uX12_judge_120
        rw [c0, c4, c1', c35, g0', if_pos (Int32.le_refl _), if_neg n10, g35', ← ht4, q1']
        by_cases hz : J.2.1 = 0
        · have le : zI (J.2.1 : Int) ≤ 0 := by rw [hz]; decide
          rw [if_pos hz] at ht5
          rw [if_pos le, ht5]
          exact ⟨rfl, fun _ => ⟨fun _ => ⟨fun _ hc => absurd le hc, fun hc => absurd hc n10⟩, fun hc => absurd (Int32.le_refl _) hc⟩⟩
        · have le : ¬ zI (J.2.1 : Int) ≤ 0 := by rw [zl0, z_le (by omega) (by omega)]; omega
          rw [if_neg hz] at ht5
          rw [if_neg le, ht5]
          exact ⟨rfl, fun _ => ⟨fun _ => ⟨fun _ _ => rk5 hz, fun hc => absurd hc n10⟩, fun hc => absurd (Int32.le_refl _) hc⟩⟩))) (by omega)
      have E3 : fX12_judge t (zI 1) = (zI (if J.1 = 0 then -1 else (J.2.1 : Int)), t5) := by
        unfold fX12_judge
        rw [if_neg (iT _), k1]
        exact E2
      have em2 : mX12_judge t (zI 1) = t5 := by unfold mX12_judge; rw [E3]
      rw [em, ev, em2]
      refine ⟨er, ?_, by unfold vX12_judge; rw [E3], ?_⟩
      · unfold rX12_judge; rw [k1]; exact fun _ => ⟨k2, R2⟩
      -- what is so then
      by_cases hz : J.2.1 = 0
      · rw [if_pos hz] at ht5 hs3
        have ug : J.2.2 = g := w7 hz
        rw [ht5]
        have hf : Fp (fun c i => InL 31 c ∨ (218 ≤ c ∧ c ≤ 224) ∨ JxA c i ∨ c = 259 ∨ c = 247 ∨ (c = 2 ∧ i = 17) ∨ (c = 248 ∧ (i = 0 ∨ i = 38))) (mX2_note s 31 5) t4 := Fp_tr (Fp_fr f2 (fun c hc i => by omega)) (Fp_tr (by rw [hs3]; exact Fp_rf _ s2) (Fp_tr (Fp_mo f4 (fun c i hc => by omega)) (Fp_mo f46 (fun c i hc => by omega))))
        have hs : Fp JudC s t4 := Fp_tr (Fp_fr m3 (fun c hc i => by unfold JudC FreeC; omega)) (Fp_mo hf (fun c i hc => by unfold JudC FreeC; omega))
        have l4' : LdR t4 31 5 J.2.2 := LdR_fp (LdR_fp l3' f4 (fun c i hc => by omega)) f46 (fun c i hc => by omega)
        rw [ug] at l4' r4
        exact ⟨g, hw, fun _ _ => rfl, fun _ _ => rfl, l4', r4, HI_fp ⟨nt, kp, m1⟩ (fun _ _ => rfl) hf (fun c i hc => by omega), hs, jd t4 (by rw [f46.1 2 17 (by omega)]; exact v17) q38 (by rw [f46.1 247 0 (by omega)]; exact v0) (by rw [f46.1 247 1 (by omega)]; exact v1) (by rw [f46.1 247 2 (by omega)]; exact v2) (by rw [f46.1 247 3 (by omega)]; exact v3) (by rw [f46.1 247 4 (by omega)]; exact v4) (by rw [f6.1 263 0 (by omega)]; exact q0) q1' (by rw [f6.1 263 2 (by omega)]; exact q2) (by rw [f6.1 263 3 (by omega)]; exact q3) q4'⟩
      · rw [if_neg hz] at ht5 hs3
        have b3 : gI t4 248 25 = zI (kp : Int) := by
          rw [f46.1 248 25 (by omega), f4.1 248 25 (by omega), f3.1 248 (by omega), f2.1 248 (by unfold InL; omega)]; exact m1.2.2.2.2.1
        obtain ⟨t6, e6, -, f7, p1, p2, p3, p4⟩ := x_keepsBefore (G := g) hix.2.1 b3 (fun k hk => by rw [f6.1 259 k (by omega)]; exact k4 k hk)
        rw [e6] at ht5
        rw [ht5]
        -- cells below 248 but 55
        have ce : ∀ c i, c ≠ 248 → c ≠ 255 → ¬ (JxA c i ∨ c = 259) → gI t6 c i = gI t c i := fun c i c1 c2 c3 => by rw [f7.1 c (by omega), f46.1 c i (by omega)]
        have cs : ∀ c i, c ≠ 248 → c ≠ 255 → ¬ (JxA c i ∨ c = 259 ∨ c = 247 ∨ c = 2 ∨ c = 55 ∨ InL 31 c ∨ (218 ≤ c ∧ c ≤ 224)) → gI t6 c i = gI (mX2_note s 31 5) c i := fun c i c1 c2 c3 => by rw [ce c i c1 c2 (by omega), f4.1 c i (by omega), f3.1 c (by omega), f2.1 c (by omega)]
        have hsn : ∀ c i, c ≠ 55 → gI s3 c i = gI s2 c i := fun c i hc => by rw [f3.1 c hc]
        have hgl : gL t6 = gL s ∧ t6.2.2.2 = s.2.2.2 := ⟨f7.2.1.trans (f46.2.1.trans (f4.2.1.trans (f3.2.1.trans (f2.2.1.trans m3.2.1)))), f7.2.2.trans (f46.2.2.trans (f4.2.2.trans (f3.2.2.trans (f2.2.2.trans m3.2.2))))⟩
        have h248 : ∀ i, i ≠ 0 → i ≠ 25 → i ≠ 29 → i ≠ 38 → gI t6 248 i = gI s 248 i := fun i i1 i2 i3 i4 => by
          rw [p1 i i2, f46.1 248 i (by omega), f4.1 248 i (by omega), f3.1 248 (by omega), f2.1 248 (by unfold InL; omega), m3.1 248 (by omega)]
        have h255 : ∀ k, gI t4 255 k = gI s 255 k := fun k => by
          rw [f46.1 255 k (by omega), f4.1 255 k (by omega), f3.1 255 (by omega), f2.1 255 (by unfold InL; omega), m3.1 255 (by omega)]
        have hfr : Fp JudC s t6 := ⟨fun c i hc => by
          unfold JudC FreeC at hc
          by_cases h248c : c = 248
          · subst h248c; exact h248 i (by omega) (by omega) (by omega) (by omega)
          · by_cases h2c : c = 2
            · subst h2c
              rw [ce 2 i (by omega) (by omega) (by omega), f4.1 2 i (by omega), f3.1 2 (by omega), f2.1 2 (by unfold InL; omega), m3.1 2 (by omega)]
            · rw [cs c i h248c (by omega) (by unfold InL; omega), m3.1 c (by unfold InL; omega)], hgl⟩
        have l6 : LdR t6 31 5 J.2.2 := by
          refine LdR_fp (A := fun c i => ¬ (c < 218 ∧ c ≠ 2)) (LdR_fp l3' f4 (fun c i hc => by omega)) ⟨fun c i hc => ce c i (by omega) (by omega) (by omega), f7.2.1.trans f46.2.1, f7.2.2.trans f46.2.2⟩ (fun c i hc => by omega)
        have r6 : RR t6 J.2.2 := RR_fr r4 f7 (by omega)
        have spJ : SP g J.2.2 := fun k hk => w2 k (by omega)
        have hi6 : HI t6 J.2.2 := ⟨_, _, HI_new (t := t6) hw hix spJ (by rw [hJ]; exact jdF_wa hb (g 586).toNat 0 g (by omega) hw (fun _ _ => rfl) (fun _ _ => rfl) (HI_wa hi))
          (by rw [ce 55 1 (by omega) (by omega) (by omega), f4.1 55 1 (by omega), hs3]; exact kn2)
          (by rw [ce 55 2 (by omega) (by omega) (by omega), f4.1 55 2 (by omega), hs3]; exact kn3)
          p2 p3 (fun j hj k hk => by rw [p4 j hj k hk, h255])
          (LdS_fp (A := fun c i => ¬ ((57 ≤ c ∧ c ≤ 164))) m2 ⟨fun c i hc => cs c i (by omega) (by omega) (by unfold InL; omega), f7.2.1.trans (f46.2.1.trans (f4.2.1.trans (f3.2.1.trans f2.2.1))), f7.2.2.trans (f46.2.2.trans (f4.2.2.trans (f3.2.2.trans f2.2.2)))⟩ (fun c i h1 h2 => by omega))
          (fun c h1 h2 h3 => by funext i; rw [cs c i (by omega) (by omega) (by unfold InL; omega), m3.1 c (by unfold InL; omega)])⟩
        refine ⟨J.2.2, w1, spJ, w3, l6, r6, hi6, hfr, jd t6 ?_ ?_ ?_ ?_ ?_ ?_ ?_ ?_ ?_ ?_ ?_ ?_⟩
        · rw [ce 2 17 (by omega) (by omega) (by omega)]; exact v17
        · rw [p1 38 (by omega)]; exact q38
        · rw [ce 247 0 (by omega) (by omega) (by omega)]; exact v0
        · rw [ce 247 1 (by omega) (by omega) (by omega)]; exact v1
        · rw [ce 247 2 (by omega) (by omega) (by omega)]; exact v2
        · rw [ce 247 3 (by omega) (by omega) (by omega)]; exact v3
        · rw [ce 247 4 (by omega) (by omega) (by omega)]; exact v4
        · rw [f7.1 263 (by omega), f6.1 263 0 (by omega)]; exact q0
        · rw [f7.1 263 (by omega)]; exact q1'
        · rw [f7.1 263 (by omega), f6.1 263 2 (by omega)]; exact q2
        · rw [f7.1 263 (by omega), f6.1 263 3 (by omega)]; exact q3
        · rw [f7.1 263 (by omega)]; exact q4'
    · have hv0 : lv = 0 := by omega
      subst hv0
      obtain ⟨y1, y2, y3⟩ := y_trial h hw
      obtain ⟨s2, f2, l2', st2⟩ := y_jloop hb (L := 43) (P := 5) (by omega) (by decide) (by decide) (zI 0) (g 586).toNat 0 _ g (by omega) hw (fun _ _ => rfl) (fun _ _ => rfl) y1 (fun c q1 q2 => y2.1 c (by unfold InL; omega))
      rw [← hJ] at l2' st2
      have n01 : ¬ zI 0 = 1 := by decide
      have st3 : ST 1 (fun m => (lX11_judge m).2.1 s2 (zI 0) 43 5 (zI J.1) (zI (J.2.1 : Int))) (fun m => (qX11_judge m).2.1 s2 (zI 0) 43 5 (zI J.1) (zI (J.2.1 : Int))) (fun m => (lX11_judge m).2.2 s2 (zI 0) 43 5 (zI J.1) (zI (J.2.1 : Int))) (fun m => (qX11_judge m).2.2 s2 (zI 0) 43 5 (zI J.1) (zI (J.2.1 : Int))) := ST_1 fun m => by
        rw [lpX11_judge_112, qpX11_judge_112]
        unfold tX11_judge_112 uX11_judge_112
        rw [if_neg n01]
        exact ⟨rfl, fun hh => ⟨by decide, fun _ => hh, fun hc => absurd hc n01⟩⟩
      obtain ⟨t, f4, v17, v0, v1, v2, v3, v4, st4⟩ := y_jtell l2' w1 (by omega) (by decide) (zI 0) (zI J.1) (zI (J.2.1 : Int))
      obtain ⟨E, R⟩ := ST_fu (ST_trans st2 (ST_trans st3 st4)) (by omega)
      have E1 : fX11_judge s (zI 0) = (zI (if J.1 = 0 then -1 else (J.2.1 : Int)), t) := by
        unfold fX11_judge
        rw [if_neg l1, if_pos l2, if_neg n01, if_neg n01, ← ev9]
        exact E
      have em : mX11_judge s (zI 0) = t := by unfold mX11_judge; rw [E1]
      have ev : vX11_judge s (zI 0) = zI (if J.1 = 0 then -1 else (J.2.1 : Int)) := by unfold vX11_judge; rw [E1]
      have er : rX11_judge s (zI 0) := by
        unfold rX11_judge
        exact fun _ _ => ⟨fun _ => ⟨fun _ => ⟨y3, R⟩, fun hc => absurd hc n01⟩, fun hc => absurd hc n01⟩
      have h250 : ∀ k, gI t 250 k = gI s 250 k := fun k => by rw [f4.1 250 k (by omega), f2.1 250 (by unfold InL; omega), y2.1 250 (by unfold InL; omega)]
      have rt : RR t g := fun k => by rw [h250 k]; exact h2 k
      obtain ⟨t2, t3, k1, k2, f5, r3, k4, q0, q1, q2, q3, st5⟩ := xr t rt
      obtain ⟨t4, ht4, f6, r4, q1', q4', q38⟩ := xe t3 r3 q1
      obtain ⟨t5, b1, b2, b3, b4⟩ := x_backAll (g := g) r4 w2 w3 (fun k hk => by rw [f6.1 259 k (by omega)]; exact k4 k hk)
      have g0' : gI t3 250 0 = zI (J.2.2 0) := r3 0
      have g35' : gI t3 250 35 = zI (J.2.2 35) := r3 35
      have n00 : zI 0 = 0 := rfl
      obtain ⟨E2, R2⟩ := ST_fu (ST_trans (B2 := 1) st5 (ST_1 (F' := fun _ => (zI (if J.1 = 0 then -1 else (J.2.1 : Int)), t5)) (C' := fun _ => True) (fun m => by
        rw [lpX12_judge_120, qpX12_judge_120]
        unfold tX12_judge_120 uX12_judge_120
        rw [c0, c4, c1', c35, g0', if_pos (Int32.le_refl _), if_pos n00, g35', ← ht4, b1]
        exact ⟨rfl, fun _ => ⟨fun _ => ⟨fun hc => absurd n00 hc, fun _ => b2⟩, fun hc => absurd (Int32.le_refl _) hc⟩⟩))) (by omega)
      have E3 : fX12_judge t (zI 0) = (zI (if J.1 = 0 then -1 else (J.2.1 : Int)), t5) := by
        unfold fX12_judge
        rw [if_neg (iT _), k1]
        exact E2
      have em2 : mX12_judge t (zI 0) = t5 := by unfold mX12_judge; rw [E3]
      rw [em, ev, em2]
      refine ⟨er, ?_, by unfold vX12_judge; rw [E3], ?_⟩
      · unfold rX12_judge; rw [k1]; exact fun _ => ⟨k2, R2⟩
      have f45 : Fp (fun c i => JxA c i ∨ c = 259 ∨ (c = 248 ∧ (i = 0 ∨ i = 38))) t t5 := Fp_tr (Fp_mo f5 (fun c i hc => by omega)) (Fp_tr (Fp_mo f6 (fun c i hc => by omega)) (Fp_fr b3 (fun c hc i => by omega)))
      have hf : Fp (fun c i => InL 43 c ∨ (218 ≤ c ∧ c ≤ 224) ∨ JxA c i ∨ c = 259 ∨ c = 247 ∨ (c = 2 ∧ i = 17) ∨ (c = 248 ∧ (i = 0 ∨ i = 38))) s t5 := Fp_tr (Fp_fr y2 (fun c hc i => by omega)) (Fp_tr (Fp_fr f2 (fun c hc i => by omega)) (Fp_tr (Fp_mo f4 (fun c i hc => by omega)) (Fp_mo f45 (fun c i hc => by omega))))
      refine ⟨g, hw, fun _ _ => rfl, fun _ _ => rfl, LdR_fp h hf (fun c i hc => by omega), b4, HI_fp hi (fun _ _ => rfl) hf (fun c i hc => by omega), Fp_mo hf (fun c i hc => by unfold JudC FreeC; omega), jd t5 ?_ ?_ ?_ ?_ ?_ ?_ ?_ ?_ ?_ ?_ ?_ ?_⟩
      · rw [f45.1 2 17 (by omega)]; exact v17
      · rw [b3.1 248 (by omega)]; exact q38
      · rw [f45.1 247 0 (by omega)]; exact v0
      · rw [f45.1 247 1 (by omega)]; exact v1
      · rw [f45.1 247 2 (by omega)]; exact v2
      · rw [f45.1 247 3 (by omega)]; exact v3
      · rw [f45.1 247 4 (by omega)]; exact v4
      · rw [b3.1 263 (by omega), f6.1 263 0 (by omega)]; exact q0
      · rw [b3.1 263 (by omega)]; exact q1'
      · rw [b3.1 263 (by omega), f6.1 263 2 (by omega)]; exact q2
      · rw [b3.1 263 (by omega), f6.1 263 3 (by omega)]; exact q3
      · rw [b3.1 263 (by omega)]; exact q4'
  · have iF : ∀ t, vX12_isIn t (zI lv) 0 1 = 0 := fun t => by rw [iS, bI_0]; exact hc
    have no : zI lv < 0 ∨ ¬ zI lv ≤ 1 := by
      rw [zl0, zl1, z_lt hlv (by omega), z_le hlv (by omega)]; omega
    have E1 : fX11_judge s (zI lv) = (-2, s) ∧ rX11_judge s (zI lv) := by
      unfold fX11_judge rX11_judge
      by_cases q1 : zI lv < 0
      · rw [if_pos q1]; exact ⟨rfl, fun hh => absurd q1 hh⟩
      · have q2 := no.resolve_left q1
        rw [if_neg q1, if_neg q2]; exact ⟨rfl, fun _ hh => absurd hh q2⟩
    have em : mX11_judge s (zI lv) = s := by unfold mX11_judge; rw [E1.1]
    have ev : vX11_judge s (zI lv) = -2 := by unfold vX11_judge; rw [E1.1]
    have E2 : fX12_judge s (zI lv) = (-2, pI s 248 0 0) := by unfold fX12_judge; rw [if_pos (iF _)]
    have em2 : mX12_judge s (zI lv) = pI s 248 0 0 := by unfold mX12_judge; rw [E2]
    have hf : Fp (fun c i => c = 248 ∧ i = 0) s (pI s 248 0 0) := Fp_p s ⟨rfl, rfl⟩
    rw [em, ev, em2]
    refine ⟨E1.2, by unfold rX12_judge; exact fun hh => absurd (iF _) hh, by unfold vX12_judge; rw [E2], g, hw, fun _ _ => rfl, fun _ _ => rfl, LdR_fp h hf (fun c i hc => by omega), RR_fp h2 hf (fun i => by omega), HI_fp hi (fun _ _ => rfl) hf (fun c i hc => by omega), Fp_mo hf (fun c i hc => by unfold JudC FreeC; omega), ?_⟩
    obtain ⟨j1, j2⟩ := hj
    refine ⟨by rw [hf.1 2 17 (by omega), hf.1 248 38 (by omega)]; exact j1, ?_⟩
    rw [hf.1 2 17 (by omega)]
    rcases j2 with j2 | j2
    · exact Or.inl j2
    · exact Or.inr (fun i hi => by rw [hf.1 247 i (by omega), hf.1 263 i (by omega)]; exact j2 i hi)
end
