-- needs: 69j.line
def BkR (s : SM) (g : Nat → Int) : Prop := gI s 19 0 = zI (g 586) ∧ (0 ≤ g 586 ∧ g 586 ≤ 40) ∧ ∀ i : Nat, (i : Int) < g 586 → LnD g (g (587 + 5 * i)) (g (588 + 5 * i)) (g (589 + 5 * i)) (g (590 + 5 * i)) (g (591 + 5 * i)) ∧ LnM s i (g (587 + 5 * i)) (g (588 + 5 * i)) (g (589 + 5 * i)) (g (590 + 5 * i)) (g (591 + 5 * i))
theorem BkR_fr {s t : SM} {g g' : Nat → Int} (h : BkR s g) (h0 : g' 0 = g 0) (h1 : g' 1 = g 1) (h5 : ∀ k, 586 ≤ k → g' k = g k) (hc : ∀ c, 19 ≤ c → c ≤ 24 → gI t c = gI s c) : BkR t g' := by
  obtain ⟨b1, b2, b3⟩ := h
  refine ⟨by rw [hc 19 (by omega) (by omega), h5 586 (by omega)]; exact b1, by rw [h5 586 (by omega)]; exact b2, fun i hi => ?_⟩
  rw [h5 586 (by omega)] at hi
  obtain ⟨c1, c2⟩ := b3 i hi
  rw [h5 (587 + 5 * i) (by omega), h5 (588 + 5 * i) (by omega), h5 (589 + 5 * i) (by omega), h5 (590 + 5 * i) (by omega), h5 (591 + 5 * i) (by omega)]
  refine ⟨LnD_sp c1 h0 h1, ?_⟩
  unfold LnM at c2 ⊢
  rw [hc 20 (by omega) (by omega), hc 21 (by omega) (by omega), hc 22 (by omega) (by omega), hc 23 (by omega) (by omega), hc 24 (by omega) (by omega)]
  exact c2
/-- the lines from i on: why it stopped, where, and what is so then -/
noncomputable def jdF (g : Nat → Int) : Nat → Nat → (Nat → Int) → Int × Nat × (Nat → Int)
  | 0, i, u => (0, i, u)
  | r + 1, i, u => if dzW (g (587 + 5 * i)) (g (588 + 5 * i)) (g (589 + 5 * i)) (g (591 + 5 * i)) u = 0 then jdF g r (i + 1) (dzG (g (587 + 5 * i)) (g (588 + 5 * i)) (g (589 + 5 * i)) (g (590 + 5 * i)) (g (591 + 5 * i)) u) else (dzW (g (587 + 5 * i)) (g (588 + 5 * i)) (g (589 + 5 * i)) (g (591 + 5 * i)) u, i, u)
theorem dzG_n {A B C D E : Int} {u : Nat → Int} (h : ¬ dzW A B C E u = 0) : dzG A B C D E u = u := by unfold dzG; rw [if_neg h]
theorem jdF_all {s0 : SM} {g : Nat → Int} (hb : BkR s0 g) : ∀ (r i : Nat) (u : Nat → Int), ((i + r : Nat) : Int) = g 586 → WF u → (∀ k, k < 34 → u k = g k) → (∀ k, 586 ≤ k → u k = g k) → WF (jdF g r i u).2.2 ∧ (∀ k, k < 34 → (jdF g r i u).2.2 k = g k) ∧ (∀ k, 586 ≤ k → (jdF g r i u).2.2 k = g k) ∧ i ≤ (jdF g r i u).2.1 ∧ (jdF g r i u).2.1 ≤ i + r ∧ (0 ≤ (jdF g r i u).1 ∧ (jdF g r i u).1 ≤ 9) ∧ ((jdF g r i u).2.1 = i → (jdF g r i u).2.2 = u) := by
  intro r
  induction r with
  | zero => intro i u hi hw h1 h2; exact ⟨hw, h1, h2, Nat.le_refl _, Nat.le_refl _, ⟨Int.le_refl _, by show (0 : Int) ≤ 9; omega⟩, fun _ => rfl⟩
  | succ r ih =>
    intro i u hi hw h1 h2
    obtain ⟨c1, -⟩ := hb.2.2 i (by omega)
    have c1 := LnD_sp (v := u) c1 (h1 0 (by omega)) (h1 1 (by omega))
    have hwb := dzW_b (u := u) (g (587 + 5 * i)) (g (588 + 5 * i)) (g (589 + 5 * i)) (g (591 + 5 * i))
    unfold jdF
    by_cases hz : dzW (g (587 + 5 * i)) (g (588 + 5 * i)) (g (589 + 5 * i)) (g (591 + 5 * i)) u = 0
    · rw [if_pos hz]
      obtain ⟨w1, w2, w3⟩ := dzG_all hw c1
      obtain ⟨i1, i2, i3, i4, i5, i6, i7⟩ := ih (i + 1) _ (by omega) w1 (fun k hk => by rw [w2 k hk, h1 k hk]) (fun k hk => by rw [w3 k hk, h2 k hk])
      exact ⟨i1, i2, i3, by omega, by omega, i6, fun hc => by omega⟩
    · rw [if_neg hz]
      exact ⟨hw, h1, h2, Nat.le_refl _, by show i ≤ _; omega, hwb, fun _ => rfl⟩
def stLL (u : Nat → Int) (b : Nat) (a : Int32) : Int32 := if livZ u b then a + zI (lefZ u b) else a
section
variable {s : SM} {g : Nat → Int} {L P : Nat}
theorem y_jloop {s0 : SM} (hb : BkR s0 g) (hPL : P + 7 ≤ L) (hLX : (L, P) ∈ LX) (hr : rfx L 8 = P) (a1 : Int32) : ∀ (r i : Nat) (s : SM) (u : Nat → Int), ((i + r : Nat) : Int) = g 586 → WF u → (∀ k, k < 34 → u k = g k) → (∀ k, 586 ≤ k → u k = g k) → LdR s L P u → (∀ c, 19 ≤ c → c ≤ 24 → gI s c = gI s0 c) → ∃ s', Fr (fun c => InL L c ∨ (218 ≤ c ∧ c ≤ 224)) s s' ∧ LdR s' L P (jdF g r i u).2.2 ∧ ST (r + 2) (fun m => (lX11_judge m).1 s a1 L P (zI 0) (zI (i : Int))) (fun m => (qX11_judge m).1 s a1 L P (zI 0) (zI (i : Int))) (fun m => (lX11_judge m).2.1 s' a1 L P (zI (jdF g r i u).1) (zI ((jdF g r i u).2.1 : Int))) (fun m => (qX11_judge m).2.1 s' a1 L P (zI (jdF g r i u).1) (zI ((jdF g r i u).2.1 : Int))) := by
  have hLb := LX_b (L, P) hLX
  dsimp only at hLb
  have hL31 : 31 ≤ L := by
    have : ∀ p ∈ LX, 31 ≤ p.1 := by decide
    exact this _ hLX
  intro r
  induction r with
  | zero =>
    intro i s u hi hw h1 h2 h hc
    have g0 : gI s 19 0 = zI (g 586) := by rw [hc 19 (by omega) (by omega)]; exact hb.1
    have hb2 := hb.2.1
    have n1 : (g 586 ≤ (i : Int)) = True := eq_true (by omega)
    refine ⟨s, Fr_rf _ s, h, ST_mono (B1 := 1) (ST_1 fun m => ?_) (by omega)⟩
    rw [lpX11_judge_64, qpX11_judge_64]
    generalize hlK : lX11_judge m = K
    generalize hqK : qX11_judge m = Q
    show tX11_judge_64 K s a1 L P (zI 0) (zI (i : Int)) = K.2.1 s a1 L P (zI 0) (zI (i : Int)) ∧ (Q.2.1 s a1 L P (zI 0) (zI (i : Int)) → _)
    simp (disch := omega) only [tX11_judge_64, uX11_judge_64, g0, z_le, n1, hLX, not_true, not_false_eq_true, false_implies, if_true, if_false, true_and, and_true, not_true, not_false_eq_true, false_implies, true_implies, imp_self, and_self, and_false, false_and, or_true, true_or, or_false, false_or, ite_self, implies_true]
  | succ r ih =>
    intro i s u hi hw h1 h2 h hc
    have hb2 := hb.2.1
    have g0 : gI s 19 0 = zI (g 586) := by rw [hc 19 (by omega) (by omega)]; exact hb.1
    obtain ⟨c1, c2⟩ := hb.2.2 i (by omega)
    have c1 := LnD_sp (v := u) c1 (h1 0 (by omega)) (h1 1 (by omega))
    have c3 : LnM s i (g (587 + 5 * i)) (g (588 + 5 * i)) (g (589 + 5 * i)) (g (590 + 5 * i)) (g (591 + 5 * i)) := by
      unfold LnM at c2 ⊢
      rw [hc 20 (by omega) (by omega), hc 21 (by omega) (by omega), hc 22 (by omega) (by omega), hc 23 (by omega) (by omega), hc 24 (by omega) (by omega)]
      exact c2
    obtain ⟨s1, e1, e2, e3, e4, e5⟩ := y_line h hPL hw hLX hr (by omega) c1 c3
    have hwb := dzW_b (u := u) (g (587 + 5 * i)) (g (588 + 5 * i)) (g (589 + 5 * i)) (g (591 + 5 * i))
    have n1 : (g 586 ≤ (i : Int)) = False := eq_false (by omega)
    by_cases hz : dzW (g (587 + 5 * i)) (g (588 + 5 * i)) (g (589 + 5 * i)) (g (591 + 5 * i)) u = 0
    · have ej : jdF g (r + 1) i u = jdF g r (i + 1) (dzG (g (587 + 5 * i)) (g (588 + 5 * i)) (g (589 + 5 * i)) (g (590 + 5 * i)) (g (591 + 5 * i)) u) := by
        show (if _ then _ else _) = _
        rw [if_pos hz]
      obtain ⟨w1, w2, w3⟩ := dzG_all hw c1
      obtain ⟨s', f1, l1, st⟩ := ih (i + 1) s1 _ (by omega) w1 (fun k hk => by rw [w2 k hk, h1 k hk]) (fun k hk => by rw [w3 k hk, h2 k hk]) e5 (fun c q1 q2 => by rw [e4.1 c (by unfold InL; omega), hc c q1 q2])
      rw [ej]
      rw [hz] at e2
      refine ⟨s', Fr_tr e4 f1, l1, ST_mono (ST_trans (B1 := 1) (ST_1 fun m => ?_) st) (by omega)⟩
      rw [lpX11_judge_64, qpX11_judge_64]
      generalize hlK : lX11_judge m = K
      generalize hqK : qX11_judge m = Q
      simp (disch := omega) only [tX11_judge_64, uX11_judge_64, g0, zl0, zl1, z_le, z_add, n1, hLX, e1, e2, e3, Int.natCast_succ, not_true, not_false_eq_true, false_implies, if_true, if_false, true_and, and_true, not_true, not_false_eq_true, false_implies, true_implies, imp_self, and_self, and_false, false_and, or_true, true_or, or_false, false_or, ite_self, implies_true]
    · have ej : jdF g (r + 1) i u = (dzW (g (587 + 5 * i)) (g (588 + 5 * i)) (g (589 + 5 * i)) (g (591 + 5 * i)) u, i, u) := by
        show (if _ then _ else _) = _
        rw [if_neg hz]
      rw [dzG_n hz] at e5
      rw [ej]
      have k1 : (dzW (g (587 + 5 * i)) (g (588 + 5 * i)) (g (589 + 5 * i)) (g (591 + 5 * i)) u = 0) = False := eq_false hz
      have g01 : gI s1 19 0 = zI (g 586) := by rw [e4.1 19 (by unfold InL; omega)]; exact g0
      refine ⟨s1, e4, e5, ST_mono (ST_trans (B1 := 1) (B2 := 1) (F' := fun m => (lX11_judge m).1 s1 a1 L P (zI (dzW (g (587 + 5 * i)) (g (588 + 5 * i)) (g (589 + 5 * i)) (g (591 + 5 * i)) u)) (zI (i : Int))) (C' := fun m => (qX11_judge m).1 s1 a1 L P (zI (dzW (g (587 + 5 * i)) (g (588 + 5 * i)) (g (589 + 5 * i)) (g (591 + 5 * i)) u)) (zI (i : Int))) (ST_1 fun m => ?_) (ST_1 fun m => ?_)) (by omega)⟩
      · rw [lpX11_judge_64, qpX11_judge_64]
        generalize hlK : lX11_judge m = K
        generalize hqK : qX11_judge m = Q
        simp (disch := omega) only [tX11_judge_64, uX11_judge_64, g0, zl0, zl1, z_le, z_eq, z_add, n1, hLX, e1, e2, e3, k1, Int.add_zero, not_true, not_false_eq_true, false_implies, if_true, if_false, true_and, and_true, not_true, not_false_eq_true, false_implies, true_implies, imp_self, and_self, and_false, false_and, or_true, true_or, or_false, false_or, ite_self, implies_true]
      · dsimp only
        rw [lpX11_judge_64, qpX11_judge_64]
        generalize hlK : lX11_judge m = K
        generalize hqK : qX11_judge m = Q
        simp (disch := omega) only [tX11_judge_64, uX11_judge_64, g01, zl0, zl1, z_le, z_eq, n1, hLX, k1, not_true, not_false_eq_true, false_implies, if_true, if_false, true_and, and_true, not_true, not_false_eq_true, false_implies, true_implies, imp_self, and_self, and_false, false_and, or_true, true_or, or_false, false_or, ite_self, implies_true]
abbrev JxA (c i : Nat) : Prop := BoA c i ∨ c = 250 ∨ c = 263
theorem x_jloop {s0 : SM} (hb : BkR s0 g) (a1 : Int32) : ∀ (r i : Nat) (s : SM) (u : Nat → Int), ((i + r : Nat) : Int) = g 586 → WF u → (∀ k, k < 34 → u k = g k) → (∀ k, 586 ≤ k → u k = g k) → RR s u → gI s 263 0 = zI 0 → gI s 263 1 = zI (i : Int) → ∃ s' x, Fp JxA s s' ∧ RR s' (jdF g r i u).2.2 ∧ gI s' 263 0 = zI (jdF g r i u).1 ∧ gI s' 263 1 = zI ((jdF g r i u).2.1 : Int) ∧ (∀ k, 2 ≤ k → gI s' 263 k = gI s 263 k) ∧ ST (r + 2) (fun m => (lX12_judge m).2.1 s a1 (zI (-1)) (zI (i : Int))) (fun m => (qX12_judge m).2.1 s a1 (zI (-1)) (zI (i : Int))) (fun m => (lX12_judge m).2.2.1 s' a1 (zI (if (jdF g r i u).1 = 0 then -1 else ((jdF g r i u).2.1 : Int))) x) (fun m => (qX12_judge m).2.2.1 s' a1 (zI (if (jdF g r i u).1 = 0 then -1 else ((jdF g r i u).2.1 : Int))) x) := by
  have hb2 := hb.2.1
  have c586 : (586 : Int32).toNatClampNeg = 586 := rfl
  have c0 : (0 : Int32).toNatClampNeg = 0 := rfl
  have c1' : (1 : Int32).toNatClampNeg = 1 := rfl
  intro r
  induction r with
  | zero =>
    intro i s u hi hw h1 h2 h q0 q1
    have g0 : gI s 250 586 = zI (g 586) := by rw [h, h2 586 (by omega)]
    have n1 : zI (g 586) ≤ zI (i : Int) := by rw [z_le (by omega) (by omega)]; omega
    refine ⟨s, zI (i : Int), Fp_rf _ s, h, q0, q1, fun _ _ => rfl, ST_mono (B1 := 1) (ST_1 fun m => ?_) (by omega)⟩
    rw [lpX12_judge_45, qpX12_judge_45]
    unfold tX12_judge_45 uX12_judge_45
    rw [c586, g0, if_pos n1]
    exact ⟨rfl, fun hh => ⟨fun _ => hh, fun hc => absurd n1 hc⟩⟩
  | succ r ih =>
    intro i s u hi hw h1 h2 h q0 q1
    have g0 : gI s 250 586 = zI (g 586) := by rw [h, h2 586 (by omega)]
    obtain ⟨d1, -⟩ := hb.2.2 i (by omega)
    have d1 := LnD_sp (v := u) d1 (h1 0 (by omega)) (h1 1 (by omega))
    obtain ⟨s1, e1, e2, e3, e4, e5⟩ := x_line h hw (i := i) (by omega) (h2 _ (by omega)).symm (h2 _ (by omega)).symm (h2 _ (by omega)).symm (h2 _ (by omega)).symm (h2 _ (by omega)).symm d1
    have hwb := dzW_b (u := u) (g (587 + 5 * i)) (g (588 + 5 * i)) (g (589 + 5 * i)) (g (591 + 5 * i))
    have n1 : ¬ zI (g 586) ≤ zI (i : Int) := by rw [z_le (by omega) (by omega)]; omega
    have nm : ¬ (0 : Int32) ≤ zI (-1) := by decide
    have e5i : (587 : Int32) + 5 * zI (i : Int) = zI (587 + 5 * (i : Int)) := by rw [show (587 : Int32) = zI 587 from rfl, show (5 : Int32) = zI 5 from rfl, z_mul, z_add]
    have ei : zI (i : Int) + 1 = zI ((i + 1 : Nat) : Int) := by rw [zl1, z_add]; rfl
    by_cases hz : dzW (g (587 + 5 * i)) (g (588 + 5 * i)) (g (589 + 5 * i)) (g (591 + 5 * i)) u = 0
    · have ej : jdF g (r + 1) i u = jdF g r (i + 1) (dzG (g (587 + 5 * i)) (g (588 + 5 * i)) (g (589 + 5 * i)) (g (590 + 5 * i)) (g (591 + 5 * i)) u) := by
        show (if _ then _ else _) = _
        rw [if_pos hz]
      obtain ⟨w1, w2, w3⟩ := dzG_all hw d1
      obtain ⟨s2, hs2⟩ : ∃ s2, s2 = pI (pI s1 263 0 (zI 0)) 263 1 (zI ((i + 1 : Nat) : Int)) := ⟨_, rfl⟩
      have f2 : Fp JxA s1 s2 := by rw [hs2]; exact Fp_tr (Fp_p s1 (by omega)) (Fp_p _ (by omega))
      have q1' : gI s1 263 1 = zI (i : Int) := by rw [e4.1 263 1 (by omega)]; exact q1
      obtain ⟨s', x, f1, l1, l2, l3, l4, st⟩ := ih (i + 1) s2 _ (by omega) w1 (fun k hk => by rw [w2 k hk, h1 k hk]) (fun k hk => by rw [w3 k hk, h2 k hk]) (RR_fp e5 (A := fun c _ => c = 263) (by rw [hs2]; exact Fp_tr (Fp_p s1 rfl) (Fp_p _ rfl)) (fun i => by omega)) (by rw [hs2, gI_s, if_neg (by decide), gI_s, if_pos rfl]) (by rw [hs2, gI_s, if_pos rfl])
      rw [ej]
      rw [hz] at e2
      refine ⟨s', x, Fp_tr (Fp_mo e4 (fun c j hc => by omega)) (Fp_tr f2 f1), l1, l2, l3, fun k hk => by rw [l4 k hk, hs2, gI_s, if_neg (by omega), gI_s, if_neg (by omega), e4.1 263 k (by omega)], ST_mono (ST_trans (B1 := 1) (ST_1 fun m => ?_) st) (by omega)⟩
      rw [lpX12_judge_45, qpX12_judge_45]
      unfold tX12_judge_45 uX12_judge_45
      have k0 : gI (pI s1 263 0 (zI 0)) 263 0 = zI 0 := by rw [gI_s, if_pos rfl]
      have k1 : gI (pI s1 263 0 (zI 0)) 263 1 + 1 = zI ((i + 1 : Nat) : Int) := by rw [gI_s, if_neg (by decide), q1']; exact ei
      have le0 : zI 0 ≤ 0 := by decide
      rw [c586, g0, if_neg n1, if_neg nm, e5i, e1, e2]
      dsimp only []
      rw [c0, c1', k0, if_pos le0, k1, ← hs2, ei]
      exact ⟨rfl, fun hh => ⟨fun hc => absurd hc n1, fun _ => ⟨fun hc => absurd hc nm, fun _ => ⟨e3, fun s3 hs3 => by rw [hs3, k0, k1, ← hs2]; exact ⟨fun _ => hh, fun hc => absurd le0 hc⟩⟩⟩⟩⟩
    · have ej : jdF g (r + 1) i u = (dzW (g (587 + 5 * i)) (g (588 + 5 * i)) (g (589 + 5 * i)) (g (591 + 5 * i)) u, i, u) := by
        show (if _ then _ else _) = _
        rw [if_neg hz]
      rw [dzG_n hz] at e5
      rw [ej]
      generalize hW : dzW (g (587 + 5 * i)) (g (588 + 5 * i)) (g (589 + 5 * i)) (g (591 + 5 * i)) u = W at *
      obtain ⟨s2, hs2⟩ : ∃ s2, s2 = pI s1 263 0 (zI W) := ⟨_, rfl⟩
      have f2 : Fp JxA s1 s2 := by rw [hs2]; exact Fp_p s1 (by omega)
      have r2 : RR s2 u := RR_fp e5 (A := fun c _ => c = 263) (by rw [hs2]; exact Fp_p s1 rfl) (fun i => by omega)
      have k0 : gI s2 263 0 = zI W := by rw [hs2, gI_s, if_pos rfl]
      have le0 : ¬ zI W ≤ 0 := by rw [zl0, z_le (by omega) (by omega)]; omega
      have g02 : gI s2 250 586 = zI (g 586) := by rw [r2, h2 586 (by omega)]
      refine ⟨s2, zI ((i + 1 : Nat) : Int), Fp_tr (Fp_mo e4 (fun c j hc => by omega)) f2, r2, k0, by rw [hs2, gI_s, if_neg (by decide), e4.1 263 1 (by omega)]; exact q1, fun k hk => by rw [hs2, gI_s, if_neg (by omega), e4.1 263 k (by omega)], ST_mono (ST_trans (B1 := 1) (B2 := 1) (F' := fun m => (lX12_judge m).2.1 s2 a1 (zI (i : Int)) (zI ((i + 1 : Nat) : Int))) (C' := fun m => (qX12_judge m).2.1 s2 a1 (zI (i : Int)) (zI ((i + 1 : Nat) : Int))) (ST_1 fun m => ?_) (ST_1 fun m => ?_)) (by omega)⟩
      · rw [lpX12_judge_45, qpX12_judge_45]
        unfold tX12_judge_45 uX12_judge_45
        rw [c586, g0, if_neg n1, if_neg nm, e5i, e1, e2]
        dsimp only []
        rw [c0, ← hs2, k0, if_neg le0, ei]
        exact ⟨rfl, fun hh => ⟨fun hc => absurd hc n1, fun _ => ⟨fun hc => absurd hc nm, fun _ => ⟨e3, fun s3 hs3 => by rw [hs3, k0]; exact ⟨fun hc => absurd hc le0, fun _ => hh⟩⟩⟩⟩⟩
      · dsimp only
        rw [lpX12_judge_45, qpX12_judge_45]
        unfold tX12_judge_45 uX12_judge_45
        have le2 : (0 : Int32) ≤ zI (i : Int) := by rw [zl0, z_le (by omega) (by omega)]; omega
        have ew : (if W = 0 then (-1 : Int) else (i : Int)) = i := if_neg hz
        rw [c586, g02, ew, if_pos le2]
        exact ⟨by split <;> rfl, fun hh => ⟨fun _ => hh, fun _ => ⟨fun _ => hh, fun hc => absurd le2 hc⟩⟩⟩
end
