-- needs: 69g.lasts
section
variable {s : SM} {g : Nat → Int}
theorem y_drawn (s : SM) (x : Int32) {N : Int} (hN : 1 ≤ N ∧ N ≤ 1000) : vX11_drawn s x (zI N) = zI (drZ x N) ∧ rX11_drawn s x (zI N) := by
  unfold vX11_drawn rX11_drawn
  have l1 : (1 : Int32) ≤ zI N := by rw [zl1, z_le (by omega) (by omega)]; omega
  have n0 : ¬ zI N = 0 := by rw [zl0, z_eq (by omega) (by omega)]; omega
  rw [if_pos l1]
  exact ⟨(drZ_z x hN).1, fun _ => n0⟩
theorem y_nextSeed (s : SM) (x : Int32) : vX11_nextSeed s x = nx x := nx_eq x
theorem x_draw (s : SM) {x : Int32} (hx : gI s 248 54 = x) {N : Int} (hN : 1 ≤ N ∧ N ≤ 1000) : vX12_draw s (zI N) = zI (drZ (nx x) N) ∧ mX12_draw s (zI N) = pI s 248 54 (nx x) ∧ rX12_draw s (zI N) := by
  unfold vX12_draw mX12_draw rX12_draw
  have n0 : ¬ zI N = 0 := by rw [zl0, z_eq (by omega) (by omega)]; omega
  rw [hx, nx_eq, gI_s, if_pos rfl]
  exact ⟨(drZ_z (nx x) hN).1, rfl, n0⟩
/-- a turn of the class's -/
theorem y_lturn (h : LdR s 43 5 g) (hw : WF g) (h1 : 1 ≤ g 0) (h2 : 1 ≤ g 1) {law f rf : Int} (hlaw : 0 ≤ law ∧ law ≤ 2) (hf : 0 ≤ f ∧ f ≤ 60) (hrf : 0 ≤ rf ∧ rf < 10) {n : Nat} (hn : n < 200) (x : Int32) {y2 : Int32} : ∃ s', Fr (fun c => InL 43 c ∨ (218 ≤ c ∧ c ≤ 224)) s s' ∧ LdR s' 43 5 (ls3 law (ls1 law f g) x) ∧ ST 3 (fun m => (lX11_lasts m).1 s (zI law) y2 (zI f) (zI rf) x (zI (n : Int))) (fun m => (qX11_lasts m).1 s (zI law) y2 (zI f) (zI rf) x (zI (n : Int))) (fun m => (lX11_lasts m).1 s' (zI law) y2 (zI f) (zI (rf + if lsw (ls1 law f g) x ≤ 1 then 0 else 1)) (nx (nx (nx (nx x)))) (zI ((n + 1 : Nat) : Int))) (fun m => (qX11_lasts m).1 s' (zI law) y2 (zI f) (zI (rf + if lsw (ls1 law f g) x ≤ 1 then 0 else 1)) (nx (nx (nx (nx x)))) (zI ((n + 1 : Nat) : Int))) := by
  have h0 := hw.w0
  have n200 : ((200 : Int) ≤ (n : Int)) = False := eq_false (by omega)
  have n10 : ((10 : Int) ≤ rf) = False := eq_false (by omega)
  have p6 : gI s 5 6 = zI (g 0) := h.1.1.1
  have p7 : gI s 5 7 = zI (g 1) := h.1.1.2.1
  obtain ⟨q1, q2, q3⟩ := ls1_all hw law f
  have e0 : ls1 law f g 0 = g 0 := q2 0 (by omega)
  have e1 : ls1 law f g 1 = g 1 := q2 1 (by omega)
  -- the draws
  have step1 : ∃ s1, Fr (fun c => InL 43 c ∨ (218 ≤ c ∧ c ≤ 224)) s s1 ∧ LdR s1 43 5 (ls1 law f g) ∧ ST 1 (fun m => (lX11_lasts m).1 s (zI law) y2 (zI f) (zI rf) x (zI (n : Int))) (fun m => (qX11_lasts m).1 s (zI law) y2 (zI f) (zI rf) x (zI (n : Int))) (fun m => (lX11_lasts m).2.1 s1 (zI law) y2 (zI f) (zI rf) (nx (nx (nx (nx x)))) (zI (n : Int)) (zI (drZ (nx x) (g 0))) (zI (drZ (nx (nx x)) (g 0))) (zI (drZ (nx (nx (nx x))) (g 1))) (zI (drZ (nx (nx (nx (nx x)))) 99 + 1))) (fun m => (qX11_lasts m).2.1 s1 (zI law) y2 (zI f) (zI rf) (nx (nx (nx (nx x)))) (zI (n : Int)) (zI (drZ (nx x) (g 0))) (zI (drZ (nx (nx x)) (g 0))) (zI (drZ (nx (nx (nx x))) (g 1))) (zI (drZ (nx (nx (nx (nx x)))) 99 + 1))) := by
    obtain ⟨d1, rd1⟩ := y_drawn s (nx x) (N := g 0) (by omega)
    obtain ⟨d2, rd2⟩ := y_drawn s (nx (nx x)) (N := g 0) (by omega)
    obtain ⟨d3, rd3⟩ := y_drawn s (nx (nx (nx x))) (N := g 1) (by omega)
    obtain ⟨d4, rd4⟩ := y_drawn s (nx (nx (nx (nx x)))) (N := 99) (by omega)
    have e99 : (99 : Int32) = zI 99 := rfl
    have hlt := latF_b g f (g 34).toNat
    have hlt : -1 ≤ latZ g f ∧ latZ g f < (g 34).toNat := hlt
    by_cases hl1 : law = 1
    · obtain ⟨el, rl⟩ := y_latest (P := 5) h.2 hw hf
      obtain ⟨t1, t2, t3, t4⟩ := y_tryStrike h (by omega) hw (d := latZ g f) (by omega)
      have k1 : (law = 1) = True := eq_true hl1
      refine ⟨mX4_tryStrike s 43 5 (zI (latZ g f)), Fr_mo t3 (fun c hc => Or.inl hc), by unfold ls1; rw [if_pos hl1]; exact t2, ST_1 fun m => ?_⟩
      rw [lpX11_lasts_59, qpX11_lasts_59]
      generalize hlK : lX11_lasts m = K
      generalize hqK : qX11_lasts m = Q
      simp (disch := omega) only [tX11_lasts_59, uX11_lasts_59, y_nextSeed, p6, p7, zl1, zl10, zl99, zl200, d1, rd1, d2, rd2, d3, rd3, d4, rd4, z_add, z_le, z_eq, n200, n10, k1, el, rl, t4, if_true, if_false, true_and, and_true, not_true, not_false_eq_true, false_implies, true_implies, imp_self, and_self, and_false, false_and, or_true, true_or, or_false, false_or, ite_self, implies_true]
    · have k1 : (law = 1) = False := eq_false hl1
      refine ⟨s, Fr_rf _ s, by unfold ls1; rw [if_neg hl1]; exact h, ST_1 fun m => ?_⟩
      rw [lpX11_lasts_59, qpX11_lasts_59]
      generalize hlK : lX11_lasts m = K
      generalize hqK : qX11_lasts m = Q
      simp (disch := omega) only [tX11_lasts_59, uX11_lasts_59, y_nextSeed, p6, p7, zl1, zl10, zl99, zl200, d1, rd1, d2, rd2, d3, rd3, d4, rd4, z_add, z_le, z_eq, n200, n10, k1, if_true, if_false, true_and, and_true, not_true, not_false_eq_true, false_implies, true_implies, imp_self, and_self, and_false, false_and, or_true, true_or, or_false, false_or, ite_self, implies_true]
  obtain ⟨s1, f1, l1, st1⟩ := step1
  obtain ⟨b1, b2, b3, b4⟩ := lsd q1 (by omega) (by omega) x
  have hwy : lsw (ls1 law f g) x = wyZ (ls1 law f g) (drZ (nx x) (g 0)) (drZ (nx (nx x)) (g 0)) (drZ (nx (nx (nx x))) (g 1)) := by unfold lsw; rw [e0, e1]
  have h22 : ls2 (ls1 law f g) x = if lsw (ls1 law f g) x = 0 then wrZ (ls1 law f g) (drZ (nx x) (g 0)) (drZ (nx (nx x)) (g 0)) (drZ (nx (nx (nx (nx x)))) 99 + 1) (drZ (nx (nx (nx x))) (g 1)) else ls1 law f g := by unfold ls2; rw [e0, e1]
  rw [e0] at b1 b2
  rw [e1] at b3
  obtain ⟨t1, t2, t3, t4⟩ := y_tryWrite l1 (by omega) q1 b1 b2 b3 b4
  rw [← hwy] at t1 t2
  rw [← h22] at t2
  have hyb := wyZ_b (ls1 law f g) (drZ (nx x) (g 0)) (drZ (nx (nx x)) (g 0)) (drZ (nx (nx (nx x))) (g 1))
  rw [← hwy] at hyb
  obtain ⟨w2, -, -⟩ := ls2_all q1 (by omega) (by omega) x
  have step2 : ∃ s2, Fr (fun c => InL 43 c ∨ (218 ≤ c ∧ c ≤ 224)) s1 s2 ∧ LdR s2 43 5 (ls3 law (ls1 law f g) x) ∧ ST 1 (fun m => (lX11_lasts m).2.1 s1 (zI law) y2 (zI f) (zI rf) (nx (nx (nx (nx x)))) (zI (n : Int)) (zI (drZ (nx x) (g 0))) (zI (drZ (nx (nx x)) (g 0))) (zI (drZ (nx (nx (nx x))) (g 1))) (zI (drZ (nx (nx (nx (nx x)))) 99 + 1))) (fun m => (qX11_lasts m).2.1 s1 (zI law) y2 (zI f) (zI rf) (nx (nx (nx (nx x)))) (zI (n : Int)) (zI (drZ (nx x) (g 0))) (zI (drZ (nx (nx x)) (g 0))) (zI (drZ (nx (nx (nx x))) (g 1))) (zI (drZ (nx (nx (nx (nx x)))) 99 + 1))) (fun m => (lX11_lasts m).2.2 s2 (zI law) y2 (zI f) (zI rf) (nx (nx (nx (nx x)))) (zI (n : Int)) (zI (drZ (nx x) (g 0))) (zI (drZ (nx (nx x)) (g 0))) (zI (drZ (nx (nx (nx x))) (g 1))) (zI (drZ (nx (nx (nx (nx x)))) 99 + 1)) (zI (lsw (ls1 law f g) x))) (fun m => (qX11_lasts m).2.2 s2 (zI law) y2 (zI f) (zI rf) (nx (nx (nx (nx x)))) (zI (n : Int)) (zI (drZ (nx x) (g 0))) (zI (drZ (nx (nx x)) (g 0))) (zI (drZ (nx (nx (nx x))) (g 1))) (zI (drZ (nx (nx (nx (nx x)))) 99 + 1)) (zI (lsw (ls1 law f g) x))) := by
    rcases tf (lsw (ls1 law f g) x = 0) with k0 | k0
    · rcases tf (law = 2) with k2 | k2
      · obtain ⟨s3, o, c1, -, -, c4, c5, c6, c7⟩ := y_tryCut t2 (by omega) w2 (by decide) (by decide)
        have e3 : ls3 law (ls1 law f g) x = cutO (ls2 (ls1 law f g) x) o := by
          unfold ls3
          rw [if_pos ⟨of_eq_true k0, of_eq_true k2⟩]
          unfold cutG
          rw [bR_eq w2 c6]
        refine ⟨s3, Fr_tr (Fr_mo t3 (fun c hc => Or.inl hc)) c5, by rw [e3]; exact c7, ST_1 fun m => ?_⟩
        rw [lpX11_lasts_176, qpX11_lasts_176]
        generalize hlK : lX11_lasts m = K
        generalize hqK : qX11_lasts m = Q
        simp (disch := omega) only [tX11_lasts_176, uX11_lasts_176, zl0, zl2, z_eq, t1, t4, k0, k2, c1, c4, if_true, if_false, true_and, and_true, not_true, not_false_eq_true, false_implies, true_implies, imp_self, and_self, and_false, false_and, or_true, true_or, or_false, false_or, ite_self, implies_true]
      · have e3 : ls3 law (ls1 law f g) x = ls2 (ls1 law f g) x := by unfold ls3; rw [if_neg (fun hc => (of_eq_false k2) hc.2)]
        refine ⟨_, Fr_mo t3 (fun c hc => Or.inl hc), by rw [e3]; exact t2, ST_1 fun m => ?_⟩
        rw [lpX11_lasts_176, qpX11_lasts_176]
        generalize hlK : lX11_lasts m = K
        generalize hqK : qX11_lasts m = Q
        simp (disch := omega) only [tX11_lasts_176, uX11_lasts_176, zl0, zl2, z_eq, t1, t4, k0, k2, if_true, if_false, true_and, and_true, not_true, not_false_eq_true, false_implies, true_implies, imp_self, and_self, and_false, false_and, or_true, true_or, or_false, false_or, ite_self, implies_true]
    · have e3 : ls3 law (ls1 law f g) x = ls2 (ls1 law f g) x := by unfold ls3; rw [if_neg (fun hc => (of_eq_false k0) hc.1)]
      refine ⟨_, Fr_mo t3 (fun c hc => Or.inl hc), by rw [e3]; exact t2, ST_1 fun m => ?_⟩
      rw [lpX11_lasts_176, qpX11_lasts_176]
      generalize hlK : lX11_lasts m = K
      generalize hqK : qX11_lasts m = Q
      simp (disch := omega) only [tX11_lasts_176, uX11_lasts_176, zl0, zl2, z_eq, t1, t4, k0, if_true, if_false, true_and, and_true, not_true, not_false_eq_true, false_implies, true_implies, imp_self, and_self, and_false, false_and, or_true, true_or, or_false, false_or, ite_self, implies_true]
  obtain ⟨s2, f2, l2, st2⟩ := step2
  refine ⟨s2, Fr_tr f1 f2, l2, ST_trans st1 (ST_trans (B2 := 1) st2 (ST_1 fun m => ?_))⟩
  rw [lpX11_lasts_215, qpX11_lasts_215]
  generalize hlK : lX11_lasts m = K
  generalize hqK : qX11_lasts m = Q
  have e9 : zI rf + (if zI (lsw (ls1 law f g) x) ≤ 1 then 0 else 1) = zI (rf + if lsw (ls1 law f g) x ≤ 1 then 0 else 1) := by
    rw [← z_add]
    by_cases hq : lsw (ls1 law f g) x ≤ 1
    · rw [if_pos hq, if_pos (by rw [zl1, z_le (by omega) (by omega)]; exact hq)]; rfl
    · rw [if_neg hq, if_neg (by rw [zl1, z_le (by omega) (by omega)]; exact hq)]; rfl
  simp only [tX11_lasts_215, uX11_lasts_215, e9, Int.natCast_succ]
  rw [zl1, z_add]
  exact ⟨rfl, fun h => h⟩
theorem y_lasts {law f : Int} (hlaw : 0 ≤ law ∧ law ≤ 2) (hf : 0 ≤ f ∧ f ≤ 60) (y2 : Int32) : ∀ (r : Nat) (s : SM) (g : Nat → Int) (x : Int32) (rf : Int) (n : Nat), n + r = 200 → 0 ≤ rf → rf ≤ 10 → WF g → 1 ≤ g 0 → 1 ≤ g 1 → LdR s 43 5 g → ∃ t, Fr (fun c => InL 43 c ∨ (218 ≤ c ∧ c ≤ 224)) s t ∧ ST (3 * r + 1) (fun m => (lX11_lasts m).1 s (zI law) y2 (zI f) (zI rf) x (zI (n : Int))) (fun m => (qX11_lasts m).1 s (zI law) y2 (zI f) (zI rf) x (zI (n : Int))) (fun _ => (zI (lsF law f r g x rf - f), t)) (fun _ => True) := by
  intro r
  induction r with
  | zero =>
    intro s g x rf n hn hr0 hr hw h1 h2 h
    have e9 : gI s 43 9 = zI (g 34) := h.2.1.1
    have n200 : ((200 : Int) ≤ (n : Int)) = True := eq_true (by omega)
    refine ⟨s, Fr_rf _ s, ST_1 fun m => ?_⟩
    rw [lpX11_lasts_59, qpX11_lasts_59]
    simp (disch := omega) only [tX11_lasts_59, uX11_lasts_59, e9, zl200, z_le, z_sub, n200, lsF, not_true, false_implies, if_true, if_false, true_and, and_true, not_true, not_false_eq_true, false_implies, true_implies, imp_self, and_self, and_false, false_and, or_true, true_or, or_false, false_or, ite_self, implies_true]
  | succ r ih =>
    intro s g x rf n hn hr0 hr hw h1 h2 h
    by_cases h10 : 10 ≤ rf
    · have e9 : gI s 43 9 = zI (g 34) := h.2.1.1
      have n200 : ((200 : Int) ≤ (n : Int)) = False := eq_false (by omega)
      have n10 : ((10 : Int) ≤ rf) = True := eq_true h10
      have e : lsF law f (r + 1) g x rf = g 34 := by unfold lsF; rw [if_pos h10]
      rw [e]
      refine ⟨s, Fr_rf _ s, ST_mono (B1 := 1) (ST_1 fun m => ?_) (by omega)⟩
      rw [lpX11_lasts_59, qpX11_lasts_59]
      simp (disch := omega) only [tX11_lasts_59, uX11_lasts_59, e9, zl10, zl200, z_le, z_sub, n200, n10, not_true, not_false_eq_true, false_implies, if_true, if_false, true_and, and_true, not_true, not_false_eq_true, false_implies, true_implies, imp_self, and_self, and_false, false_and, or_true, true_or, or_false, false_or, ite_self, implies_true]
    · obtain ⟨s1, f1, l1, st1⟩ := y_lturn (y2 := y2) h hw h1 h2 hlaw hf (rf := rf) (by omega) (n := n) (by omega) x
      obtain ⟨q1, q2, q3⟩ := ls1_all hw law f
      have e0 : ls1 law f g 0 = g 0 := q2 0 (by omega)
      have e1 : ls1 law f g 1 = g 1 := q2 1 (by omega)
      obtain ⟨w1, w2, w3⟩ := ls3_all q1 (by omega) (by omega) law x
      have e03 : ls3 law (ls1 law f g) x 0 = g 0 := by rw [w2 0 (by omega), if_neg (by omega), e0]
      have e13 : ls3 law (ls1 law f g) x 1 = g 1 := by rw [w2 1 (by omega), if_neg (by omega), e1]
      obtain ⟨t, t1, t2⟩ := ih s1 _ (nx (nx (nx (nx x)))) (rf + if lsw (ls1 law f g) x ≤ 1 then 0 else 1) (n + 1) (by omega) (by split <;> omega) (by split <;> omega) w1 (by omega) (by omega) l1
      have e : lsF law f (r + 1) g x rf = lsF law f r (ls3 law (ls1 law f g) x) (nx (nx (nx (nx x)))) (rf + if lsw (ls1 law f g) x ≤ 1 then 0 else 1) := by
        show (if 10 ≤ rf then _ else _) = _
        rw [if_neg h10]
      rw [e]
      exact ⟨t, Fr_tr f1 t1, ST_mono (ST_trans st1 t2) (by omega)⟩
end
