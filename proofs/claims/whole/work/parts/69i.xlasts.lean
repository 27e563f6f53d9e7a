-- needs: 69h.lasts
section
variable {s : SM} {g : Nat → Int}
abbrev LaA (c i : Nat) : Prop := BoA c i ∨ c = 250 ∨ (c = 248 ∧ i = 54)
theorem x_lturn (h : RR s g) (hw : WF g) (h1 : 1 ≤ g 0) (h2 : 1 ≤ g 1) {law f rf w : Int} (hlaw : 0 ≤ law ∧ law ≤ 2) (hf : 0 ≤ f ∧ f ≤ g 34) (hrf : 0 ≤ rf ∧ rf < 10) {n : Nat} (hn : n < 200) {x : Int32} (hx : gI s 248 54 = x) {y2 : Int32} : ∃ s', Fp LaA s s' ∧ RR s' (ls3 law (ls1 law f g) x) ∧ gI s' 248 54 = nx (nx (nx (nx x))) ∧ ST 2 (fun m => (lX12_lasts m).1 s (zI law) y2 (zI f) (zI w) (zI rf) (zI (n : Int))) (fun m => (qX12_lasts m).1 s (zI law) y2 (zI f) (zI w) (zI rf) (zI (n : Int))) (fun m => (lX12_lasts m).1 s' (zI law) y2 (zI f) (zI (w + if lsw (ls1 law f g) x = 0 then 1 else 0)) (zI (rf + if lsw (ls1 law f g) x ≤ 1 then 0 else 1)) (zI ((n + 1 : Nat) : Int))) (fun m => (qX12_lasts m).1 s' (zI law) y2 (zI f) (zI (w + if lsw (ls1 law f g) x = 0 then 1 else 0)) (zI (rf + if lsw (ls1 law f g) x ≤ 1 then 0 else 1)) (zI ((n + 1 : Nat) : Int))) := by
  have h0 := hw.w0
  have n200 : ((200 : Int) ≤ (n : Int)) = False := eq_false (by omega)
  have n10 : ((10 : Int) ≤ rf) = False := eq_false (by omega)
  obtain ⟨q1, q2, q3⟩ := ls1_all hw law f
  have e0 : ls1 law f g 0 = g 0 := q2 0 (by omega)
  have e1 : ls1 law f g 1 = g 1 := q2 1 (by omega)
  have e34 : ls1 law f g 34 = g 34 := q2 34 (by omega)
  have step1 : ∃ s1, Fp LaA s s1 ∧ RR s1 (ls1 law f g) ∧ gI s1 248 54 = nx (nx (nx (nx x))) ∧ ST 1 (fun m => (lX12_lasts m).1 s (zI law) y2 (zI f) (zI w) (zI rf) (zI (n : Int))) (fun m => (qX12_lasts m).1 s (zI law) y2 (zI f) (zI w) (zI rf) (zI (n : Int))) (fun m => (lX12_lasts m).2 s1 (zI law) y2 (zI f) (zI w) (zI rf) (zI (n : Int)) (zI (drZ (nx x) (g 0))) (zI (drZ (nx (nx x)) (g 0))) (zI (drZ (nx (nx (nx x))) (g 1))) (zI (1 + drZ (nx (nx (nx (nx x)))) 99))) (fun m => (qX12_lasts m).2 s1 (zI law) y2 (zI f) (zI w) (zI rf) (zI (n : Int)) (zI (drZ (nx x) (g 0))) (zI (drZ (nx (nx x)) (g 0))) (zI (drZ (nx (nx (nx x))) (g 1))) (zI (1 + drZ (nx (nx (nx (nx x)))) 99))) := by
    obtain ⟨d1, m1, rd1⟩ := x_draw s hx (N := g 0) (by omega)
    obtain ⟨sa, hsa⟩ : ∃ sa, sa = pI s 248 54 (nx x) := ⟨_, rfl⟩
    have xa : gI sa 248 54 = nx x := by rw [hsa, gI_s, if_pos rfl]
    obtain ⟨d2, m2, rd2⟩ := x_draw sa xa (N := g 0) (by omega)
    obtain ⟨sb, hsb⟩ : ∃ sb, sb = pI sa 248 54 (nx (nx x)) := ⟨_, rfl⟩
    have xb : gI sb 248 54 = nx (nx x) := by rw [hsb, gI_s, if_pos rfl]
    obtain ⟨d3, m3, rd3⟩ := x_draw sb xb (N := g 1) (by omega)
    obtain ⟨sc, hsc⟩ : ∃ sc, sc = pI sb 248 54 (nx (nx (nx x))) := ⟨_, rfl⟩
    have xc : gI sc 248 54 = nx (nx (nx x)) := by rw [hsc, gI_s, if_pos rfl]
    obtain ⟨d4, m4, rd4⟩ := x_draw sc xc (N := 99) (by omega)
    obtain ⟨sd, hsd⟩ : ∃ sd, sd = pI sc 248 54 (nx (nx (nx (nx x)))) := ⟨_, rfl⟩
    have xd : gI sd 248 54 = nx (nx (nx (nx x))) := by rw [hsd, gI_s, if_pos rfl]
    rw [← hsa] at m1
    rw [← hsb] at m2
    rw [← hsc] at m3
    rw [← hsd] at m4
    have ra : RR sa g := by rw [hsa]; exact RR_p h (by decide) _ _
    have rb : RR sb g := by rw [hsb]; exact RR_p ra (by decide) _ _
    have rc : RR sc g := by rw [hsc]; exact RR_p rb (by decide) _ _
    have rd : RR sd g := by rw [hsd]; exact RR_p rc (by decide) _ _
    have fd : Fp LaA s sd := by rw [hsd, hsc, hsb, hsa]; exact Fp_tr (Fp_p s (by omega)) (Fp_tr (Fp_p _ (by omega)) (Fp_tr (Fp_p _ (by omega)) (Fp_p _ (by omega))))
    have z0 := x_0 h
    have z0a := x_0 ra
    have z1b := x_1 rb
    by_cases hl1 : law = 1
    · have k1 : (law = 1) = True := eq_true hl1
      obtain ⟨el, rl⟩ := x_latest rd hw hf
      have hlt : -1 ≤ latZ g f ∧ latZ g f < (g 34).toNat := latF_b g f (g 34).toNat
      obtain ⟨ew, rw'⟩ := x_whyStrike rd hw (d := latZ g f) (by omega)
      have hwb := wsZ_b g (latZ g f)
      by_cases hneg : latZ g f < 0
      · have k2 : (latZ g f < 0) = True := eq_true hneg
        have e : ls1 law f g = g := by
          unfold ls1
          rw [if_pos hl1, if_neg]
          intro hc
          have := (skZ_wf hw hc).2.1.1
          omega
        refine ⟨sd, fd, by rw [e]; exact rd, xd, ST_1 fun m => ?_⟩
        rw [lpX12_lasts_60, qpX12_lasts_60]
        generalize hlK : lX12_lasts m = K
        generalize hqK : qX12_lasts m = Q
        simp (disch := omega) only [tX12_lasts_60, uX12_lasts_60, z0, d1, m1, rd1, z0a, d2, m2, rd2, z1b, d3, m3, rd3, zl10, zl99, zl200, d4, m4, rd4, ← zl1, z_le, n200, n10, forall_eq, if_true, if_false, true_and, and_true, not_true, not_false_eq_true, false_implies, true_implies, imp_self, and_self, and_false, false_and, or_true, true_or, or_false, false_or, ite_self, implies_true]
        simp (disch := omega) only [zl0, zl1, z_eq, z_lt, z_add, k1, el, rl, k2, if_true, if_false, true_and, and_true, not_true, not_false_eq_true, false_implies, true_implies, imp_self, and_self, and_false, false_and, or_true, true_or, or_false, false_or, ite_self, implies_true]
      · have k2 : (latZ g f < 0) = False := eq_false hneg
        by_cases hz : wsZ g (latZ g f) = 0
        · have k3 : (wsZ g (latZ g f) = 0) = True := eq_true hz
          obtain ⟨u1, u2, u3⟩ := x_strikes rd hw (skZ_wf hw hz).2
          refine ⟨mX12_strikes sd (zI (latZ g f)), Fp_tr fd (Fp_fr u2 (fun c hc i => by omega)), by unfold ls1; rw [if_pos hl1, if_pos hz]; exact u1, by rw [u2.1 248 (by omega)]; exact xd, ST_1 fun m => ?_⟩
          rw [lpX12_lasts_60, qpX12_lasts_60]
          generalize hlK : lX12_lasts m = K
          generalize hqK : qX12_lasts m = Q
          simp (disch := omega) only [tX12_lasts_60, uX12_lasts_60, z0, d1, m1, rd1, z0a, d2, m2, rd2, z1b, d3, m3, rd3, zl10, zl99, zl200, d4, m4, rd4, ← zl1, z_le, n200, n10, forall_eq, if_true, if_false, true_and, and_true, not_true, not_false_eq_true, false_implies, true_implies, imp_self, and_self, and_false, false_and, or_true, true_or, or_false, false_or, ite_self, implies_true]
          simp (disch := omega) only [zl0, zl1, z_eq, z_lt, z_add, k1, el, rl, k2, ew, rw', k3, u3, forall_eq, if_true, if_false, true_and, and_true, not_true, not_false_eq_true, false_implies, true_implies, imp_self, and_self, and_false, false_and, or_true, true_or, or_false, false_or, ite_self, implies_true]
        · have k3 : (wsZ g (latZ g f) = 0) = False := eq_false hz
          have e : ls1 law f g = g := by unfold ls1; rw [if_pos hl1, if_neg hz]
          refine ⟨sd, fd, by rw [e]; exact rd, xd, ST_1 fun m => ?_⟩
          rw [lpX12_lasts_60, qpX12_lasts_60]
          generalize hlK : lX12_lasts m = K
          generalize hqK : qX12_lasts m = Q
          simp (disch := omega) only [tX12_lasts_60, uX12_lasts_60, z0, d1, m1, rd1, z0a, d2, m2, rd2, z1b, d3, m3, rd3, zl10, zl99, zl200, d4, m4, rd4, ← zl1, z_le, n200, n10, forall_eq, if_true, if_false, true_and, and_true, not_true, not_false_eq_true, false_implies, true_implies, imp_self, and_self, and_false, false_and, or_true, true_or, or_false, false_or, ite_self, implies_true]
          simp (disch := omega) only [zl0, zl1, z_eq, z_lt, z_add, k1, el, rl, k2, ew, rw', k3, if_true, if_false, true_and, and_true, not_true, not_false_eq_true, false_implies, true_implies, imp_self, and_self, and_false, false_and, or_true, true_or, or_false, false_or, ite_self, implies_true]
    · have k1 : (law = 1) = False := eq_false hl1
      have e : ls1 law f g = g := by unfold ls1; rw [if_neg hl1]
      refine ⟨sd, fd, by rw [e]; exact rd, xd, ST_1 fun m => ?_⟩
      rw [lpX12_lasts_60, qpX12_lasts_60]
      generalize hlK : lX12_lasts m = K
      generalize hqK : qX12_lasts m = Q
      simp (disch := omega) only [tX12_lasts_60, uX12_lasts_60, z0, d1, m1, rd1, z0a, d2, m2, rd2, z1b, d3, m3, rd3, zl10, zl99, zl200, d4, m4, rd4, ← zl1, z_le, n200, n10, forall_eq, if_true, if_false, true_and, and_true, not_true, not_false_eq_true, false_implies, true_implies, imp_self, and_self, and_false, false_and, or_true, true_or, or_false, false_or, ite_self, implies_true]
      simp (disch := omega) only [zl0, zl1, z_eq, z_add, k1, if_true, if_false, true_and, and_true, not_true, not_false_eq_true, false_implies, true_implies, imp_self, and_self, and_false, false_and, or_true, true_or, or_false, false_or, ite_self, implies_true]
  obtain ⟨s1, f1, l1, x1, st1⟩ := step1
  obtain ⟨b1, b2, b3, b4⟩ := lsd q1 (by omega) (by omega) x
  have hwy : lsw (ls1 law f g) x = wyZ (ls1 law f g) (drZ (nx x) (g 0)) (drZ (nx (nx x)) (g 0)) (drZ (nx (nx (nx x))) (g 1)) := by unfold lsw; rw [e0, e1]
  have h22 : ls2 (ls1 law f g) x = if lsw (ls1 law f g) x = 0 then wrZ (ls1 law f g) (drZ (nx x) (g 0)) (drZ (nx (nx x)) (g 0)) (drZ (nx (nx (nx (nx x)))) 99 + 1) (drZ (nx (nx (nx x))) (g 1)) else ls1 law f g := by unfold ls2; rw [e0, e1]
  rw [e0] at b1 b2
  rw [e1] at b3
  obtain ⟨t1, t2⟩ := x_whyWrite l1 q1 b1 b2 b3
  rw [← hwy] at t1
  have hyb := wyZ_b (ls1 law f g) (drZ (nx x) (g 0)) (drZ (nx (nx x)) (g 0)) (drZ (nx (nx (nx x))) (g 1))
  rw [← hwy] at hyb
  obtain ⟨w2, -, -⟩ := ls2_all q1 (by omega) (by omega) x
  have e9 : zI rf + (if zI (lsw (ls1 law f g) x) ≤ 1 then 0 else 1) = zI (rf + if lsw (ls1 law f g) x ≤ 1 then 0 else 1) := by
    rw [← z_add]
    by_cases hq : lsw (ls1 law f g) x ≤ 1
    · rw [if_pos hq, if_pos (by rw [zl1, z_le (by omega) (by omega)]; exact hq)]; rfl
    · rw [if_neg hq, if_neg (by rw [zl1, z_le (by omega) (by omega)]; exact hq)]; rfl
  have en : zI (n : Int) + 1 = zI ((n + 1 : Nat) : Int) := by rw [zl1, z_add]; rfl
  have ec : (1 : Int) + drZ (nx (nx (nx (nx x)))) 99 = drZ (nx (nx (nx (nx x)))) 99 + 1 := Int.add_comm _ _
  rw [ec] at st1
  by_cases hz : lsw (ls1 law f g) x = 0
  · have kz : zI (lsw (ls1 law f g) x) ≤ 0 := by rw [hz]; decide
    have h6 := (wy_0 q1 b1 b2 b3 (by rw [← hwy]; exact hz)).2.2.2.2.2
    obtain ⟨v1, v2, v3⟩ := x_writes (sm := drZ (nx (nx (nx (nx x)))) 99 + 1) l1 q1 b1 b2 b3 h6
    have e22 : ls2 (ls1 law f g) x = wrZ (ls1 law f g) (drZ (nx x) (g 0)) (drZ (nx (nx x)) (g 0)) (drZ (nx (nx (nx (nx x)))) 99 + 1) (drZ (nx (nx (nx x))) (g 1)) := by rw [h22, if_pos hz]
    rw [← e22] at v1
    obtain ⟨s2, hs2⟩ : ∃ s2, s2 = mX12_writes s1 (zI (drZ (nx x) (g 0))) (zI (drZ (nx (nx x)) (g 0))) (zI (drZ (nx (nx (nx (nx x)))) 99 + 1)) (zI (drZ (nx (nx (nx x))) (g 1))) := ⟨_, rfl⟩
    rw [← hs2] at v1 v2
    have ew : zI w + 1 = zI (w + if lsw (ls1 law f g) x = 0 then 1 else 0) := by rw [if_pos hz, zl1, z_add]
    by_cases hl2 : law = 2
    · have k2 : zI law = 2 := by rw [hl2]; rfl
      have e3 : ls3 law (ls1 law f g) x = cutG (ls2 (ls1 law f g) x) := by unfold ls3; rw [if_pos ⟨hz, hl2⟩]
      obtain ⟨s3, o, b, c1, c2, c3, c4, c5, c6, c7, c8⟩ := x_bestO v1 w2
      have e3 : ls3 law (ls1 law f g) x = cutO (ls2 (ls1 law f g) x) o := by rw [e3]; unfold cutG; rw [bR_eq w2 c6]
      have f3 : Fp LaA s s3 := Fp_tr f1 (Fp_tr (Fp_fr v2 (fun c hc i => by omega)) (Fp_mo c4 (fun c i hc => Or.inl hc)))
      cases o with
      | none =>
        have nb : zI b < 0 := by rw [c7 rfl]; decide
        refine ⟨s3, f3, by rw [e3]; exact RR_bo v1 c4, by rw [c4.1 248 54 (by omega), v2.1 248 (by omega)]; exact x1, ST_trans st1 (ST_1 fun m => ?_)⟩
        rw [lpX12_lasts_153, qpX12_lasts_153]
        generalize hlK : lX12_lasts m = K
        generalize hqK : qX12_lasts m = Q
        unfold tX12_lasts_153 uX12_lasts_153
        rw [t1, if_pos kz, if_pos k2, ← hs2, c1, c2, if_pos nb, ew, e9, en]
        exact ⟨rfl, fun hh => ⟨t2, fun _ => ⟨v3, fun hc => absurd k2 hc, fun _ => ⟨c3, fun _ => hh, fun hc => absurd nb hc⟩⟩, fun hc => absurd kz hc⟩⟩
      | some q =>
        have hb1 := c8 q rfl
        have nb : ¬ (zI b < 0) := by rw [zl0, z_lt (by omega) (by omega)]; omega
        obtain ⟨s4, u1, u2, u3, u4, u5⟩ := x_cuts (RR_bo v1 c4) w2 (c6.1 q rfl) c5.2.1 c5.2.2
        refine ⟨s4, Fp_tr f3 (Fp_fr u4 (fun c hc i => by omega)), by rw [e3]; exact u5, by rw [u4.1 248 (by omega), c4.1 248 54 (by omega), v2.1 248 (by omega)]; exact x1, ST_trans st1 (ST_1 fun m => ?_)⟩
        rw [lpX12_lasts_153, qpX12_lasts_153]
        generalize hlK : lX12_lasts m = K
        generalize hqK : qX12_lasts m = Q
        unfold tX12_lasts_153 uX12_lasts_153
        rw [t1, if_pos kz, if_pos k2, ← hs2, c1, c2, if_neg nb, u1, ew, e9, en]
        exact ⟨rfl, fun hh => ⟨t2, fun _ => ⟨v3, fun hc => absurd k2 hc, fun _ => ⟨c3, fun hc => absurd hc nb, fun _ => ⟨u3, hh⟩⟩⟩, fun hc => absurd kz hc⟩⟩
    · have k2 : ¬ zI law = 2 := by rw [show (2 : Int32) = zI 2 from rfl, z_eq (by omega) (by omega)]; exact hl2
      have e3 : ls3 law (ls1 law f g) x = ls2 (ls1 law f g) x := by unfold ls3; rw [if_neg (fun hc => hl2 hc.2)]
      refine ⟨s2, Fp_tr f1 (Fp_fr v2 (fun c hc i => by omega)), by rw [e3]; exact v1, by rw [v2.1 248 (by omega)]; exact x1, ST_trans st1 (ST_1 fun m => ?_)⟩
      rw [lpX12_lasts_153, qpX12_lasts_153]
      generalize hlK : lX12_lasts m = K
      generalize hqK : qX12_lasts m = Q
      unfold tX12_lasts_153 uX12_lasts_153
      rw [t1, if_pos kz, if_neg k2, ← hs2, ew, e9, en]
      exact ⟨rfl, fun hh => ⟨t2, fun _ => ⟨v3, fun _ => hh, fun hc => absurd hc k2⟩, fun hc => absurd kz hc⟩⟩
  · have kz : ¬ zI (lsw (ls1 law f g) x) ≤ 0 := by rw [zl0, z_le (by omega) (by omega)]; omega
    have e3 : ls3 law (ls1 law f g) x = ls1 law f g := by unfold ls3; rw [if_neg (fun hc => hz hc.1), h22, if_neg hz]
    have ew : w + (if lsw (ls1 law f g) x = 0 then 1 else 0) = w := by rw [if_neg hz, Int.add_zero]
    rw [ew]
    refine ⟨s1, f1, by rw [e3]; exact l1, x1, ST_trans st1 (ST_1 fun m => ?_)⟩
    rw [lpX12_lasts_153, qpX12_lasts_153]
    generalize hlK : lX12_lasts m = K
    generalize hqK : qX12_lasts m = Q
    unfold tX12_lasts_153 uX12_lasts_153
    rw [t1, if_neg kz, e9, en]
    exact ⟨rfl, fun hh => ⟨t2, fun hc => absurd hc kz, fun _ => hh⟩⟩
theorem x_lasts {law f : Int} {G : Nat → Int} (hlaw : 0 ≤ law ∧ law ≤ 2) (y2 : Int32) : ∀ (r : Nat) (s : SM) (g : Nat → Int) (x : Int32) (rf w : Int) (n : Nat), n + r = 200 → 0 ≤ rf → rf ≤ 10 → WF g → 1 ≤ g 0 → 1 ≤ g 1 → RR s g → gI s 248 54 = x → 0 ≤ f → 0 ≤ w → g 34 = f + w → (∀ k, k < 34 → g k = G k) → (∀ k, 586 ≤ k → g k = G k) → (∀ k, k < 552 → gI s 259 k = zI (G (34 + k))) → ∃ t, Fp LaA s t ∧ RR t G ∧ ST (2 * r + 1) (fun m => (lX12_lasts m).1 s (zI law) y2 (zI f) (zI w) (zI rf) (zI (n : Int))) (fun m => (qX12_lasts m).1 s (zI law) y2 (zI f) (zI w) (zI rf) (zI (n : Int))) (fun _ => (zI (lsF law f r g x rf - f), t)) (fun _ => True) := by
  intro r
  induction r with
  | zero =>
    intro s g x rf w n hn hr0 hr hw h1 h2 h hx hf hw0 h34 g1 g2 g3
    have n200 : ((200 : Int) ≤ (n : Int)) = True := eq_true (by omega)
    obtain ⟨t, b1, b2, b3, b4⟩ := x_backAll h g1 g2 g3
    have e : lsF law f 0 g x rf - f = w := by show g 34 - f = w; omega
    rw [e]
    refine ⟨t, Fp_fr b3 (fun c hc i => by omega), b4, ST_1 fun m => ?_⟩
    rw [lpX12_lasts_60, qpX12_lasts_60]
    simp (disch := omega) only [tX12_lasts_60, uX12_lasts_60, zl200, z_le, n200, b1, b2, not_true, false_implies, if_true, if_false, true_and, and_true, not_true, not_false_eq_true, false_implies, true_implies, imp_self, and_self, and_false, false_and, or_true, true_or, or_false, false_or, ite_self, implies_true]
  | succ r ih =>
    intro s g x rf w n hn hr0 hr hw h1 h2 h hx hf hw0 h34 g1 g2 g3
    have h0 := hw.w0
    by_cases h10 : 10 ≤ rf
    · have n200 : ((200 : Int) ≤ (n : Int)) = False := eq_false (by omega)
      have n10 : ((10 : Int) ≤ rf) = True := eq_true h10
      obtain ⟨t, b1, b2, b3, b4⟩ := x_backAll h g1 g2 g3
      have e : lsF law f (r + 1) g x rf - f = w := by unfold lsF; rw [if_pos h10]; omega
      rw [e]
      refine ⟨t, Fp_fr b3 (fun c hc i => by omega), b4, ST_mono (B1 := 1) (ST_1 fun m => ?_) (by omega)⟩
      rw [lpX12_lasts_60, qpX12_lasts_60]
      simp (disch := omega) only [tX12_lasts_60, uX12_lasts_60, zl10, zl200, z_le, n200, n10, b1, b2, not_true, not_false_eq_true, false_implies, if_true, if_false, true_and, and_true, not_true, not_false_eq_true, false_implies, true_implies, imp_self, and_self, and_false, false_and, or_true, true_or, or_false, false_or, ite_self, implies_true]
    · obtain ⟨s1, f1, l1, x1, st1⟩ := x_lturn (y2 := y2) (w := w) h hw h1 h2 hlaw (f := f) (by omega) (rf := rf) (by omega) (n := n) (by omega) hx
      obtain ⟨q1, q2, q3⟩ := ls1_all hw law f
      have e0 : ls1 law f g 0 = g 0 := q2 0 (by omega)
      have e1 : ls1 law f g 1 = g 1 := q2 1 (by omega)
      have e34 : ls1 law f g 34 = g 34 := q2 34 (by omega)
      obtain ⟨w1, w2, w3⟩ := ls3_all q1 (by omega) (by omega) law x
      have e03 : ls3 law (ls1 law f g) x 0 = g 0 := by rw [w2 0 (by omega), if_neg (by omega), e0]
      have e13 : ls3 law (ls1 law f g) x 1 = g 1 := by rw [w2 1 (by omega), if_neg (by omega), e1]
      have e343 : ls3 law (ls1 law f g) x 34 = f + (w + if lsw (ls1 law f g) x = 0 then 1 else 0) := by rw [w2 34 (by omega), if_pos rfl, e34, h34]; omega
      obtain ⟨t, t1, t2, t3⟩ := ih s1 _ (nx (nx (nx (nx x)))) (rf + if lsw (ls1 law f g) x ≤ 1 then 0 else 1) (w + if lsw (ls1 law f g) x = 0 then 1 else 0) (n + 1) (by omega) (by split <;> omega) (by split <;> omega) w1 (by omega) (by omega) l1 x1 hf (by split <;> omega) e343 (fun k hk => by rw [w2 k (by omega), if_neg (by omega), q2 k (by omega), g1 k hk]) (fun k hk => by rw [w3 k hk, q3 k hk, g2 k hk]) (fun k hk => by rw [f1.1 259 k (by omega)]; exact g3 k hk)
      have e : lsF law f (r + 1) g x rf = lsF law f r (ls3 law (ls1 law f g) x) (nx (nx (nx (nx x)))) (rf + if lsw (ls1 law f g) x ≤ 1 then 0 else 1) := by
        show (if 10 ≤ rf then _ else _) = _
        rw [if_neg h10]
      rw [e]
      exact ⟨t, Fp_tr f1 t1, t2, ST_mono (ST_trans st1 t3) (by omega)⟩
theorem q_lasts (h : LdR s 31 5 g) (h2 : RR s g) (hw : WF g) (hi : HI s g) (a1 a2 : Int32) : rX11_lasts s a1 a2 ∧ rX12_lasts (mX11_lasts s a1 a2) a1 a2 ∧ vX11_lasts s a1 a2 = vX12_lasts (mX11_lasts s a1 a2) a1 a2 ∧ AOX s g (mX12_lasts (mX11_lasts s a1 a2) a1 a2) := by
  obtain ⟨law, hl, rfl⟩ := z_ex a1
  have h0 := hw.w0
  have fin : ∀ t : SM, RR t g → Fp (fun c i => InL 43 c ∨ (218 ≤ c ∧ c ≤ 224) ∨ c = 250 ∨ c = 256 ∨ c = 257 ∨ c = 259 ∨ (c = 248 ∧ (i = 0 ∨ i = 29 ∨ i = 54))) s t → AOX s g t := fun t hr hf =>
    ⟨g, hw, fun _ _ => rfl, fun _ _ => rfl, LdR_fp h hf (fun c i hc => by omega), hr, HI_fp hi (fun _ _ => rfl) hf (fun c i hc => by omega), Fp_mo hf (fun c i hc => by unfold FreeC; omega)⟩
  have p6 : gI s 5 6 = zI (g 0) := h.1.1.1
  have p7 : gI s 5 7 = zI (g 1) := h.1.1.2.1
  have iS : ∀ t, vX12_isIn t (zI law) 0 2 = bI (0 ≤ law ∧ law ≤ 2) := fun t => x_isIn t hl (b := 0) (c := 2) (by omega) (by omega)
  have s0 : RR (pI s 248 0 0) g := Th_R h2
  have c00 : (0 : Int32).toNatClampNeg = 0 := rfl
  have c01 : (1 : Int32).toNatClampNeg = 1 := rfl
  by_cases hc : (0 ≤ law ∧ law ≤ 2) ∧ 1 ≤ g 0 ∧ 1 ≤ g 1
  · have l1 : ¬ zI law < 0 := by rw [zl0, z_lt hl (by omega)]; omega
    have l2 : ¬ 2 < zI law := by rw [show (2 : Int32) = zI 2 from rfl, z_lt (by omega) hl]; omega
    have n0 : ¬ zI (g 0) = 0 := by rw [zl0, z_eq (by omega) (by omega)]; omega
    have n1 : ¬ zI (g 1) = 0 := by rw [zl0, z_eq (by omega) (by omega)]; omega
    have hT : ∀ t, ¬ vX12_isIn t (zI law) 0 2 = 0 := fun t => by rw [iS, bI_0]; exact not_not_intro hc.1
    obtain ⟨t1, t2, t3⟩ := y_trial h hw
    have e9 : gI (mX4_copyFrom s 43 5 31 5) 43 9 = zI (g 34) := t1.2.1.1
    obtain ⟨s1, f1, st1⟩ := y_lasts (law := law) (f := g 34) hc.1 (by omega) a2 200 _ g a2 0 0 (by omega) (by omega) (by omega) hw hc.2.1 hc.2.2 t1
    obtain ⟨E, R⟩ := ST_fu st1 (by omega)
    have E1 : fX11_lasts s (zI law) a2 = (zI (lsF law (g 34) 200 g a2 0 - g 34), s1) := by
      unfold fX11_lasts
      rw [if_neg l1, if_neg l2, p6, p7, if_neg n0, if_neg n1, e9]
      exact E
    have em : mX11_lasts s (zI law) a2 = s1 := by unfold mX11_lasts; rw [E1]
    have ev : vX11_lasts s (zI law) a2 = zI (lsF law (g 34) 200 g a2 0 - g 34) := by unfold vX11_lasts; rw [E1]
    have r1 : RR s1 g := RR_fr (RR_fr h2 t2 (by omega)) f1 (by omega)
    have z0 : gI (pI s1 248 0 0) 250 (0 : Int32).toNatClampNeg = zI (g 0) := x_0 (Th_R r1)
    have z1 : gI (pI s1 248 0 0) 250 (1 : Int32).toNatClampNeg = zI (g 1) := x_1 (Th_R r1)
    obtain ⟨s2, k1, k2, k3, k4⟩ := x_keepsAll (Th_R r1)
    have k1 : mX12_keepsAll (pI s1 248 0 0) = s2 := k1
    have k2 : rX12_keepsAll (pI s1 248 0 0) := k2
    obtain ⟨s3, hs3⟩ : ∃ s3, s3 = pI s2 248 54 a2 := ⟨_, rfl⟩
    have r3 : RR s3 g := by rw [hs3]; exact RR_p (RR_fr (Th_R r1) k3 (by omega)) (by decide) _ _
    have z34 : gI s3 250 (34 : Int32).toNatClampNeg = zI (g 34) := x_34 r3
    obtain ⟨s4, f4, r4, st4⟩ := x_lasts (law := law) (f := g 34) (G := g) hc.1 a2 200 s3 g a2 0 0 0 (by omega) (by omega) (by omega) hw hc.2.1 hc.2.2 r3 (by rw [hs3, gI_s, if_pos rfl]) (by omega) (by omega) (by omega) (fun _ _ => rfl) (fun _ _ => rfl) (fun k hk => by rw [hs3, gI_n _ _ _ _ (by omega)]; exact k4 k hk)
    obtain ⟨E2, R2⟩ := ST_fu st4 (by omega)
    have E3 : fX12_lasts s1 (zI law) a2 = (zI (lsF law (g 34) 200 g a2 0 - g 34), s4) := by
      unfold fX12_lasts
      rw [if_neg (hT _), z0, z1, if_neg n0, if_neg n1, k1, ← hs3, z34]
      exact E2
    have em2 : mX12_lasts s1 (zI law) a2 = s4 := by unfold mX12_lasts; rw [E3]
    rw [em, ev, em2]
    refine ⟨?_, ?_, by unfold vX12_lasts; rw [E3], fin s4 r4 (Fp_tr (Fp_fr t2 (fun c hc i => by omega)) (Fp_tr (Fp_fr f1 (fun c hc i => by omega)) (Fp_tr (Fp_p s1 (i := 0) (v := zI 0) (c := 248) (by omega)) (Fp_tr (Fp_fr k3 (fun c hc i => by omega)) (Fp_tr (by rw [hs3]; exact Fp_p s2 (by omega)) (Fp_mo f4 (fun c i hc => by omega)))))))⟩
    · unfold rX11_lasts; rw [e9]; exact fun _ _ _ _ => ⟨t3, R⟩
    · unfold rX12_lasts; rw [k1, ← hs3, z34]; exact fun _ _ _ => ⟨k2, R2⟩
  · have no : (zI law < 0) ∨ (2 < zI law) ∨ (zI (g 0) = 0) ∨ (zI (g 1) = 0) := by
      rw [zl0, show (2 : Int32) = zI 2 from rfl, z_lt hl (by omega), z_lt (by omega) hl, z_eq (by omega) (by omega), z_eq (by omega) (by omega)]
      omega
    have E1 : fX11_lasts s (zI law) a2 = (-1, s) ∧ rX11_lasts s (zI law) a2 := by
      unfold fX11_lasts rX11_lasts
      rw [p6, p7]
      by_cases q1 : zI law < 0
      · rw [if_pos q1]; exact ⟨rfl, fun hh => absurd q1 hh⟩
      · by_cases q2 : 2 < zI law
        · rw [if_neg q1, if_pos q2]; exact ⟨rfl, fun _ hh => absurd q2 hh⟩
        · by_cases q3 : zI (g 0) = 0
          · rw [if_neg q1, if_neg q2, if_pos q3]; exact ⟨rfl, fun _ _ hh => absurd q3 hh⟩
          · have q4 : zI (g 1) = 0 := by
              rcases no with n | n | n | n
              · exact absurd n q1
              · exact absurd n q2
              · exact absurd n q3
              · exact n
            rw [if_neg q1, if_neg q2, if_neg q3, if_pos q4]; exact ⟨rfl, fun _ _ _ hh => absurd q4 hh⟩
    have em : mX11_lasts s (zI law) a2 = s := by unfold mX11_lasts; rw [E1.1]
    have ev : vX11_lasts s (zI law) a2 = -1 := by unfold vX11_lasts; rw [E1.1]
    have z0 : gI (pI s 248 0 0) 250 (0 : Int32).toNatClampNeg = zI (g 0) := x_0 s0
    have z1 : gI (pI s 248 0 0) 250 (1 : Int32).toNatClampNeg = zI (g 1) := x_1 s0
    have E2 : fX12_lasts s (zI law) a2 = (-1, pI s 248 0 0) ∧ rX12_lasts s (zI law) a2 := by
      unfold fX12_lasts rX12_lasts
      rw [iS, z0, z1]
      by_cases q1 : 0 ≤ law ∧ law ≤ 2
      · by_cases q3 : zI (g 0) = 0
        · rw [bI_T' q1, if_neg (by decide), if_pos q3]; exact ⟨rfl, fun _ hh => absurd q3 hh⟩
        · have q4 : zI (g 1) = 0 := by
            rw [zl0, z_eq (by omega) (by omega)] at q3 ⊢
            omega
          rw [bI_T' q1, if_neg (by decide), if_neg q3, if_pos q4]; exact ⟨rfl, fun _ _ hh => absurd q4 hh⟩
      · rw [bI_F' q1, if_pos rfl]; exact ⟨rfl, fun hh => absurd rfl hh⟩
    have em2 : mX12_lasts s (zI law) a2 = pI s 248 0 0 := by unfold mX12_lasts; rw [E2.1]
    rw [em, ev, em2]
    exact ⟨E1.2, E2.2, by unfold vX12_lasts; rw [E2.1], fin _ s0 (Fp_p s (by omega))⟩
end
