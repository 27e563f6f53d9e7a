-- needs: 6zo.fit
theorem loL_mo (g : Nat → Int) : ∀ r d : Nat, (loL g d).length ≤ (loL g (d + r)).length ∧ ∀ i, i < (loL g d).length → loE (loL g (d + r)) i = loE (loL g d) i := by
  intro r
  induction r with
  | zero => intro d; exact ⟨Nat.le_refl _, fun _ _ => rfl⟩
  | succ r ih =>
    intro d
    obtain ⟨i1, i2⟩ := ih d
    have e : loL g (d + (r + 1)) = if loZ g ((d + r : Nat) : Int) then loL g (d + r) ++ [d + r] else loL g (d + r) := rfl
    rw [e]
    by_cases c : loZ g ((d + r : Nat) : Int)
    · rw [if_pos c]
      exact ⟨by rw [List.length_append]; show _ ≤ _ + 1; omega, fun i hi => by rw [loE_a, if_neg (by omega)]; exact i2 i hi⟩
    · rw [if_neg c]; exact ⟨i1, i2⟩
section
variable {s : SM} {g : Nat → Int}
/-- the class gathers what is lost -/
theorem y_findLost (hw : WF g) (h : LdR s 31 5 g) (hg : gD s 2 = some 31) : ∃ s', mX1_findLost s = s' ∧ rX1_findLost s ∧ Fp (fun c i => c = 234 ∨ (c = 233 ∧ i = 6)) s s' ∧ gD s' = gD s ∧ ((vX1_findLost s = 1 ∧ (loL g (g 34).toNat).length ≤ 4 ∧ gI s' 233 6 = zI ((loL g (g 34).toNat).length : Int) ∧ ∀ i, i < (loL g (g 34).toNat).length → gI s' 234 i = zI (loE (loL g (g 34).toNat) i : Int)) ∨ (vX1_findLost s = 0 ∧ 4 < (loL g (g 34).toNat).length)) := by
  have h0 := hw.w0
  obtain ⟨n, hn⟩ : ∃ n, n = (g 34).toNat := ⟨_, rfl⟩
  have enn : (n : Int) = g 34 := by omega
  rw [← hn]
  have rf : rfx 31 8 = 5 := by decide
  have mLX : ((31, 5) : Nat × Nat) ∈ LX := by decide
  have key : ∀ r d : Nat, d + r = n → ∀ u : SM, Fp (fun c i => c = 234 ∨ (c = 233 ∧ i = 6)) s u → gD u = gD s → (loL g d).length ≤ 4 → gI u 233 6 = zI ((loL g d).length : Int) → (∀ i, i < (loL g d).length → gI u 234 i = zI (loE (loL g d) i : Int)) → ∃ v u', ST (r + 1) (fun k => lX1_findLost k u (zI (d : Int))) (fun k => qX1_findLost k u (zI (d : Int))) (fun _ => (v, u')) (fun _ => True) ∧ Fp (fun c i => c = 234 ∨ (c = 233 ∧ i = 6)) s u' ∧ gD u' = gD s ∧ ((v = (1 : Int32) ∧ (loL g n).length ≤ 4 ∧ gI u' 233 6 = zI ((loL g n).length : Int) ∧ ∀ i, i < (loL g n).length → gI u' 234 i = zI (loE (loL g n) i : Int)) ∨ (v = 0 ∧ 4 < (loL g n).length)) := by
    intro r
    induction r with
    | zero =>
      intro d hd u f1 f2 f3 f4 f5
      have ed : d = n := by omega
      subst ed
      have hu : gD u 2 = some 31 := by rw [f2]; exact hg
      have hx : gDx u 2 = 31 := by unfold gDx; rw [hu]; rfl
      have lu : LdR u 31 5 g := LdR_fp h f1 (fun c i hc => by omega)
      have e9 : gI u 31 9 = zI (d : Int) := by rw [enn]; exact lu.2.1.1
      refine ⟨1, u, ST_1 fun k => ?_, f1, f2, Or.inl ⟨rfl, f3, f4, f5⟩⟩
      show tX1_findLost_7 (lX1_findLost k) u (zI (d : Int)) = _ ∧ (_ → uX1_findLost_7 (qX1_findLost k) u (zI (d : Int)))
      unfold tX1_findLost_7 uX1_findLost_7
      rw [hx, e9, if_pos (Int32.le_refl _), rf]
      exact ⟨rfl, fun _ => ⟨hu, mLX, fun hc => absurd (Int32.le_refl _) hc⟩⟩
    | succ r ih =>
      intro d hd u f1 f2 f3 f4 f5
      have hu : gD u 2 = some 31 := by rw [f2]; exact hg
      have hx : gDx u 2 = 31 := by unfold gDx; rw [hu]; rfl
      have lu : LdR u 31 5 g := LdR_fp h f1 (fun c i hc => by omega)
      have e9 : gI u 31 9 = zI (n : Int) := by rw [enn]; exact lu.2.1.1
      have nle : ¬ zI (n : Int) ≤ zI (d : Int) := by rw [z_le (by omega) (by omega)]; omega
      have hdl : dlZ g (d : Int) := ⟨by omega, by omega⟩
      obtain ⟨il, ir⟩ := y_isLost lu hw hdl
      have e1 : zI (d : Int) + 1 = zI ((d + 1 : Nat) : Int) := by rw [zl1, z_add]; congr 1
      have el : loL g (d + 1) = if loZ g (d : Int) then loL g d ++ [d] else loL g d := rfl
      by_cases c : loZ g (d : Int)
      · rw [if_pos c] at el
        have nl : ¬ vX4_isLost u 31 5 (zI (d : Int)) = 0 := by rw [il, bI_0]; exact fun hc => hc c
        have ll : (loL g (d + 1)).length = (loL g d).length + 1 := by rw [el, List.length_append]; rfl
        by_cases c4 : (loL g d).length < 4
        · obtain ⟨q, hq⟩ : ∃ q, q = (loL g d).length := ⟨_, rfl⟩
          rw [← hq] at f4 c4
          have l4 : zI (q : Int) < 4 := by rw [show (4 : Int32) = zI 4 from rfl, z_lt (by omega) (by omega)]; omega
          have cq : (zI (q : Int)).toNatClampNeg = q := by rw [z_cl (by omega)]; exact Int.toNat_natCast _
          have eq1 : zI (q : Int) + 1 = zI ((q + 1 : Nat) : Int) := by rw [zl1, z_add]; congr 1
          obtain ⟨u6, hu6⟩ : ∃ u6, u6 = pI (pI u 234 q (zI (d : Int))) 233 6 (zI ((q + 1 : Nat) : Int)) := ⟨_, rfl⟩
          have g6 : gI (pI u 234 q (zI (d : Int))) 233 6 = zI (q : Int) := by rw [gI_pI, if_neg (by omega)]; exact f4
          have f6 : Fp (fun c i => (c = 234 ∧ i = q) ∨ (c = 233 ∧ i = 6)) u u6 := by rw [hu6]; exact Fp_tr (Fp_p u (by omega)) (Fp_p _ (by omega))
          obtain ⟨v, u', st, h1, h2, h3⟩ := ih (d + 1) (by omega) u6 (Fp_tr f1 (Fp_mo f6 (fun c i hc => by omega))) (by rw [hu6, gD_pI, gD_pI]; exact f2) (by omega) (by rw [ll, ← hq, hu6, gI_pI, if_pos ⟨rfl, rfl⟩]) (fun i hi => by
            rw [el, loE_a, ← hq]
            by_cases ci : i = q
            · rw [if_pos ci, hu6, gI_pI, if_neg (by omega), gI_pI, if_pos ⟨rfl, ci⟩]
            · rw [if_neg ci, f6.1 234 i (by omega)]; exact f5 i (by omega))
          refine ⟨v, u', ST_mono (ST_trans (B1 := 1) (ST_1 fun k => ?_) st) (by omega), h1, h2, h3⟩
          show tX1_findLost_7 (lX1_findLost k) u (zI (d : Int)) = _ ∧ (_ → uX1_findLost_7 (qX1_findLost k) u (zI (d : Int)))
          unfold tX1_findLost_7 uX1_findLost_7
          rw [hx, e9, if_neg nle, rf, if_neg nl, f4, if_pos l4, cq, g6, eq1, ← hu6, e1]
          exact ⟨rfl, fun hh => ⟨hu, mLX, fun _ => ⟨hu, mLX, ir, fun hc => absurd hc nl, fun _ _ => ⟨by rw [z_in (by omega)]; omega, fun s6 h6 => by rw [h6]; exact hh⟩⟩⟩⟩
        · have l4 : ¬ zI ((loL g d).length : Int) < 4 := by rw [show (4 : Int32) = zI 4 from rfl, z_lt (by omega) (by omega)]; omega
          refine ⟨0, u, ST_mono (ST_1 fun k => ?_) (show 1 ≤ r + 1 + 1 by omega), f1, f2, Or.inr ⟨rfl, ?_⟩⟩
          · show tX1_findLost_7 (lX1_findLost k) u (zI (d : Int)) = _ ∧ (_ → uX1_findLost_7 (qX1_findLost k) u (zI (d : Int)))
            unfold tX1_findLost_7 uX1_findLost_7
            rw [hx, e9, if_neg nle, rf, if_neg nl, f4, if_neg l4]
            exact ⟨rfl, fun _ => ⟨hu, mLX, fun _ => ⟨hu, mLX, ir, fun hc => absurd hc nl, fun _ hc => absurd hc l4⟩⟩⟩
          · have := (loL_mo g r (d + 1)).1
            rw [show d + 1 + r = n by omega] at this
            omega
      · rw [if_neg c] at el
        have nl : vX4_isLost u 31 5 (zI (d : Int)) = 0 := by rw [il, bI_0]; exact c
        obtain ⟨v, u', st, h1, h2, h3⟩ := ih (d + 1) (by omega) u f1 f2 (by rw [el]; exact f3) (by rw [el]; exact f4) (by rw [el]; exact f5)
        refine ⟨v, u', ST_mono (ST_trans (B1 := 1) (ST_1 fun k => ?_) st) (by omega), h1, h2, h3⟩
        show tX1_findLost_7 (lX1_findLost k) u (zI (d : Int)) = _ ∧ (_ → uX1_findLost_7 (qX1_findLost k) u (zI (d : Int)))
        unfold tX1_findLost_7 uX1_findLost_7
        rw [hx, e9, if_neg nle, rf, if_pos nl, e1]
        exact ⟨rfl, fun hh => ⟨hu, mLX, fun _ => ⟨hu, mLX, ir, fun _ => hh, fun hc => absurd nl hc⟩⟩⟩
  obtain ⟨s0, hs0⟩ : ∃ s0, s0 = pI s 233 6 0 := ⟨_, rfl⟩
  have f0 : Fp (fun c i => c = 234 ∨ (c = 233 ∧ i = 6)) s s0 := by rw [hs0]; exact Fp_p s (by omega)
  have e00 : (loL g 0).length = 0 := rfl
  obtain ⟨v, u', st, h1, h2, h3⟩ := key n 0 (by omega) s0 f0 (by rw [hs0, gD_pI]) (by omega) (by rw [hs0, gI_pI, if_pos ⟨rfl, rfl⟩, e00]; rfl) (fun i hi => absurd hi (by omega))
  obtain ⟨E, R⟩ := ST_fu st (by omega)
  have E' : fX1_findLost s = (v, u') := by unfold fX1_findLost; rw [← hs0]; exact E
  have R' : rX1_findLost s := by unfold rX1_findLost; rw [← hs0]; exact R
  refine ⟨u', by unfold mX1_findLost; rw [E'], R', h1, h2, ?_⟩
  have ev : vX1_findLost s = v := by unfold vX1_findLost; rw [E']
  rw [ev]
  exact h3
variable {el : Nat → Nat} {m : Nat}
/-- what a BODY needs -/
theorem y_findNeeded (hw : WF g) (hm : m ≤ 4) (hop : ∀ i, i < m → opZ g (el i)) (h : LdR s 31 5 g) (hg : gD s 2 = some 31) (h6 : gI s 233 6 = zI (m : Int)) (hE : ∀ i, i < m → gI s 234 i = zI (el i : Int)) {b : Int} (hb : bdyZ g b) {T : Int} (hT : -100000 ≤ T ∧ T ≤ 100000) : ∃ s', mX1_findNeeded s (zI b) (zI T) = s' ∧ rX1_findNeeded s (zI b) (zI T) ∧ Fp (fun c i => ((c = 238 ∨ c = 239) ∧ i = b.toNat) ∨ (c = 233 ∧ i = 10)) s s' ∧ gD s' = gD s ∧ gI s' 238 b.toNat = zI (T - netZ g b + ovT g el b m) ∧ gI s' 239 b.toNat = zI (laT g el b m) ∧ gI s' 233 10 = (if laT g el b m = -1 ∧ livZ g b ∧ ¬ T - netZ g b + ovT g el b m = 0 then 0 else gI s 233 10) := by
  have h0 := hw.w0
  have hb' : 0 ≤ b ∧ b < 9 := ⟨hb.1, by have := hb.2; omega⟩
  have cb : (zI b).toNatClampNeg = b.toNat := z_cl (by omega)
  have vb : vp_in (zI b) 9 := by rw [z_in (by omega)]; omega
  have rf : rfx 31 8 = 5 := by decide
  have mLX : ((31, 5) : Nat × Nat) ∈ LX := by decide
  have nb := netZ_b hw b
  have hx : gDx s 2 = 31 := by unfold gDx; rw [hg]; rfl
  obtain ⟨n1, n2⟩ := y_netOf h hw (b := b) (by omega)
  have n1' : vX4_netOf s 31 5 (zI b) = zI (netZ g b) := by rw [n1, net_fold]; rfl
  obtain ⟨s5, hs5⟩ : ∃ s5, s5 = pI (pI s 238 b.toNat (zI (T - netZ g b))) 239 b.toNat (-1) := ⟨_, rfl⟩
  have f5 : Fp (fun c i => (c = 238 ∨ c = 239) ∧ i = b.toNat) s s5 := by rw [hs5]; exact Fp_tr (Fp_p s (by omega)) (Fp_p _ (by omega))
  obtain ⟨u, ⟨i1, i2, i3, i4⟩, st⟩ := ST_up (B := 2) m (fun (d : Nat) (u : SM) => Fp (fun c i => (c = 238 ∨ c = 239) ∧ i = b.toNat) s u ∧ gD u = gD s ∧ gI u 238 b.toNat = zI (T - netZ g b + ovT g el b d) ∧ gI u 239 b.toNat = zI (laT g el b d)) (fun d u k => (lX1_findNeeded k).1 u (zI b) (zI T) (zI (d : Int))) (fun d u k => (qX1_findNeeded k).1 u (zI b) (zI T) (zI (d : Int))) (fun d u hd ⟨a1, a2, a3, a4⟩ => by
    have lu : LdR u 31 5 g := LdR_fp h a1 (fun c i hc => by omega)
    have hu : gD u 2 = some 31 := by rw [a2]; exact hg
    have hxu : gDx u 2 = 31 := by unfold gDx; rw [hu]; rfl
    have e6 : gI u 233 6 = zI (m : Int) := by rw [a1.1 233 6 (by omega)]; exact h6
    have nle : ¬ zI (m : Int) ≤ zI (d : Int) := by rw [z_le (by omega) (by omega)]; omega
    have cd : (zI (d : Int)).toNatClampNeg = d := by rw [z_cl (by omega)]; exact Int.toNat_natCast _
    have vd : vp_in (zI (d : Int)) 4 := by rw [z_in (by omega)]; omega
    have e1 : zI (d : Int) + 1 = zI ((d + 1 : Nat) : Int) := by rw [zl1, z_add]; congr 1
    have ho := hop d hd
    have hwd := hw.wd ho.1
    have hft := (hwd.2.2.2.2.2.2.2.2.2 ho.2).2.1
    have he60 := ho.1.2
    have e234 : gI u 234 d = zI (el d : Int) := by rw [a1.1 234 d (by omega)]; exact hE d hd
    have ce : (zI (el d : Int)).toNatClampNeg = el d := by rw [z_cl (by omega)]; exact Int.toNat_natCast _
    have ve : vp_in (zI (el d : Int)) 60 := by rw [z_in (by omega)]; omega
    have hLd := lu.2.2.2 _ ho.1
    have ef : gI u (31 + 1) (el d) = zI (oZ g (el d) 0) := by have := hLd.1; rw [Int.toNat_natCast] at this; exact this
    have et : gI u (31 + 2) (el d) = zI (oZ g (el d) 1) := by have := hLd.2.1; rw [Int.toNat_natCast] at this; exact this
    have zf : zI (oZ g (el d) 0) = zI b ↔ oZ g (el d) 0 = b := z_eq (by omega) (by omega)
    have zt : zI (oZ g (el d) 1) = zI b ↔ oZ g (el d) 1 = b := z_eq (by omega) (by omega)
    have ov := ovT g el b d
    have eo : ovT g el b (d + 1) = ovT g el b d + svT g el b d (valZ g (el d)) := rfl
    have ela : laT g el b (d + 1) = if tcT g el d b then (d : Int) else laT g el b d := rfl
    by_cases ct : tcT g el d b
    · obtain ⟨u2, hu2⟩ : ∃ u2, u2 = pI u 239 b.toNat (zI (d : Int)) := ⟨_, rfl⟩
      have f2 : Fp (fun c i => c = 239 ∧ i = b.toNat) u u2 := by rw [hu2]; exact Fp_p u ⟨rfl, rfl⟩
      have d2 : gD u2 = gD u := by rw [hu2, gD_pI]
      have lu2 : LdR u2 31 5 g := LdR_fp lu f2 (fun c i hc => by omega)
      have hu2' : gD u2 2 = some 31 := by rw [d2]; exact hu
      have hx2 : gDx u2 2 = 31 := by unfold gDx; rw [hu2']; rfl
      obtain ⟨ev, rv⟩ := y_valueOf lu2 hw ho.1
      have ef2 : gI u2 (31 + 1) (el d) = zI (oZ g (el d) 0) := by rw [f2.1 (31 + 1) _ (by omega)]; exact ef
      have e238 : gI u2 238 b.toNat = zI (T - netZ g b + ovT g el b d) := by rw [f2.1 238 _ (by omega)]; exact a3
      have p1 : ST 1 (fun k => (lX1_findNeeded k).1 u (zI b) (zI T) (zI (d : Int))) (fun k => (qX1_findNeeded k).1 u (zI b) (zI T) (zI (d : Int))) (fun k => (lX1_findNeeded k).2 u (zI b) (zI T) (zI (d : Int)) (zI (el d : Int))) (fun k => (qX1_findNeeded k).2 u (zI b) (zI T) (zI (d : Int)) (zI (el d : Int))) := ST_1 fun k => by
        show tX1_findNeeded_25 (lX1_findNeeded k) u (zI b) (zI T) (zI (d : Int)) = _ ∧ (_ → uX1_findNeeded_25 (qX1_findNeeded k) u (zI b) (zI T) (zI (d : Int)))
        unfold tX1_findNeeded_25 uX1_findNeeded_25
        rw [e6, if_neg nle, hxu, cd, e234, ce, ef, et]
        by_cases c0 : oZ g (el d) 0 = b
        · rw [if_pos (zf.mpr c0)]
          exact ⟨rfl, fun hh => ⟨fun hc => absurd hc nle, fun _ => ⟨vd, hu, by rw [rf]; exact mLX, ve, fun _ => hh, fun hc => absurd (zf.mpr c0) hc⟩⟩⟩
        · have c1 := ct.resolve_left c0
          rw [if_neg (fun hc => c0 (zf.mp hc)), if_pos (zt.mpr c1)]
          exact ⟨rfl, fun hh => ⟨fun hc => absurd hc nle, fun _ => ⟨vd, hu, by rw [rf]; exact mLX, ve, fun hc => absurd (zf.mp hc) c0, fun _ => ⟨hu, by rw [rf]; exact mLX, ve, fun hc => absurd (zt.mpr c1) hc, fun _ => hh⟩⟩⟩⟩
      obtain ⟨u3, hu3⟩ : ∃ u3, u3 = pI u2 238 b.toNat (zI (T - netZ g b + ovT g el b (d + 1))) := ⟨_, rfl⟩
      have f3 : Fp (fun c i => c = 238 ∧ i = b.toNat) u2 u3 := by rw [hu3]; exact Fp_p u2 ⟨rfl, rfl⟩
      have p2 : ST 1 (fun k => (lX1_findNeeded k).2 u (zI b) (zI T) (zI (d : Int)) (zI (el d : Int))) (fun k => (qX1_findNeeded k).2 u (zI b) (zI T) (zI (d : Int)) (zI (el d : Int))) (fun k => (lX1_findNeeded k).1 u3 (zI b) (zI T) (zI ((d + 1 : Nat) : Int))) (fun k => (qX1_findNeeded k).1 u3 (zI b) (zI T) (zI ((d + 1 : Nat) : Int))) := ST_1 fun k => by
        show tX1_findNeeded_69 (lX1_findNeeded k) u (zI b) (zI T) (zI (d : Int)) (zI (el d : Int)) = _ ∧ (_ → uX1_findNeeded_69 (qX1_findNeeded k) u (zI b) (zI T) (zI (d : Int)) (zI (el d : Int)))
        unfold tX1_findNeeded_69 uX1_findNeeded_69
        rw [cb, ← hu2, hx2, rf, ce, ef2, ev, e238, e1]
        by_cases c0 : oZ g (el d) 0 = b
        · have c1 : ¬ oZ g (el d) 1 = b := fun hc => hft (by rw [c0, hc])
          have e3 : zI (T - netZ g b + ovT g el b d) + zI (valZ g (el d)) = zI (T - netZ g b + ovT g el b (d + 1)) := by
            rw [z_add, eo]
            unfold svT
            rw [if_pos c0, if_neg c1]
            congr 1; omega
          rw [if_pos (zf.mpr c0), e3, ← hu3]
          exact ⟨rfl, fun hh => ⟨vb, vb, hu2', mLX, ve, fun hc => absurd (zf.mpr c0) hc, fun _ => ⟨hu2', mLX, rv, vb, fun s14 h14 => by rw [h14]; exact hh⟩⟩⟩
        · have c1 := ct.resolve_left c0
          have e3 : zI (T - netZ g b + ovT g el b d) + -(zI (valZ g (el d))) = zI (T - netZ g b + ovT g el b (d + 1)) := by
            rw [z_neg, z_add, eo]
            unfold svT
            rw [if_neg c0, if_pos c1]
            congr 1; omega
          rw [if_neg (fun hc => c0 (zf.mp hc)), e3, ← hu3]
          exact ⟨rfl, fun hh => ⟨vb, vb, hu2', mLX, ve, fun _ => ⟨hu2', mLX, rv, vb, fun s9 h9 => by rw [h9]; exact hh⟩, fun hc => absurd (zf.mp hc) c0⟩⟩
      refine ⟨u3, ⟨Fp_tr a1 (Fp_tr (Fp_mo f2 (fun c i hc => by omega)) (Fp_mo f3 (fun c i hc => by omega))), by rw [hu3, gD_pI, d2]; exact a2, by rw [hu3, gI_pI, if_pos ⟨rfl, rfl⟩], by rw [ela, if_pos ct, f3.1 239 _ (by omega), hu2, gI_pI, if_pos ⟨rfl, rfl⟩]⟩, ST_trans (B1 := 1) (B2 := 1) p1 p2⟩
    · refine ⟨u, ⟨a1, a2, by rw [eo, svT_0 g el ct, Int.add_zero]; exact a3, by rw [ela, if_neg ct]; exact a4⟩, ST_mono (ST_1 fun k => ?_) (show 1 ≤ 2 by omega)⟩
      show tX1_findNeeded_25 (lX1_findNeeded k) u (zI b) (zI T) (zI (d : Int)) = _ ∧ (_ → uX1_findNeeded_25 (qX1_findNeeded k) u (zI b) (zI T) (zI (d : Int)))
      have c0 : ¬ oZ g (el d) 0 = b := fun hc => ct (Or.inl hc)
      have c1 : ¬ oZ g (el d) 1 = b := fun hc => ct (Or.inr hc)
      unfold tX1_findNeeded_25 uX1_findNeeded_25
      rw [e6, if_neg nle, hxu, cd, e234, ce, ef, et, if_neg (fun hc => c0 (zf.mp hc)), if_neg (fun hc => c1 (zt.mp hc)), e1]
      exact ⟨rfl, fun hh => ⟨fun hc => absurd hc nle, fun _ => ⟨vd, hu, by rw [rf]; exact mLX, ve, fun hc => absurd (zf.mp hc) c0, fun _ => ⟨hu, by rw [rf]; exact mLX, ve, fun _ => hh, fun hc => absurd (zt.mp hc) c1⟩⟩⟩⟩) m 0 s5 (by omega) ⟨f5, by rw [hs5, gD_pI, gD_pI], by
      rw [hs5, gI_pI, if_neg (by omega), gI_pI, if_pos ⟨rfl, rfl⟩]
      show _ = zI (T - netZ g b + 0)
      rw [Int.add_zero], by rw [hs5, gI_pI, if_pos ⟨rfl, rfl⟩]; rfl⟩
  have ob := ov_b hw hop b m (Nat.le_refl _)
  have lb := laT_b g el b m
  have lu : LdR u 31 5 g := LdR_fp h i1 (fun c i hc => by omega)
  have hu : gD u 2 = some 31 := by rw [i2]; exact hg
  have hxu : gDx u 2 = 31 := by unfold gDx; rw [hu]; rfl
  have e6 : gI u 233 6 = zI (m : Int) := by rw [i1.1 233 6 (by omega)]; exact h6
  have ylv := y_lives (P := 5) lu.2 b
  have z1 : zI (laT g el b m) = -1 ↔ laT g el b m = -1 := by rw [show (-1 : Int32) = zI (-1) from rfl, z_eq (by omega) (by omega)]
  have z2 : zI (T - netZ g b + ovT g el b m) = 0 ↔ T - netZ g b + ovT g el b m = 0 := by rw [zl0, z_eq (by omega) (by omega)]
  obtain ⟨s', hs'⟩ : ∃ s', s' = (if laT g el b m = -1 ∧ livZ g b ∧ ¬ T - netZ g b + ovT g el b m = 0 then pI u 233 10 0 else u) := ⟨_, rfl⟩
  have fs : Fp (fun c i => c = 233 ∧ i = 10) u s' := by
    rw [hs']
    split
    · exact Fp_p u ⟨rfl, rfl⟩
    · exact Fp_rf _ u
  have p1 : ST 1 (fun k => (lX1_findNeeded k).1 u (zI b) (zI T) (zI (m : Int))) (fun k => (qX1_findNeeded k).1 u (zI b) (zI T) (zI (m : Int))) (fun _ => s') (fun _ => True) := ST_1 fun k => by
    show tX1_findNeeded_25 (lX1_findNeeded k) u (zI b) (zI T) (zI (m : Int)) = _ ∧ (_ → uX1_findNeeded_25 (qX1_findNeeded k) u (zI b) (zI T) (zI (m : Int)))
    unfold tX1_findNeeded_25 uX1_findNeeded_25
    rw [e6, if_pos (Int32.le_refl _), hxu, rf, cb, i4, i3, ylv, hs']
    refine ⟨?_, fun _ => ⟨fun _ => ⟨vb, fun _ => ⟨hu, mLX, fun _ => vb⟩⟩, fun hc => absurd (Int32.le_refl _) hc⟩⟩
    by_cases c1 : laT g el b m = -1
    · rw [if_pos (z1.mpr c1)]
      by_cases c2 : livZ g b
      · rw [if_neg (by rw [bI_0]; exact fun hc => hc c2)]
        by_cases c3 : T - netZ g b + ovT g el b m = 0
        · rw [if_pos (z2.mpr c3), if_neg (fun hc => hc.2.2 c3)]
        · rw [if_neg (fun hc => c3 (z2.mp hc)), if_pos ⟨c1, c2, c3⟩]
      · rw [if_pos (by rw [bI_0]; exact c2), if_neg (fun hc => c2 hc.2.1)]
    · rw [if_neg (fun hc => c1 (z1.mp hc)), if_neg (fun hc => c1 hc.1)]
  obtain ⟨E, R⟩ := ST_fu (ST_trans st p1) (by omega)
  have e5 : zI T - zI (netZ g b) = zI (T - netZ g b) := z_sub _ _
  refine ⟨s', ?_, ?_, Fp_tr (Fp_mo i1 (fun c i hc => Or.inl hc)) (Fp_mo fs (fun c i hc => Or.inr hc)), ?_, ?_, ?_, ?_⟩
  · unfold mX1_findNeeded fX1_findNeeded
    rw [hx, rf, n1', cb, e5, ← hs5]
    exact E
  · unfold rX1_findNeeded
    rw [hx, rf, n1', cb, e5, ← hs5]
    exact ⟨hg, mLX, n2, vb, vb, fun s5' h5 => by rw [h5]; exact R⟩
  · rw [hs']
    split
    · rw [gD_pI]; exact i2
    · exact i2
  · rw [fs.1 238 _ (by omega)]; exact i3
  · rw [fs.1 239 _ (by omega)]; exact i4
  · rw [hs']
    split
    · rw [gI_pI, if_pos ⟨rfl, rfl⟩]
    · exact i1.1 233 10 (by omega)
end
