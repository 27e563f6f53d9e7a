-- needs: 69d.cut 69e.ring 69f.rfor 69g.lasts
/-! a LINE of a BOOK -/
noncomputable def dzW (A B C E : Int) (u : Nat → Int) : Int := if A = 0 then wyZ u B C E else if A = 1 then wsZ u B else if A = 2 then scW u B C else if A = 3 then (if bR u = none then 8 else 0) else if A = 4 then (if B = C ∨ ¬ livZ u B ∨ ¬ livZ u C then 1 else 0) else if u 35 = 99 then 9 else 0
noncomputable def dzG (A B C D E : Int) (u : Nat → Int) : Nat → Int := if dzW A B C E u = 0 then (if A = 0 then wrZ u B C D E else if A = 1 then skZ u B else if A = 2 then scZ u B C else if A = 3 then cutG u else if A = 4 then buP u B C (u 34).toNat else upZ u 35 (u 35 + 1)) else u
def LnD (u : Nat → Int) (A B C D E : Int) : Prop := (0 ≤ A ∧ A ≤ 5) ∧ (A = 0 → bdyZ u B ∧ bdyZ u C ∧ (1 ≤ D ∧ D ≤ 99) ∧ kndZ u E) ∧ (A = 1 → 0 ≤ B ∧ B ≤ 59) ∧ (A = 2 → (0 ≤ B ∧ B ≤ 59) ∧ (C = 0 ∨ C = 1)) ∧ (A = 4 → bdyZ u B ∧ bdyZ u C)
theorem LnD_sp {u v : Nat → Int} {A B C D E : Int} (h : LnD u A B C D E) (h0 : v 0 = u 0) (h1 : v 1 = u 1) : LnD v A B C D E := by
  unfold LnD bdyZ kndZ at h ⊢
  rw [h0, h1]
  exact h
theorem dzW_b {u : Nat → Int} (A B C E : Int) : 0 ≤ dzW A B C E u ∧ dzW A B C E u ≤ 9 := by
  have h1 := wyZ_b u B C E
  have h2 := wsZ_b u B
  have h3 := scW_b u B C
  unfold dzW
  split
  · omega
  · split
    · omega
    · split
      · omega
      · split
        · split <;> omega
        · split
          · split <;> omega
          · split <;> omega
theorem dzG_all {u : Nat → Int} (hw : WF u) {A B C D E : Int} (hl : LnD u A B C D E) : WF (dzG A B C D E u) ∧ (∀ k, k < 34 → dzG A B C D E u k = u k) ∧ ∀ k, 586 ≤ k → dzG A B C D E u k = u k := by
  have h0 := hw.w0
  obtain ⟨l0, l1, l2, l3, l4⟩ := hl
  unfold dzG
  by_cases hz : dzW A B C E u = 0
  · rw [if_pos hz]
    unfold dzW at hz
    by_cases a0 : A = 0
    · rw [if_pos a0] at hz ⊢
      obtain ⟨b1, b2, b3, b4⟩ := l1 a0
      have h6 := (wy_0 hw b1 b2 b4 hz).2.2.2.2.2
      exact ⟨wrZ_wf hw b1 b2 b4 b3 hz, fun k hk => by unfold wrZ; rw [wrX_lo hw _ _ _ _ _ _ (by omega), if_neg (by omega)], fun k hk => wrX_hi hw h6 _ _ _ _ _ _ hk⟩
    · rw [if_neg a0] at hz ⊢
      by_cases a1 : A = 1
      · rw [if_pos a1] at hz ⊢
        obtain ⟨c1, c2⟩ := skZ_wf hw hz
        have hwd := hw.wd c2.1
        have h67 := hwd.2.2.2.2.2.2.2.2.2 c2.2
        refine ⟨c1, fun k hk => ?_, fun k hk => ?_⟩
        · unfold skZ
          rw [exA_lo _ _ (by omega) (by omega), exA_lo _ _ (by omega) (by omega), stD_lo _ _ c2.1.1 (by omega) (by omega)]
        · unfold skZ
          rw [exA_hi _ _ (by omega) (by omega), exA_hi _ _ (by omega) (by omega), stD_hi _ _ (by omega) (by omega) hk]
      · rw [if_neg a1] at hz ⊢
        by_cases a2 : A = 2
        · rw [if_pos a2] at hz ⊢
          have so : opZ u B := Classical.byContradiction (fun hc => by unfold scW at hz; rw [if_neg hc] at hz; omega)
          refine ⟨scZ_wf hw (l3 a2).2 so, fun k hk => ?_, fun k hk => ?_⟩
          · unfold scZ; rw [stD_lo _ _ so.1.1 (by omega) (by omega)]
          · unfold scZ; rw [stD_hi _ _ (by omega) (by omega) hk]
        · rw [if_neg a2] at hz ⊢
          by_cases a3 : A = 3
          · rw [if_pos a3]
            obtain ⟨c1, c2, c3⟩ := cutG_all hw
            exact ⟨c1, fun k hk => c2 k (by omega), c3⟩
          · rw [if_neg a3] at hz ⊢
            by_cases a4 : A = 4
            · rw [if_pos a4]
              obtain ⟨b1, b2⟩ := l4 a4
              obtain ⟨c1, c2, c3, -⟩ := buP_all hw b1 b2 (u 34).toNat
              exact ⟨c1, fun k hk => by rw [c2 k (by omega)]; unfold upZ; rw [if_neg (by omega)], c3⟩
            · rw [if_neg a4] at hz ⊢
              have h35 : ¬ u 35 = 99 := fun hc => by rw [if_pos hc] at hz; omega
              exact ⟨WF_yr hw (by omega), fun k hk => by unfold upZ; rw [if_neg (by omega)], fun k hk => by unfold upZ; rw [if_neg (by omega)]⟩
  · rw [if_neg hz]; exact ⟨hw, fun _ _ => rfl, fun _ _ => rfl⟩
section
variable {s : SM} {u : Nat → Int} {L P : Nat}
/-- the class's line i -/
def LnM (s : SM) (i : Nat) (A B C D E : Int) : Prop := gI s 20 i = zI A ∧ (A = 0 → gI s 21 i = zI B ∧ gI s 22 i = zI C ∧ gI s 23 i = zI D ∧ gI s 24 i = zI E) ∧ (A = 1 → gI s 21 i = zI B) ∧ (A = 2 → gI s 21 i = zI B ∧ gI s 22 i = zI C) ∧ (A = 4 → gI s 21 i = zI B ∧ gI s 22 i = zI C)
theorem y_line (h : LdR s L P u) (hPL : P + 7 ≤ L) (hw : WF u) (hLX : (L, P) ∈ LX) (hr : rfx L 8 = P) {i : Nat} (hi : i < 40) {A B C D E : Int} (hl : LnD u A B C D E) (hm : LnM s i A B C D E) : ∃ s', mX0_tryLine s 19 (zI (i : Int)) L P = s' ∧ vX0_tryLine s 19 (zI (i : Int)) L P = zI (dzW A B C E u) ∧ rX0_tryLine s 19 (zI (i : Int)) L P ∧ Fr (fun c => InL L c ∨ (218 ≤ c ∧ c ≤ 224)) s s' ∧ LdR s' L P (dzG A B C D E u) := by
  have h0 := hw.w0
  obtain ⟨l0, l1, l2, l3, l4⟩ := hl
  obtain ⟨m0, m1, m2, m3, m4⟩ := hm
  have n1 : ¬ zI (i : Int) < 0 := by rw [zl0, z_lt (by omega) (by omega)]; omega
  have n2 : zI (i : Int) < 40 := by rw [zl40, z_lt (by omega) (by omega)]; omega
  have ci : (zI (i : Int)).toNatClampNeg = i := by rw [z_cl (by omega)]; exact Int.toNat_natCast _
  have vi : vp_in (zI (i : Int)) 40 := by rw [z_in (by omega)]; omega
  have zA : ∀ k : Int, 0 ≤ k → k ≤ 5 → (zI A = zI k ↔ A = k) := fun k h1 h2 => z_eq (by omega) (by omega)
  have z0 : (zI A = 0 ↔ A = 0) := zA 0 (by omega) (by omega)
  have z1 : (zI A = 1 ↔ A = 1) := zA 1 (by omega) (by omega)
  have z2 : (zI A = 2 ↔ A = 2) := zA 2 (by omega) (by omega)
  have z3 : (zI A = 3 ↔ A = 3) := zA 3 (by omega) (by omega)
  have z4 : (zI A = 4 ↔ A = 4) := zA 4 (by omega) (by omega)
  unfold mX0_tryLine vX0_tryLine rX0_tryLine dzG dzW
  rw [if_neg n1, if_pos n2, if_neg n1, if_pos n2, ci, show (19 + 1) = 20 from rfl, m0]
  simp only [z0, z1, z2, z3, z4]
  by_cases a0 : A = 0
  · obtain ⟨b1, b2, b3, b4⟩ := l1 a0
    obtain ⟨g1, g2, g3, g4⟩ := m1 a0
    obtain ⟨t1, t2, t3, t4⟩ := y_tryWrite h hPL hw b1 b2 b4 b3
    simp only [if_pos a0, show (19 + 2) = 21 from rfl, show (19 + 3) = 22 from rfl, show (19 + 4) = 23 from rfl, show (19 + 5) = 24 from rfl, g1, g2, g3, g4]
    exact ⟨_, rfl, t1, fun _ _ => ⟨vi, fun _ => ⟨vi, vi, vi, vi, t4⟩, fun hc => absurd (a0.symm.trans hc) (by decide), fun hc => absurd (a0.symm.trans hc) (by decide), fun hc => absurd (a0.symm.trans hc) (by decide), fun hc => absurd (a0.symm.trans hc) (by decide)⟩, Fr_mo t3 (fun c hc => Or.inl hc), t2⟩
  · by_cases a1 : A = 1
    · have g1 := m2 a1
      have b1 := l2 a1
      obtain ⟨t1, t2, t3, t4⟩ := y_tryStrike h hPL hw (d := B) (by omega)
      simp only [if_neg a0, if_pos a1, show (19 + 2) = 21 from rfl, g1]
      exact ⟨_, rfl, t1, fun _ _ => ⟨vi, fun hc => absurd hc a0, fun _ => ⟨vi, t4⟩, fun hc => absurd (a1.symm.trans hc) (by decide), fun hc => absurd (a1.symm.trans hc) (by decide), fun hc => absurd (a1.symm.trans hc) (by decide)⟩, Fr_mo t3 (fun c hc => Or.inl hc), t2⟩
    · by_cases a2 : A = 2
      · obtain ⟨g1, g2⟩ := m3 a2
        obtain ⟨b1, b2⟩ := l3 a2
        obtain ⟨t1, t2, t3, t4⟩ := y_tryScar h hPL hw (d := B) (by omega) b2
        simp only [if_neg a0, if_neg a1, if_pos a2, show (19 + 2) = 21 from rfl, show (19 + 3) = 22 from rfl, g1, g2]
        exact ⟨_, rfl, t1, fun _ _ => ⟨vi, fun hc => absurd hc a0, fun hc => absurd hc a1, fun _ => ⟨vi, vi, t4⟩, fun hc => absurd (a2.symm.trans hc) (by decide), fun hc => absurd (a2.symm.trans hc) (by decide)⟩, Fr_mo t3 (fun c hc => Or.inl hc), t2⟩
      · by_cases a3 : A = 3
        · obtain ⟨s1, o, e1, e2, e3, e4, e5, e6, e7⟩ := y_tryCut h hPL hw hLX hr
          have hb := bR_eq hw e6
          simp only [if_neg a0, if_neg a1, if_neg a2, if_pos a3]
          refine ⟨s1, e1, ?_, fun _ _ => ⟨vi, fun hc => absurd hc a0, fun hc => absurd hc a1, fun hc => absurd hc a2, fun _ => e4, fun hc => absurd (a3.symm.trans hc) (by decide)⟩, e5, ?_⟩
          · rw [hb]
            cases o with
            | none => rw [e2 rfl, if_pos rfl]; rfl
            | some q => rw [(e3 q rfl).1, if_neg (by simp)]; rfl
          · rw [hb]
            cases o with
            | none => rw [if_pos rfl, if_neg (by decide)]; exact e7
            | some q =>
              have ne : ¬ (some q : Option (List Nat)) = none := by simp
              rw [if_neg ne, if_pos rfl]
              unfold cutG
              rw [hb]
              exact e7
        · by_cases a4 : A = 4
          · obtain ⟨g1, g2⟩ := m4 a4
            obtain ⟨b1, b2⟩ := l4 a4
            obtain ⟨t1, t2, t3, t4⟩ := y_tryBury h hPL hw b1 b2
            simp only [if_neg a0, if_neg a1, if_neg a2, if_neg a3, if_pos a4, show (19 + 2) = 21 from rfl, show (19 + 3) = 22 from rfl, g1, g2]
            refine ⟨_, rfl, t1, fun _ _ => ⟨vi, fun hc => absurd hc a0, fun hc => absurd hc a1, fun hc => absurd hc a2, fun hc => absurd hc a3, fun _ => ⟨vi, vi, t4⟩⟩, Fr_mo t3 (fun c hc => Or.inl hc), ?_⟩
            by_cases hq : B = C ∨ ¬ livZ u B ∨ ¬ livZ u C
            · rw [if_pos hq] at t2 ⊢
              rw [if_neg (by omega)]; exact t2
            · rw [if_neg hq] at t2 ⊢
              rw [if_pos rfl]; exact t2
          · obtain ⟨t1, t2, t3⟩ := y_tryYear h hPL hw
            simp only [if_neg a0, if_neg a1, if_neg a2, if_neg a3, if_neg a4]
            refine ⟨_, rfl, t1, fun _ _ => ⟨vi, fun hc => absurd hc a0, fun hc => absurd hc a1, fun hc => absurd hc a2, fun hc => absurd hc a3, fun hc => absurd hc a4⟩, Fr_mo t3 (fun c hc => Or.inl hc), ?_⟩
            by_cases hq : u 35 = 99
            · rw [if_pos hq] at t2 ⊢
              rw [if_neg (by omega)]; exact t2
            · rw [if_neg hq] at t2 ⊢
              rw [if_pos rfl]; exact t2
theorem x_line (h : RR s u) (hw : WF u) {i : Nat} (hi : i < 40) {A B C D E : Int} (hA : A = u (587 + 5 * i)) (hB : B = u (588 + 5 * i)) (hC : C = u (589 + 5 * i)) (hD : D = u (590 + 5 * i)) (hE : E = u (591 + 5 * i)) (hl : LnD u A B C D E) : ∃ s', mX12_does s (zI (587 + 5 * (i : Int))) = s' ∧ vX12_does s (zI (587 + 5 * (i : Int))) = zI (dzW A B C E u) ∧ rX12_does s (zI (587 + 5 * (i : Int))) ∧ Fp (fun c j => BoA c j ∨ c = 250) s s' ∧ RR s' (dzG A B C D E u) := by
  have h0 := hw.w0
  obtain ⟨l0, l1, l2, l3, l4⟩ := hl
  have ad : ∀ k : Nat, k ≤ 4 → zI (587 + 5 * (i : Int)) + zI (k : Int) = zI (587 + 5 * (i : Int) + k) := fun k _ => z_add _ _
  have e1 : zI (587 + 5 * (i : Int)) + 1 = zI (588 + 5 * (i : Int)) := by rw [zl1, z_add]; congr 1; omega
  have e2 : zI (587 + 5 * (i : Int)) + 2 = zI (589 + 5 * (i : Int)) := by rw [zl2, z_add]; congr 1; omega
  have e3 : zI (587 + 5 * (i : Int)) + 3 = zI (590 + 5 * (i : Int)) := by rw [zl3, z_add]; congr 1; omega
  have e4 : zI (587 + 5 * (i : Int)) + 4 = zI (591 + 5 * (i : Int)) := by rw [zl4, z_add]; congr 1; omega
  have g0 : gI s 250 (zI (587 + 5 * (i : Int))).toNatClampNeg = zI A := by rw [z_cl (by omega), h, hA]; rfl
  have g1 : gI s 250 (zI (588 + 5 * (i : Int))).toNatClampNeg = zI B := by rw [z_cl (by omega), h, hB]; rfl
  have g2 : gI s 250 (zI (589 + 5 * (i : Int))).toNatClampNeg = zI C := by rw [z_cl (by omega), h, hC]; rfl
  have g3 : gI s 250 (zI (590 + 5 * (i : Int))).toNatClampNeg = zI D := by rw [z_cl (by omega), h, hD]; rfl
  have g4 : gI s 250 (zI (591 + 5 * (i : Int))).toNatClampNeg = zI E := by rw [z_cl (by omega), h, hE]; rfl
  have v0 : vp_in (zI (587 + 5 * (i : Int))) 787 := by rw [z_in (by omega)]; omega
  have v1 : vp_in (zI (588 + 5 * (i : Int))) 787 := by rw [z_in (by omega)]; omega
  have v2 : vp_in (zI (589 + 5 * (i : Int))) 787 := by rw [z_in (by omega)]; omega
  have v3 : vp_in (zI (590 + 5 * (i : Int))) 787 := by rw [z_in (by omega)]; omega
  have v4 : vp_in (zI (591 + 5 * (i : Int))) 787 := by rw [z_in (by omega)]; omega
  have zA : ∀ k : Int, 0 ≤ k → k ≤ 5 → (zI A = zI k ↔ A = k) := fun k h1 h2 => z_eq (by omega) (by omega)
  have z0 : (zI A = 0 ↔ A = 0) := zA 0 (by omega) (by omega)
  have z1 : (zI A = 1 ↔ A = 1) := zA 1 (by omega) (by omega)
  have z2 : (zI A = 2 ↔ A = 2) := zA 2 (by omega) (by omega)
  have z3 : (zI A = 3 ↔ A = 3) := zA 3 (by omega) (by omega)
  have z4 : (zI A = 4 ↔ A = 4) := zA 4 (by omega) (by omega)
  have zw : ∀ w : Int, 0 ≤ w → w ≤ 9 → (zI w = 0 ↔ w = 0) := fun w h1 h2 => z_eq (b := 0) (by omega) (by omega)
  have no : ∀ k l : Int, A = k → A = l → k ≠ l → False := fun k l h1 h2 h3 => h3 (h1.symm.trans h2)
  unfold mX12_does vX12_does rX12_does dzG dzW
  rw [e1, e2, e3, e4, g0, g1, g2, g3, g4]
  simp only [z0, z1, z2, z3, z4]
  by_cases a0 : A = 0
  · obtain ⟨b1, b2, b3, b4⟩ := l1 a0
    obtain ⟨t1, t2⟩ := x_whyWrite h hw b1 b2 b4
    have hb := wyZ_b u B C E
    simp only [if_pos a0, t1, zw _ hb.1 (by omega)]
    have fin : ∀ R : Prop, R → True := fun _ _ => trivial
    by_cases hz : wyZ u B C E = 0
    · have h6 := (wy_0 hw b1 b2 b4 hz).2.2.2.2.2
      obtain ⟨w1, w2, w3⟩ := x_writes (sm := D) h hw b1 b2 b4 h6
      simp only [if_pos hz]
      exact ⟨_, rfl, by trivial, ⟨v1, v2, v0, fun _ => ⟨v4, t2, fun _ => ⟨v3, v4, w3⟩⟩, fun hc => (no _ _ a0 hc (by decide)).elim, fun hc => (no _ _ a0 hc (by decide)).elim, fun hc => (no _ _ a0 hc (by decide)).elim, fun hc => (no _ _ a0 hc (by decide)).elim⟩, Fp_fr w2 (fun c hc j => Or.inr hc), w1⟩
    · simp only [if_neg hz]
      exact ⟨_, rfl, by trivial, ⟨v1, v2, v0, fun _ => ⟨v4, t2, fun hc => absurd hc hz⟩, fun hc => (no _ _ a0 hc (by decide)).elim, fun hc => (no _ _ a0 hc (by decide)).elim, fun hc => (no _ _ a0 hc (by decide)).elim, fun hc => (no _ _ a0 hc (by decide)).elim⟩, Fp_rf _ s, h⟩
  · by_cases a1 : A = 1
    · have b1 := l2 a1
      obtain ⟨t1, t2⟩ := x_whyStrike h hw (d := B) (by omega)
      have hb := wsZ_b u B
      simp only [if_neg a0, if_pos a1, t1, zw _ hb.1 (by omega)]
      by_cases hz : wsZ u B = 0
      · obtain ⟨w1, w2, w3⟩ := x_strikes h hw (skZ_wf hw hz).2
        simp only [if_pos hz]
        exact ⟨_, rfl, by trivial, ⟨v1, v2, v0, fun hc => absurd hc a0, fun _ => ⟨t2, fun _ => w3⟩, fun hc => (no _ _ a1 hc (by decide)).elim, fun hc => (no _ _ a1 hc (by decide)).elim, fun hc => (no _ _ a1 hc (by decide)).elim⟩, Fp_fr w2 (fun c hc j => Or.inr hc), w1⟩
      · simp only [if_neg hz]
        exact ⟨_, rfl, by trivial, ⟨v1, v2, v0, fun hc => absurd hc a0, fun _ => ⟨t2, fun hc => absurd hc hz⟩, fun hc => (no _ _ a1 hc (by decide)).elim, fun hc => (no _ _ a1 hc (by decide)).elim, fun hc => (no _ _ a1 hc (by decide)).elim⟩, Fp_rf _ s, h⟩
    · by_cases a2 : A = 2
      · obtain ⟨b1, b2⟩ := l3 a2
        obtain ⟨t1, t2⟩ := x_whyScar h hw (d := B) (by omega) b2
        have hb := scW_b u B C
        simp only [if_neg a0, if_neg a1, if_pos a2, t1, zw _ hb.1 (by omega)]
        by_cases hz : scW u B C = 0
        · have so : opZ u B := Classical.byContradiction (fun hc => by unfold scW at hz; rw [if_neg hc] at hz; omega)
          obtain ⟨w1, w2, w3, w4⟩ := x_scars (w := C) h hw so
          simp only [if_pos hz]
          exact ⟨_, rfl, by trivial, ⟨v1, v2, v0, fun hc => absurd hc a0, fun hc => absurd hc a1, fun _ => ⟨t2, fun _ => ⟨w3, w4⟩⟩, fun hc => (no _ _ a2 hc (by decide)).elim, fun hc => (no _ _ a2 hc (by decide)).elim⟩, Fp_fr w2 (fun c hc j => Or.inr hc), w1⟩
        · simp only [if_neg hz]
          exact ⟨_, rfl, by trivial, ⟨v1, v2, v0, fun hc => absurd hc a0, fun hc => absurd hc a1, fun _ => ⟨t2, fun hc => absurd hc hz⟩, fun hc => (no _ _ a2 hc (by decide)).elim, fun hc => (no _ _ a2 hc (by decide)).elim⟩, Fp_rf _ s, h⟩
      · by_cases a3 : A = 3
        · obtain ⟨s1, o, b, c1, c2, c3, c4, c5, c6, c7, c8⟩ := x_bestO h hw
          have hb := bR_eq hw c6
          simp only [if_neg a0, if_neg a1, if_neg a2, if_pos a3, c1, c2]
          cases o with
          | none =>
            have nb : ¬ (0 : Int32) ≤ zI b := by rw [c7 rfl]; decide
            refine ⟨s1, by rw [if_neg nb], by rw [if_neg nb, hb, if_pos rfl]; rfl, ⟨v1, v2, v0, fun hc => absurd hc a0, fun hc => absurd hc a1, fun hc => absurd hc a2, fun _ => ⟨c3, fun hc => absurd hc nb⟩, fun hc => (no _ _ a3 hc (by decide)).elim⟩, Fp_mo c4 (fun c j hc => Or.inl hc), ?_⟩
            rw [hb, if_pos rfl, if_neg (by decide)]
            exact RR_bo h c4
          | some q =>
            have hb1 := c8 q rfl
            have nb : (0 : Int32) ≤ zI b := by rw [zl0, z_le (by omega) (by omega)]; omega
            obtain ⟨s4, u1, u2, u3, u4, u5⟩ := x_cuts (RR_bo h c4) hw (c6.1 q rfl) c5.2.1 c5.2.2
            have ne : ¬ (some q : Option (List Nat)) = none := by simp
            refine ⟨s4, by rw [if_pos nb]; exact u1, by rw [if_pos nb, hb, if_neg ne]; rfl, ⟨v1, v2, v0, fun hc => absurd hc a0, fun hc => absurd hc a1, fun hc => absurd hc a2, fun _ => ⟨c3, fun _ => u3⟩, fun hc => (no _ _ a3 hc (by decide)).elim⟩, Fp_tr (Fp_mo c4 (fun c j hc => Or.inl hc)) (Fp_fr u4 (fun c hc j => Or.inr hc)), ?_⟩
            rw [hb, if_neg ne, if_pos rfl]
            unfold cutG
            rw [hb]
            exact u5
        · by_cases a4 : A = 4
          · obtain ⟨b1, b2⟩ := l4 a4
            have t1 := x_whyDies h b1 b2 h0.1.2
            simp only [if_neg a0, if_neg a1, if_neg a2, if_neg a3, if_pos a4, t1]
            by_cases hq : B = C ∨ ¬ livZ u B ∨ ¬ livZ u C
            · have n1 : ¬ zI 1 = 0 := by decide
              have n2 : ¬ (1 : Int) = 0 := by decide
              simp only [if_pos hq, if_neg n1, if_neg n2]
              exact ⟨_, rfl, by trivial, ⟨v1, v2, v0, fun hc => absurd hc a0, fun hc => absurd hc a1, fun hc => absurd hc a2, fun hc => absurd hc a3, fun _ hc => absurd hc n1⟩, Fp_rf _ s, h⟩
            · obtain ⟨w1, w2, w3, w4⟩ := x_buries h hw b1 b2 (fun hc => hq (Or.inl hc))
              have n1 : zI 0 = 0 := rfl
              simp only [if_neg hq, if_pos n1, if_pos trivial]
              refine ⟨_, rfl, by trivial, ⟨v1, v2, v0, fun hc => absurd hc a0, fun hc => absurd hc a1, fun hc => absurd hc a2, fun hc => absurd hc a3, fun _ _ => w4⟩, Fp_fr w2 (fun c hc j => Or.inr hc), ?_⟩
              first | exact w1 | (rw [if_pos rfl]; exact w1)
          · have c35 : (35 : Int32).toNatClampNeg = 35 := rfl
            have k35 : gI s 250 35 = zI (u 35) := h 35
            have z99 : (zI (u 35) = 99 ↔ u 35 = 99) := z_eq (b := 99) (by omega) (by omega)
            simp only [if_neg a0, if_neg a1, if_neg a2, if_neg a3, if_neg a4, c35, k35, z99]
            by_cases hq : u 35 = 99
            · have n2 : ¬ (9 : Int) = 0 := by decide
              simp only [if_pos hq, if_neg n2]
              exact ⟨_, rfl, by trivial, ⟨v1, v2, v0, fun hc => absurd hc a0, fun hc => absurd hc a1, fun hc => absurd hc a2, fun hc => absurd hc a3, fun hc => absurd hc a4⟩, Fp_rf _ s, h⟩
            · simp only [if_neg hq]
              refine ⟨_, rfl, by trivial, ⟨v1, v2, v0, fun hc => absurd hc a0, fun hc => absurd hc a1, fun hc => absurd hc a2, fun hc => absurd hc a3, fun hc => absurd hc a4⟩, Fp_p s (Or.inr rfl), ?_⟩
              rw [if_pos trivial, zl1, z_add]
              exact RR_up h 35 (u 35 + 1)
end
