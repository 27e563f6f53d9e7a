-- needs: 69w.pack
section
variable {s : SM} {g : Nat → Int}
abbrev XpA (c i : Nat) : Prop := c = 264 ∨ c = 265 ∨ c = 266 ∨ c = 267 ∨ c = 268 ∨ c = 269 ∨ (c = 248 ∧ (i = 45 ∨ i = 46 ∨ i = 47))
/-- the reference's pack, the bytes taken -/
theorem x_pack (h : RR s g) (hw : WF g) {N : Nat} {bt : Nat → Int} (hN : N ≤ 640) (h3 : gI s 248 3 = zI (N : Int)) (h4 : ∀ i, i < N → (0 ≤ bt i ∧ bt i < 256) ∧ (gI s 249 i &&& 255) = zI (bt i)) (hn : N % 3 = 0 ∧ 1 ≤ N / 3 ∧ N / 3 ≤ 6) : (¬ TD g bt (N / 3) → (lX12_pack FU).1 s 0 = (-1, s) ∧ (qX12_pack FU).1 s 0) ∧ (TD g bt (N / 3) → ∃ s' q, (lX12_pack FU).1 s 0 = (zI (cnt q : Int), s') ∧ (qX12_pack FU).1 s 0 ∧ Fp XpA s s' ∧ BestP g (ldB bt) (dbB bt) (kdB bt (N / 3)) (R0f g (-1) 0) (N / 3) (some q) ∧ MPx 268 s' q ∧ gI s' 248 46 = zI ((N / 3 : Nat) : Int) ∧ gI s' 248 47 = gI s 248 22 ∧ ∀ i, i < N → gI s' 265 i = zI (bt i)) := by
  have h0 := hw.w0
  obtain ⟨n, hnn⟩ : ∃ n, n = N / 3 := ⟨_, rfl⟩
  rw [← hnn] at hn ⊢
  have hN3 : N = 3 * n := by omega
  have e3 : zI (N : Int) / 3 = zI (n : Int) := by rw [show (3 : Int32) = zI 3 from rfl, z_div (by omega) (by omega) (by omega), Int.tdiv_eq_ediv_of_nonneg (by omega)]; congr 1; omega
  have oc : ∀ t : SM, Fp XpA s t → ∀ j, j < N → vX12_octet t (zI (j : Int)) = zI (bt j) ∧ rX12_octet t (zI (j : Int)) := fun t ft j hj => x_octet (bt := bt) hN (fun k hk => by rw [ft.1 249 k (by omega)]; exact (h4 k hk).2) hj
  have key : ∀ (r i : Nat), i + r = n → ((∀ j, i ≤ j → j < n → bdyZ g (bt (3 * j)) ∧ bdyZ g (bt (3 * j + 1)) ∧ kndZ g (bt (3 * j + 2))) → ST (r + 1) (fun m => (lX12_pack m).1 s (zI (3 * (i : Int)))) (fun m => (qX12_pack m).1 s (zI (3 * (i : Int)))) (fun m => (lX12_pack m).2.1 (pI s 248 45 (zI (n : Int))) (zI ((0 : Nat) : Int))) (fun m => (qX12_pack m).2.1 (pI s 248 45 (zI (n : Int))) (zI ((0 : Nat) : Int)))) ∧ (¬ (∀ j, i ≤ j → j < n → bdyZ g (bt (3 * j)) ∧ bdyZ g (bt (3 * j + 1)) ∧ kndZ g (bt (3 * j + 2))) → ST (r + 1) (fun m => (lX12_pack m).1 s (zI (3 * (i : Int)))) (fun m => (qX12_pack m).1 s (zI (3 * (i : Int)))) (fun _ => ((-1 : Int32), s)) (fun _ => True)) := by
    intro r
    induction r with
    | zero =>
      intro i hi
      have le : zI (N : Int) ≤ zI (3 * (i : Int)) := by rw [z_le (by omega) (by omega)]; omega
      refine ⟨fun _ => ST_1 fun m => ?_, fun hc => absurd (fun j a b => by omega) hc⟩
      rw [lpX12_pack_40, qpX12_pack_40]
      unfold tX12_pack_40 uX12_pack_40
      rw [h3, if_pos le, e3]
      exact ⟨rfl, fun hh => ⟨fun _ => hh, fun hc => absurd le hc⟩⟩
    | succ r ih =>
      intro i hi
      have le : ¬ zI (N : Int) ≤ zI (3 * (i : Int)) := by rw [z_le (by omega) (by omega)]; omega
      obtain ⟨b0, s0⟩ := oc s (Fp_rf _ s) (3 * i) (by omega)
      obtain ⟨b1, s1⟩ := oc s (Fp_rf _ s) (3 * i + 1) (by omega)
      obtain ⟨b2, s2⟩ := oc s (Fp_rf _ s) (3 * i + 2) (by omega)
      have k0 := (h4 (3 * i) (by omega)).1
      have k1 := (h4 (3 * i + 1) (by omega)).1
      have k2 := (h4 (3 * i + 2) (by omega)).1
      have a0 : (3 * (i : Int)) = ((3 * i : Nat) : Int) := by omega
      have a1 : zI (3 * (i : Int)) + 1 = zI ((3 * i + 1 : Nat) : Int) := by rw [zl1, z_add]; rfl
      have a2 : zI (3 * (i : Int)) + 2 = zI ((3 * i + 2 : Nat) : Int) := by rw [zl2, z_add]; rfl
      have a3 : zI (3 * (i : Int)) + 3 = zI (3 * ((i + 1 : Nat) : Int)) := by rw [zl3, z_add]; rfl
      have d0 := x_isBody h hw (d := bt (3 * i)) (by omega)
      have d1 := x_isBody h hw (d := bt (3 * i + 1)) (by omega)
      have d2 := x_isKind h hw (d := bt (3 * i + 2)) (by omega)
      obtain ⟨i1, i2⟩ := ih (i + 1) (by omega)
      by_cases q0 : bdyZ g (bt (3 * i))
      · have n0 : ¬ bI (bdyZ g (bt (3 * i))) = 0 := by rw [bI_0]; exact not_not_intro q0
        by_cases q1 : bdyZ g (bt (3 * i + 1))
        · have n1 : ¬ bI (bdyZ g (bt (3 * i + 1))) = 0 := by rw [bI_0]; exact not_not_intro q1
          by_cases q2 : kndZ g (bt (3 * i + 2))
          · have n2 : ¬ bI (kndZ g (bt (3 * i + 2))) = 0 := by rw [bI_0]; exact not_not_intro q2
            have st : ST 1 (fun m => (lX12_pack m).1 s (zI (3 * (i : Int)))) (fun m => (qX12_pack m).1 s (zI (3 * (i : Int)))) (fun m => (lX12_pack m).1 s (zI (3 * ((i + 1 : Nat) : Int)))) (fun m => (qX12_pack m).1 s (zI (3 * ((i + 1 : Nat) : Int)))) := ST_1 fun m => by
              rw [lpX12_pack_40, qpX12_pack_40]
              unfold tX12_pack_40 uX12_pack_40
              rw [h3, if_neg le, a1, a2, a3, a0, b0, b1, b2, d0, d1, d2, if_neg n0, if_neg n1, if_neg n2]
              exact ⟨rfl, fun hh => ⟨fun hc => absurd hc (by rw [← a0]; exact le), fun _ => ⟨s0, fun _ => ⟨s1, fun _ => ⟨s2, fun _ => hh⟩⟩⟩⟩⟩
            refine ⟨fun hc => ST_mono (ST_trans st (i1 (fun j a b => hc j (by omega) b))) (by omega), fun hc => ST_mono (ST_trans st (i2 (fun hh => hc (fun j a b => ?_)))) (by omega)⟩
            by_cases hj : j = i
            · rw [hj]; exact ⟨q0, q1, q2⟩
            · exact hh j (by omega) b
          · have n2 : bI (kndZ g (bt (3 * i + 2))) = 0 := by rw [bI_0]; exact q2
            refine ⟨fun hc => absurd (hc i (Nat.le_refl _) (by omega)).2.2 q2, fun _ => ST_mono (B1 := 1) (ST_1 fun m => ?_) (by omega)⟩
            rw [lpX12_pack_40, qpX12_pack_40]
            unfold tX12_pack_40 uX12_pack_40
            rw [h3, if_neg le, a1, a2, a0, b0, b1, b2, d0, d1, d2, if_neg n0, if_neg n1, if_pos n2]
            exact ⟨rfl, fun _ => ⟨fun hc => absurd hc (by rw [← a0]; exact le), fun _ => ⟨s0, fun _ => ⟨s1, fun _ => ⟨s2, fun hc => absurd n2 hc⟩⟩⟩⟩⟩
        · have n1 : bI (bdyZ g (bt (3 * i + 1))) = 0 := by rw [bI_0]; exact q1
          refine ⟨fun hc => absurd (hc i (Nat.le_refl _) (by omega)).2.1 q1, fun _ => ST_mono (B1 := 1) (ST_1 fun m => ?_) (by omega)⟩
          rw [lpX12_pack_40, qpX12_pack_40]
          unfold tX12_pack_40 uX12_pack_40
          rw [h3, if_neg le, a1, a0, b0, b1, d0, d1, if_neg n0, if_pos n1]
          exact ⟨rfl, fun _ => ⟨fun hc => absurd hc (by rw [← a0]; exact le), fun _ => ⟨s0, fun _ => ⟨s1, fun hc => absurd n1 hc⟩⟩⟩⟩
      · have n0 : bI (bdyZ g (bt (3 * i))) = 0 := by rw [bI_0]; exact q0
        refine ⟨fun hc => absurd (hc i (Nat.le_refl _) (by omega)).1 q0, fun _ => ST_mono (B1 := 1) (ST_1 fun m => ?_) (by omega)⟩
        rw [lpX12_pack_40, qpX12_pack_40]
        unfold tX12_pack_40 uX12_pack_40
        rw [h3, if_neg le, a0, b0, d0, if_pos n0]
        exact ⟨rfl, fun _ => ⟨fun hc => absurd hc (by rw [← a0]; exact le), fun _ => ⟨s0, fun hc => absurd n0 hc⟩⟩⟩
  obtain ⟨k1, k2⟩ := key n 0 (by omega)
  refine ⟨fun hT => ?_, fun hT => ?_⟩
  · obtain ⟨E, R⟩ := ST_fu (k2 (fun hc => hT (fun j hj => hc j (Nat.zero_le _) hj))) (by omega)
    exact ⟨E, R⟩
  · have st1 := k1 (fun j _ hj => hT j hj)
    obtain ⟨s1, hs1⟩ : ∃ s1, s1 = pI s 248 45 (zI (n : Int)) := ⟨_, rfl⟩
    rw [← hs1] at st1
    have f1 : Fp XpA s s1 := by rw [hs1]; exact Fp_p s (by omega)
    -- the bytes laid
    have up := ST_up (B := 1) N (fun i (a : SM) => Fp (fun c _ => c = 264) s1 a ∧ ∀ j, j < i → gI a 264 j = zI (bt j)) (fun i a m => (lX12_pack m).2.1 a (zI (i : Int))) (fun i a m => (qX12_pack m).2.1 a (zI (i : Int))) (by
      rintro i a hi ⟨f2, f3⟩
      have fa : Fp XpA s a := Fp_tr f1 (Fp_mo f2 (fun c i hc => by omega))
      obtain ⟨b0, p0⟩ := oc a fa i hi
      have nle : ¬ zI (N : Int) ≤ zI (i : Int) := by rw [z_le (by omega) (by omega)]; omega
      have ci : (zI (i : Int)).toNatClampNeg = i := by rw [z_cl (by omega)]; exact Int.toNat_natCast _
      have vi : vp_in (zI (i : Int)) 18 := by rw [z_in (by omega)]; omega
      have ei : zI (i : Int) + 1 = zI ((i + 1 : Nat) : Int) := by rw [zl1, z_add]; rfl
      have g3 : gI a 248 3 = zI (N : Int) := by rw [fa.1 248 3 (by omega)]; exact h3
      refine ⟨pI a 264 i (zI (bt i)), ⟨Fp_tr f2 (Fp_p a rfl), fun j hj => ?_⟩, ST_1 fun m => ?_⟩
      · rw [gI_s]
        by_cases hq : j = i
        · rw [if_pos hq, hq]
        · rw [if_neg hq]; exact f3 j (by omega)
      · rw [lpX12_pack_108, qpX12_pack_108]
        unfold tX12_pack_108 uX12_pack_108
        rw [g3, if_neg nle, ci, b0, ei]
        exact ⟨rfl, fun hh => ⟨fun hc => absurd hc nle, fun _ => ⟨p0, vi, hh⟩⟩⟩)
    obtain ⟨s2, ⟨f2, z2⟩, st2⟩ := up N 0 s1 (by omega) ⟨Fp_rf _ s1, fun j hj => by omega⟩
    have f12 : Fp XpA s s2 := Fp_tr f1 (Fp_mo f2 (fun c i hc => by omega))
    have hD := TD_d hw (n := n) (by omega) hT
    have hx2 : PxC g (ldB bt) (dbB bt) (kdB bt n) n s2 := ⟨RR_fp h f12 (fun i => by omega), by rw [f2.1 248 45 (by omega), hs1, gI_s, if_pos rfl], fun i hi => by
      unfold ldB dbB kdB
      rw [if_pos hi, z2 (3 * i) (by omega), z2 (3 * i + 1) (by omega), z2 (3 * i + 2) (by omega)]
      exact ⟨rfl, rfl, rfl⟩⟩
    obtain ⟨s3, q, e1, e2, e3', e4, e5, e6⟩ := x_bestPack hx2 hw hD (bb := -1) (m := 0) (Or.inl ⟨rfl, rfl⟩)
    have e1 : mX12_bestPack s2 (-1) 0 = s3 := e1
    have e2 : vX12_bestPack s2 (-1) 0 = zI (cnt q : Int) := e2
    have e3' : rX12_bestPack s2 (-1) 0 := e3'
    have g45 : gI s3 248 45 = zI (n : Int) := by rw [e4.1 248 45 (by omega)]; exact hx2.2.1
    have hql := (e6.1 q rfl).2
    obtain ⟨s4, hs4⟩ : ∃ s4, s4 = pI (pI s3 248 46 (zI (n : Int))) 248 47 (gI s 248 22) := ⟨_, rfl⟩
    have f4 : Fp XpA s s4 := Fp_tr f12 (Fp_tr (Fp_mo e4 (fun c i hc => by omega)) (by rw [hs4]; exact Fp_tr (Fp_p s3 (by omega)) (Fp_p _ (by omega))))
    have g22 : gI (pI s3 248 46 (zI (n : Int))) 248 22 = gI s 248 22 := by rw [gI_s, if_neg (by decide), e4.1 248 22 (by omega), f12.1 248 22 (by omega)]
    have g3 : ∀ t : SM, Fp XpA s t → gI t 248 3 = zI (N : Int) := fun t ft => by rw [ft.1 248 3 (by omega)]; exact h3
    have st3 : ST 1 (fun m => (lX12_pack m).2.1 s2 (zI (N : Int))) (fun m => (qX12_pack m).2.1 s2 (zI (N : Int))) (fun m => (lX12_pack m).2.2.1 s4 (zI (cnt q : Int)) (zI ((0 : Nat) : Int))) (fun m => (qX12_pack m).2.2.1 s4 (zI (cnt q : Int)) (zI ((0 : Nat) : Int))) := ST_1 fun m => by
      rw [lpX12_pack_108, qpX12_pack_108]
      unfold tX12_pack_108 uX12_pack_108
      rw [g3 s2 f12, if_pos (Int32.le_refl _), e1, g45, g22, e2, ← hs4]
      exact ⟨rfl, fun hh => ⟨fun _ => ⟨e3', fun s5 hs5 => by rw [hs5]; exact hh⟩, fun hc => absurd (Int32.le_refl _) hc⟩⟩
    -- kept
    have up2 := ST_up (B := 1) N (fun i (a : SM) => Fp (fun c _ => c = 265) s4 a ∧ ∀ j, j < i → gI a 265 j = zI (bt j)) (fun i a m => (lX12_pack m).2.2.1 a (zI (cnt q : Int)) (zI (i : Int))) (fun i a m => (qX12_pack m).2.2.1 a (zI (cnt q : Int)) (zI (i : Int))) (by
      rintro i a hi ⟨f2', f3⟩
      have fa : Fp XpA s a := Fp_tr f4 (Fp_mo f2' (fun c i hc => by omega))
      have nle : ¬ zI (N : Int) ≤ zI (i : Int) := by rw [z_le (by omega) (by omega)]; omega
      have ci : (zI (i : Int)).toNatClampNeg = i := by rw [z_cl (by omega)]; exact Int.toNat_natCast _
      have vi : vp_in (zI (i : Int)) 18 := by rw [z_in (by omega)]; omega
      have ei : zI (i : Int) + 1 = zI ((i + 1 : Nat) : Int) := by rw [zl1, z_add]; rfl
      have g264 : gI a 264 i = zI (bt i) := by rw [f2'.1 264 i (by omega), hs4, gI_n _ _ _ _ (by omega), gI_n _ _ _ _ (by omega), e4.1 264 i (by omega)]; exact z2 i hi
      refine ⟨pI a 265 i (zI (bt i)), ⟨Fp_tr f2' (Fp_p a rfl), fun j hj => ?_⟩, ST_1 fun m => ?_⟩
      · rw [gI_s]
        by_cases hq : j = i
        · rw [if_pos hq, hq]
        · rw [if_neg hq]; exact f3 j (by omega)
      · rw [lpX12_pack_158, qpX12_pack_158]
        unfold tX12_pack_158 uX12_pack_158
        rw [g3 a fa, if_neg nle, ci, g264, ei]
        exact ⟨rfl, fun hh => ⟨fun hc => absurd hc nle, fun _ => ⟨vi, vi, hh⟩⟩⟩)
    obtain ⟨s5, ⟨f5, z5⟩, st4⟩ := up2 N 0 s4 (by omega) ⟨Fp_rf _ s4, fun j hj => by omega⟩
    have fa5 : Fp XpA s s5 := Fp_tr f4 (Fp_mo f5 (fun c i hc => by omega))
    have st5 : ST 1 (fun m => (lX12_pack m).2.2.1 s5 (zI (cnt q : Int)) (zI (N : Int))) (fun m => (qX12_pack m).2.2.1 s5 (zI (cnt q : Int)) (zI (N : Int))) (fun m => (lX12_pack m).2.2.2 s5 (zI (cnt q : Int)) (zI ((0 : Nat) : Int))) (fun m => (qX12_pack m).2.2.2 s5 (zI (cnt q : Int)) (zI ((0 : Nat) : Int))) := ST_1 fun m => by
      rw [lpX12_pack_158, qpX12_pack_158]
      unfold tX12_pack_158 uX12_pack_158
      rw [g3 s5 fa5, if_pos (Int32.le_refl _)]
      exact ⟨rfl, fun hh => ⟨fun _ => hh, fun hc => absurd (Int32.le_refl _) hc⟩⟩
    have g45' : ∀ a : SM, Fp (fun c _ => c = 268) s5 a → gI a 248 45 = zI (n : Int) := fun a fa => by
      rw [fa.1 248 45 (by omega), f5.1 248 45 (by omega), hs4, gI_s, if_neg (by decide), gI_s, if_neg (by decide)]; exact g45
    have up3 := ST_up (B := 1) n (fun i (a : SM) => Fp (fun c _ => c = 268) s5 a ∧ ∀ j, j < i → gI a 268 j = gI s3 267 j) (fun i a m => (lX12_pack m).2.2.2 a (zI (cnt q : Int)) (zI (i : Int))) (fun i a m => (qX12_pack m).2.2.2 a (zI (cnt q : Int)) (zI (i : Int))) (by
      rintro i a hi ⟨f2', f3⟩
      have nle : ¬ zI (n : Int) ≤ zI (i : Int) := by rw [z_le (by omega) (by omega)]; omega
      have ci : (zI (i : Int)).toNatClampNeg = i := by rw [z_cl (by omega)]; exact Int.toNat_natCast _
      have vi : vp_in (zI (i : Int)) 6 := by rw [z_in (by omega)]; omega
      have ei : zI (i : Int) + 1 = zI ((i + 1 : Nat) : Int) := by rw [zl1, z_add]; rfl
      have g267 : gI a 267 i = gI s3 267 i := by rw [f2'.1 267 i (by omega), f5.1 267 i (by omega), hs4, gI_n _ _ _ _ (by omega), gI_n _ _ _ _ (by omega)]
      refine ⟨pI a 268 i (gI s3 267 i), ⟨Fp_tr f2' (Fp_p a rfl), fun j hj => ?_⟩, ST_1 fun m => ?_⟩
      · rw [gI_s]
        by_cases hq : j = i
        · rw [if_pos hq, hq]
        · rw [if_neg hq]; exact f3 j (by omega)
      · rw [lpX12_pack_186, qpX12_pack_186]
        unfold tX12_pack_186 uX12_pack_186
        rw [g45' a f2', if_neg nle, ci, g267, ei]
        exact ⟨rfl, fun hh hc => ⟨vi, vi, hh⟩⟩)
    obtain ⟨s6, ⟨f6, z6⟩, st6⟩ := up3 n 0 s5 (by omega) ⟨Fp_rf _ s5, fun j hj => by omega⟩
    obtain ⟨E, R⟩ := ST_fu (ST_trans st1 (ST_trans st2 (ST_trans st3 (ST_trans st4 (ST_trans st5 (ST_trans st6 (ST_1 (F' := fun _ => (zI (cnt q : Int), s6)) (C' := fun _ => True) (fun m => by
      rw [lpX12_pack_186, qpX12_pack_186]
      unfold tX12_pack_186 uX12_pack_186
      rw [g45' s6 f6, if_pos (Int32.le_refl _)]
      exact ⟨rfl, fun _ hc => absurd (Int32.le_refl _) hc⟩)))))))) (by omega)
    refine ⟨s6, q, E, R, Fp_tr fa5 (Fp_mo f6 (fun c i hc => by omega)), e6, MPx_c e5 (fun k hk => z6 k (by omega)), ?_, ?_, fun i hi => by rw [f6.1 265 i (by omega)]; exact z5 i hi⟩
    · rw [f6.1 248 46 (by omega), f5.1 248 46 (by omega), hs4, gI_s, if_neg (by decide), gI_s, if_pos rfl]
    · rw [f6.1 248 47 (by omega), f5.1 248 47 (by omega), hs4, gI_s, if_pos rfl]
end
