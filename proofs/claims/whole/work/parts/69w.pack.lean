-- needs: 69v.xbest 58.acts
/-- the bytes fed: n of them, bt -/
def TpB (s : SM) (n : Nat) (bt : Nat → Int) : Prop := n ≤ 640 ∧ gI s 3 1 = zI (n : Int) ∧ gI s 248 2 = zI (n : Int) ∧ ∀ i, i < n → (0 ≤ bt i ∧ bt i < 256) ∧ gI s 4 i = zI (bt i) ∧ (gI s 249 i &&& 255) = zI (bt i)
theorem y_byteOr {s : SM} {n : Nat} {bt : Nat → Int} (hn : n ≤ 640) (h1 : gI s 3 1 = zI (n : Int)) (h4 : ∀ i, i < n → gI s 4 i = zI (bt i)) {j : Nat} (hj : j < n) (d : Int32) : vX9_byteOr s (zI (j : Int)) d = zI (bt j) ∧ rX9_byteOr s (zI (j : Int)) d := by
  have n1 : ¬ zI (j : Int) < 0 := by rw [zl0, z_lt (by omega) (by omega)]; omega
  have n2 : ¬ zI (n : Int) ≤ zI (j : Int) := by rw [z_le (by omega) (by omega)]; omega
  have n3 : ¬ 640 ≤ zI (j : Int) := by rw [show (640 : Int32) = zI 640 from rfl, z_le (by omega) (by omega)]; omega
  have cj : (zI (j : Int)).toNatClampNeg = j := by rw [z_cl (by omega)]; exact Int.toNat_natCast _
  unfold vX9_byteOr rX9_byteOr
  rw [if_neg n1, h1, if_neg n2, if_neg n3, cj, h4 j hj]
  exact ⟨rfl, fun _ _ _ => by rw [z_in (by omega)]; omega⟩
theorem x_octet {s : SM} {n : Nat} {bt : Nat → Int} (hn : n ≤ 640) (h : ∀ i, i < n → (gI s 249 i &&& 255) = zI (bt i)) {j : Nat} (hj : j < n) : vX12_octet s (zI (j : Int)) = zI (bt j) ∧ rX12_octet s (zI (j : Int)) := by
  have cj : (zI (j : Int)).toNatClampNeg = j := by rw [z_cl (by omega)]; exact Int.toNat_natCast _
  unfold vX12_octet rX12_octet
  rw [cj, h j hj]
  exact ⟨rfl, by rw [z_in (by omega)]; omega⟩
/-- the deals told in the bytes -/
def TD (g : Nat → Int) (bt : Nat → Int) (n : Nat) : Prop := ∀ i, i < n → bdyZ g (bt (3 * i)) ∧ bdyZ g (bt (3 * i + 1)) ∧ kndZ g (bt (3 * i + 2))
def ldB (bt : Nat → Int) (i : Nat) : Int := bt (3 * i)
def dbB (bt : Nat → Int) (i : Nat) : Int := bt (3 * i + 1)
def kdB (bt : Nat → Int) (n i : Nat) : Int := if i < n then bt (3 * i + 2) else bt 2
theorem TD_d {g : Nat → Int} (hw : WF g) {bt : Nat → Int} {n : Nat} (hn : 1 ≤ n ∧ n ≤ 6) (h : TD g bt n) : PkD g (ldB bt) (dbB bt) (kdB bt n) n := by
  refine ⟨hn.2, fun i hi => ?_, fun i => ?_⟩
  · obtain ⟨h1, h2, h3⟩ := h i hi
    exact ⟨h1, h2, by unfold kdB; rw [if_pos hi]; exact h3⟩
  · have h0 := (h 0 (by omega)).2.2
    have k0 := (hw.wk h0).1
    unfold kdB
    by_cases hi : i < n
    · rw [if_pos hi]
      have := (hw.wk (h i hi).2.2).1
      omega
    · rw [if_neg hi]
      have e : bt (3 * 0 + 2) = bt 2 := rfl
      rw [e] at k0
      omega
theorem PkD_sp {g g' : Nat → Int} {ld db kd : Nat → Int} {n : Nat} (h : PkD g ld db kd n) (hs : SP g g') (hk : ∀ i, 0 ≤ kd i ∧ kd i < 6) : PkD g' ld db kd n := by
  refine ⟨h.1, fun i hi => ?_, fun i => ?_⟩
  · unfold bdyZ kndZ
    rw [hs 0 (by omega), hs 1 (by omega)]
    exact h.2.1 i hi
  · rw [SP_sz hs (by have := hk i; omega)]; exact h.2.2 i
section
variable {s : SM} {g : Nat → Int}
theorem y_isTold (h : PoR s 5 g) (hw : WF g) {N : Nat} {bt : Nat → Int} (hN : N ≤ 640) (h1 : gI s 3 1 = zI (N : Int)) (h4 : ∀ i, i < N → (0 ≤ bt i ∧ bt i < 256) ∧ gI s 4 i = zI (bt i)) : rX5_isTold s 5 ∧ ((N % 3 = 0 ∧ 1 ≤ N / 3 ∧ N / 3 ≤ 6 ∧ TD g bt (N / 3)) → vX5_isTold s 5 = 1) ∧ (¬ (N % 3 = 0 ∧ 1 ≤ N / 3 ∧ N / 3 ≤ 6 ∧ TD g bt (N / 3)) → vX5_isTold s 5 = 0) := by
  have h0 := hw.w0
  have e3 : zI (N : Int) / 3 = zI ((N / 3 : Nat) : Int) := by rw [show (3 : Int32) = zI 3 from rfl, z_div (by omega) (by omega) (by omega), Int.tdiv_eq_ediv_of_nonneg (by omega)]; rfl
  have em : zI (N : Int) - zI (N : Int) / 3 * 3 = zI ((N % 3 : Nat) : Int) := by rw [e3, show (3 : Int32) = zI 3 from rfl, z_mul, z_sub]; congr 1; omega
  unfold rX5_isTold vX5_isTold fX5_isTold
  rw [h1, em, e3]
  by_cases q1 : N % 3 = 0
  · have l1 : zI ((N % 3 : Nat) : Int) = 0 := by rw [q1]; rfl
    rw [if_pos l1]
    by_cases q2 : 1 ≤ N / 3
    · have l2 : ¬ zI ((N / 3 : Nat) : Int) < 1 := by rw [zl1, z_lt (by omega) (by omega)]; omega
      rw [if_neg l2]
      by_cases q3 : N / 3 ≤ 6
      · have l3 : zI ((N / 3 : Nat) : Int) ≤ 6 := by rw [show (6 : Int32) = zI 6 from rfl, z_le (by omega) (by omega)]; omega
        rw [if_pos l3]
        obtain ⟨n, hn⟩ : ∃ n, n = N / 3 := ⟨_, rfl⟩
        rw [← hn] at q2 q3 ⊢
        have key : ∀ (r i : Nat), i + r = n → ((∀ j, i ≤ j → j < n → bdyZ g (bt (3 * j)) ∧ bdyZ g (bt (3 * j + 1)) ∧ kndZ g (bt (3 * j + 2))) → ST (r + 1) (fun m => lX5_isTold m s 5 (zI (n : Int)) (zI (3 * (i : Int)))) (fun m => qX5_isTold m s 5 (zI (n : Int)) (zI (3 * (i : Int)))) (fun _ => (1 : Int32)) (fun _ => True)) ∧ (¬ (∀ j, i ≤ j → j < n → bdyZ g (bt (3 * j)) ∧ bdyZ g (bt (3 * j + 1)) ∧ kndZ g (bt (3 * j + 2))) → ST (r + 1) (fun m => lX5_isTold m s 5 (zI (n : Int)) (zI (3 * (i : Int)))) (fun m => qX5_isTold m s 5 (zI (n : Int)) (zI (3 * (i : Int)))) (fun _ => (0 : Int32)) (fun _ => True)) := by
          intro r
          induction r with
          | zero =>
            intro i hi
            have le : (3 : Int32) * zI (n : Int) ≤ zI (3 * (i : Int)) := by rw [show (3 : Int32) = zI 3 from rfl, z_mul, z_le (by omega) (by omega)]; omega
            refine ⟨fun _ => ST_1 fun m => ?_, fun hc => absurd (fun j a b => by omega) hc⟩
            show tX5_isTold_31 _ _ _ _ _ = _ ∧ (_ → uX5_isTold_31 _ _ _ _ _)
            unfold tX5_isTold_31 uX5_isTold_31
            rw [if_pos le]
            exact ⟨rfl, fun _ hc => absurd le hc⟩
          | succ r ih =>
            intro i hi
            have le : ¬ (3 : Int32) * zI (n : Int) ≤ zI (3 * (i : Int)) := by rw [show (3 : Int32) = zI 3 from rfl, z_mul, z_le (by omega) (by omega)]; omega
            obtain ⟨b0, s0⟩ := y_byteOr hN h1 (fun i hi => (h4 i hi).2) (j := 3 * i) (by omega) (-1)
            obtain ⟨b1, s1⟩ := y_byteOr hN h1 (fun i hi => (h4 i hi).2) (j := 3 * i + 1) (by omega) (-1)
            obtain ⟨b2, s2⟩ := y_byteOr hN h1 (fun i hi => (h4 i hi).2) (j := 3 * i + 2) (by omega) (-1)
            have k0 := (h4 (3 * i) (by omega)).1
            have k1 := (h4 (3 * i + 1) (by omega)).1
            have k2 := (h4 (3 * i + 2) (by omega)).1
            have a0 : (3 * (i : Int)) = ((3 * i : Nat) : Int) := by omega
            have a1 : zI (3 * (i : Int)) + 1 = zI ((3 * i + 1 : Nat) : Int) := by rw [zl1, z_add]; rfl
            have a2 : zI (3 * (i : Int)) + 2 = zI ((3 * i + 2 : Nat) : Int) := by rw [zl2, z_add]; rfl
            have a3 : zI (3 * (i : Int)) + 3 = zI (3 * ((i + 1 : Nat) : Int)) := by rw [zl3, z_add]; rfl
            have hd := y_hasDealers h hw (a := bt (3 * i)) (b := bt (3 * i + 1)) (k := bt (3 * i + 2)) (by omega) (by omega) (by omega)
            obtain ⟨i1, i2⟩ := ih (i + 1) (by omega)
            by_cases hq : bdyZ g (bt (3 * i)) ∧ bdyZ g (bt (3 * i + 1)) ∧ kndZ g (bt (3 * i + 2))
            · have n0 : ¬ bI (bdyZ g (bt (3 * i)) ∧ bdyZ g (bt (3 * i + 1)) ∧ kndZ g (bt (3 * i + 2))) = 0 := by rw [bI_0]; exact not_not_intro hq
              have st : ST 1 (fun m => lX5_isTold m s 5 (zI (n : Int)) (zI (3 * (i : Int)))) (fun m => qX5_isTold m s 5 (zI (n : Int)) (zI (3 * (i : Int)))) (fun m => lX5_isTold m s 5 (zI (n : Int)) (zI (3 * ((i + 1 : Nat) : Int)))) (fun m => qX5_isTold m s 5 (zI (n : Int)) (zI (3 * ((i + 1 : Nat) : Int)))) := ST_1 fun m => by
                show tX5_isTold_31 _ _ _ _ _ = _ ∧ (_ → uX5_isTold_31 _ _ _ _ _)
                unfold tX5_isTold_31 uX5_isTold_31
                rw [if_neg le, a1, a2, a3, a0, b0, b1, b2, hd, if_neg n0]
                exact ⟨rfl, fun hh _ => ⟨s0, s1, s2, fun _ => hh⟩⟩
              refine ⟨fun hc => ST_mono (ST_trans st (i1 (fun j a b => hc j (by omega) b))) (by omega), fun hc => ST_mono (ST_trans st (i2 (fun hh => hc (fun j a b => ?_)))) (by omega)⟩
              by_cases hj : j = i
              · rw [hj]; exact hq
              · exact hh j (by omega) b
            · have n0 : bI (bdyZ g (bt (3 * i)) ∧ bdyZ g (bt (3 * i + 1)) ∧ kndZ g (bt (3 * i + 2))) = 0 := by rw [bI_0]; exact hq
              refine ⟨fun hc => absurd (hc i (Nat.le_refl _) (by omega)) hq, fun _ => ST_mono (B1 := 1) (ST_1 fun m => ?_) (by omega)⟩
              show tX5_isTold_31 _ _ _ _ _ = _ ∧ (_ → uX5_isTold_31 _ _ _ _ _)
              unfold tX5_isTold_31 uX5_isTold_31
              rw [if_neg le, a1, a2, a0, b0, b1, b2, hd, if_pos n0]
              exact ⟨rfl, fun _ _ => ⟨s0, s1, s2, fun hc => absurd n0 hc⟩⟩
        obtain ⟨k1, k2⟩ := key n 0 (by omega)
        by_cases hall : TD g bt n
        · obtain ⟨E, R⟩ := ST_fu (k1 (fun j _ hj => hall j hj)) (by omega)
          exact ⟨fun _ _ _ => R, fun _ => E, fun hc => absurd ⟨q1, q2, q3, hall⟩ hc⟩
        · obtain ⟨E, R⟩ := ST_fu (k2 (fun hc => hall (fun j hj => hc j (Nat.zero_le _) hj))) (by omega)
          exact ⟨fun _ _ _ => R, fun hc => absurd hc.2.2.2 hall, fun _ => E⟩
      · have l3 : ¬ zI ((N / 3 : Nat) : Int) ≤ 6 := by rw [show (6 : Int32) = zI 6 from rfl, z_le (by omega) (by omega)]; omega
        rw [if_neg l3]
        exact ⟨fun _ _ hc => absurd hc l3, fun hc => absurd hc.2.2.1 q3, fun _ => rfl⟩
    · have l2 : zI ((N / 3 : Nat) : Int) < 1 := by rw [zl1, z_lt (by omega) (by omega)]; omega
      rw [if_pos l2]
      exact ⟨fun _ hc => absurd l2 hc, fun hc => absurd hc.2.1 q2, fun _ => rfl⟩
  · have l1 : ¬ zI ((N % 3 : Nat) : Int) = 0 := by rw [zl0, z_eq (by omega) (by omega)]; omega
    rw [if_neg l1]
    exact ⟨fun hc => absurd hc l1, fun hc => absurd hc.1 q1, fun _ => rfl⟩
theorem y_ptake (h : PoR s 5 g) (hw : WF g) {N : Nat} {bt : Nat → Int} (hN : N ≤ 640) (h1 : gI s 3 1 = zI (N : Int)) (h4 : ∀ i, i < N → (0 ≤ bt i ∧ bt i < 256) ∧ gI s 4 i = zI (bt i)) : rX5_take s 5 ∧ (¬ (N % 3 = 0 ∧ 1 ≤ N / 3 ∧ N / 3 ≤ 6 ∧ TD g bt (N / 3)) → vX5_take s 5 = 0 ∧ mX5_take s 5 = s) ∧ ((N % 3 = 0 ∧ 1 ≤ N / 3 ∧ N / 3 ≤ 6 ∧ TD g bt (N / 3)) → ∃ s', vX5_take s 5 = 1 ∧ mX5_take s 5 = s' ∧ Fp (fun c i => (c = 225 ∧ (i = 0 ∨ i = 1)) ∨ c = 226 ∨ c = 227 ∨ c = 228) s s' ∧ gI s' 225 0 = zI ((N / 3 : Nat) : Int) ∧ gI s' 225 1 = gI s 5 11 ∧ ∀ i, i < N / 3 → gI s' 226 i = zI (bt (3 * i)) ∧ gI s' 227 i = zI (bt (3 * i + 1)) ∧ gI s' 228 i = zI (bt (3 * i + 2))) := by
  have e3 : zI (N : Int) / 3 = zI ((N / 3 : Nat) : Int) := by rw [show (3 : Int32) = zI 3 from rfl, z_div (by omega) (by omega) (by omega), Int.tdiv_eq_ediv_of_nonneg (by omega)]; rfl
  obtain ⟨r, a1, a2⟩ := y_isTold h hw hN h1 h4
  unfold rX5_take vX5_take mX5_take fX5_take
  rw [h1, e3]
  by_cases hc : N % 3 = 0 ∧ 1 ≤ N / 3 ∧ N / 3 ≤ 6 ∧ TD g bt (N / 3)
  · have v1 := a1 hc
    have n0 : ¬ ((1 : Int32) = 0) := by decide
    rw [v1, if_neg n0]
    obtain ⟨n, hn⟩ : ∃ n, n = N / 3 := ⟨_, rfl⟩
    rw [← hn] at hc ⊢
    have n6 : ¬ (6 : Int32) < zI (n : Int) := by rw [show (6 : Int32) = zI 6 from rfl, z_lt (by omega) (by omega)]; omega
    rw [if_neg n6, gI_n _ _ _ _ (show 5 ≠ 225 by decide)]
    dsimp only []
    obtain ⟨s1, hs1⟩ : ∃ s1, s1 = pI (pI s 225 0 (zI (n : Int))) 225 1 (gI s 5 11) := ⟨_, rfl⟩
    rw [← hs1]
    have f1 : Fp (fun c i => (c = 225 ∧ (i = 0 ∨ i = 1)) ∨ c = 226 ∨ c = 227 ∨ c = 228) s s1 := by rw [hs1]; exact Fp_tr (Fp_p s (by omega)) (Fp_p _ (by omega))
    have up := ST_up (B := 1) n (fun i (a : SM) => Fp (fun c _ => c = 226 ∨ c = 227 ∨ c = 228) s1 a ∧ ∀ j, j < i → gI a 226 j = zI (bt (3 * j)) ∧ gI a 227 j = zI (bt (3 * j + 1)) ∧ gI a 228 j = zI (bt (3 * j + 2))) (fun i a m => lX5_take m a 5 (zI (i : Int))) (fun i a m => qX5_take m a 5 (zI (i : Int))) (by
      rintro i a hi ⟨f2, f3⟩
      have nle : ¬ zI (n : Int) ≤ zI (i : Int) := by rw [z_le (by omega) (by omega)]; omega
      have ci : (zI (i : Int)).toNatClampNeg = i := by rw [z_cl (by omega)]; exact Int.toNat_natCast _
      have vi : vp_in (zI (i : Int)) 6 := by rw [z_in (by omega)]; omega
      have ei : zI (i : Int) + 1 = zI ((i + 1 : Nat) : Int) := by rw [zl1, z_add]; rfl
      have fa : Fp (fun c i => (c = 225 ∧ (i = 0 ∨ i = 1)) ∨ c = 226 ∨ c = 227 ∨ c = 228) s a := Fp_tr f1 (Fp_mo f2 (fun c i hc => by omega))
      have g225 : gI a 225 0 = zI (n : Int) := by rw [f2.1 225 0 (by omega), hs1, gI_s, if_neg (by decide), gI_s, if_pos rfl]
      have by' : ∀ t : SM, Fp (fun c i => (c = 225 ∧ (i = 0 ∨ i = 1)) ∨ c = 226 ∨ c = 227 ∨ c = 228) s t → ∀ j, j < N → vX9_byteOr t (zI (j : Int)) 0 = zI (bt j) ∧ rX9_byteOr t (zI (j : Int)) 0 := fun t ft j hj => y_byteOr (bt := bt) hN (by rw [ft.1 3 1 (by omega)]; exact h1) (fun k hk => by rw [ft.1 4 k (by omega)]; exact (h4 k hk).2) hj 0
      have e0 : (3 : Int32) * zI (i : Int) = zI ((3 * i : Nat) : Int) := by rw [show (3 : Int32) = zI 3 from rfl, z_mul]; rfl
      have e1 : zI ((3 * i : Nat) : Int) + 1 = zI ((3 * i + 1 : Nat) : Int) := by rw [zl1, z_add]; rfl
      have e2 : zI ((3 * i : Nat) : Int) + 2 = zI ((3 * i + 2 : Nat) : Int) := by rw [zl2, z_add]; rfl
      obtain ⟨b0, p0⟩ := by' a fa (3 * i) (by omega)
      obtain ⟨t1, ht1⟩ : ∃ t1, t1 = pI a 226 i (zI (bt (3 * i))) := ⟨_, rfl⟩
      have ft1 : Fp (fun c i => (c = 225 ∧ (i = 0 ∨ i = 1)) ∨ c = 226 ∨ c = 227 ∨ c = 228) s t1 := Fp_tr fa (by rw [ht1]; exact Fp_p a (by omega))
      obtain ⟨b1, p1⟩ := by' t1 ft1 (3 * i + 1) (by omega)
      obtain ⟨t2, ht2⟩ : ∃ t2, t2 = pI t1 227 i (zI (bt (3 * i + 1))) := ⟨_, rfl⟩
      have ft2 : Fp (fun c i => (c = 225 ∧ (i = 0 ∨ i = 1)) ∨ c = 226 ∨ c = 227 ∨ c = 228) s t2 := Fp_tr ft1 (by rw [ht2]; exact Fp_p t1 (by omega))
      obtain ⟨b2, p2⟩ := by' t2 ft2 (3 * i + 2) (by omega)
      refine ⟨pI t2 228 i (zI (bt (3 * i + 2))), ⟨Fp_tr f2 (by rw [ht2, ht1]; exact Fp_tr (Fp_p a (by omega)) (Fp_tr (Fp_p _ (by omega)) (Fp_p _ (by omega)))), fun j hj => ?_⟩, ST_1 fun m => ?_⟩
      · by_cases hq : j = i
        · subst hq
          refine ⟨?_, ?_, ?_⟩
          · rw [gI_n _ _ _ _ (by omega), ht2, gI_n _ _ _ _ (by omega), ht1, gI_s, if_pos rfl]
          · rw [gI_n _ _ _ _ (by omega), ht2, gI_s, if_pos rfl]
          · rw [gI_s, if_pos rfl]
        · obtain ⟨c1, c2, c3⟩ := f3 j (by omega)
          refine ⟨?_, ?_, ?_⟩
          · rw [gI_n _ _ _ _ (by omega), ht2, gI_n _ _ _ _ (by omega), ht1, gI_s, if_neg hq]; exact c1
          · rw [gI_n _ _ _ _ (by omega), ht2, gI_s, if_neg hq, ht1, gI_n _ _ _ _ (by omega)]; exact c2
          · rw [gI_s, if_neg hq, ht2, gI_n _ _ _ _ (by omega), ht1, gI_n _ _ _ _ (by omega)]; exact c3
      · show tX5_take_35 _ _ _ _ = _ ∧ (_ → uX5_take_35 _ _ _ _)
        unfold tX5_take_35 uX5_take_35
        dsimp only []
        rw [g225, if_neg nle, ci, e0, b0, ← ht1, e1, b1, ← ht2, e2, b2, ei]
        exact ⟨rfl, fun hh _ => ⟨p0, vi, p1, vi, fun s3 hs3 => by rw [hs3, b2]; exact ⟨p2, vi, hh⟩⟩⟩)
    obtain ⟨s2, ⟨f2, f3⟩, st⟩ := up n 0 s1 (by omega) ⟨Fp_rf _ s1, fun j hj => by omega⟩
    have g225 : gI s2 225 0 = zI (n : Int) := by rw [f2.1 225 0 (by omega), hs1, gI_s, if_neg (by decide), gI_s, if_pos rfl]
    obtain ⟨E, R⟩ := ST_fu (ST_trans st (ST_1 (F' := fun _ => ((1 : Int32), s2)) (C' := fun _ => True) (fun m => by
      show tX5_take_35 _ _ _ _ = _ ∧ (_ → uX5_take_35 _ _ _ _)
      unfold tX5_take_35 uX5_take_35
      rw [g225, if_pos (Int32.le_refl _)]
      exact ⟨rfl, fun _ hc => absurd (Int32.le_refl _) hc⟩))) (by omega)
    have E : lX5_take FU s1 5 0 = ((1 : Int32), s2) := E
    rw [E]
    refine ⟨⟨r, fun _ s3 hs3 => by rw [hs3]; exact R⟩, fun hh => absurd hc hh, fun _ => ⟨s2, rfl, rfl, Fp_tr f1 (Fp_mo f2 (fun c i hc => by omega)), g225, ?_, f3⟩⟩
    rw [f2.1 225 1 (by omega), hs1, gI_s, if_pos rfl]
  · have v0 := a2 hc
    rw [v0, if_pos rfl]
    exact ⟨⟨r, fun hh => absurd rfl hh⟩, fun _ => ⟨rfl, rfl⟩, fun hh => absurd hh hc⟩
end
