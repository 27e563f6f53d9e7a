-- needs: 6zp.fit
def FiT (s : SM) : Prop := (gI s 233 9 = 0 ∧ gI s 248 53 = 0) ∨ (¬ gI s 233 9 = 0 ∧ ∃ m : Nat, m ≤ 4 ∧ gI s 233 7 = zI (m : Int) ∧ gI s 248 53 = zI (m : Int) ∧ ∀ i, i < m → gI s 236 i = gI s 270 i ∧ gI s 237 i = gI s 271 i)
theorem FiT_fp {s t : SM} {A : Nat → Nat → Prop} (h : FiT s) (hf : Fp A s t) (hA : ∀ c i, (c = 233 ∧ (i = 7 ∨ i = 9)) ∨ c = 236 ∨ c = 237 ∨ c = 270 ∨ c = 271 ∨ (c = 248 ∧ i = 53) → ¬ A c i) : FiT t := by
  have a9 : gI t 233 9 = gI s 233 9 := hf.1 _ _ (hA _ _ (by omega))
  have a53 : gI t 248 53 = gI s 248 53 := hf.1 _ _ (hA _ _ (by omega))
  rcases h with ⟨h1, h2⟩ | ⟨h1, m, h2, h3, h4, h5⟩
  · exact Or.inl ⟨by rw [a9]; exact h1, by rw [a53]; exact h2⟩
  · refine Or.inr ⟨by rw [a9]; exact h1, m, h2, by rw [hf.1 233 7 (hA _ _ (by omega))]; exact h3, by rw [a53]; exact h4, fun i hi => ?_⟩
    rw [hf.1 236 i (hA _ _ (by omega)), hf.1 237 i (hA _ _ (by omega)), hf.1 270 i (hA _ _ (by omega)), hf.1 271 i (hA _ _ (by omega))]
    exact h5 i hi
abbrev FisC (c i : Nat) : Prop := (c = 3 ∧ i = 1) ∨ (233 ≤ c ∧ c ≤ 239) ∨ c = 261 ∨ (270 ≤ c ∧ c ≤ 274) ∨ (c = 248 ∧ (i ≤ 5 ∨ i = 53))
section
variable {s : SM} {g : Nat → Int} {N : Nat} {bt : Nat → Int}
theorem q_fit (h : FiT s) (a1 a2 : Int32) : rX11_fit s a1 a2 ∧ rX12_fit s a1 a2 ∧ vX11_fit s a1 a2 = vX12_fit s a1 a2 ∧ mX12_fit s a1 a2 = Th s := by
  obtain ⟨i, hi, rfl⟩ := z_ex a1
  obtain ⟨w, hw, rfl⟩ := z_ex a2
  have e53 : gI (pI s 248 0 0) 248 53 = gI s 248 53 := by rw [gI_pI, if_neg (by omega)]
  have e0 : ∀ j, gI (pI s 248 0 0) 270 j = gI s 270 j := fun j => by rw [gI_pI, if_neg (by omega)]
  have e1 : ∀ j, gI (pI s 248 0 0) 271 j = gI s 271 j := fun j => by rw [gI_pI, if_neg (by omega)]
  have iW : vX12_isIn (pI s 248 0 0) (zI w) 0 1 = bI (0 ≤ w ∧ w ≤ 1) := x_isIn _ hw (b := 0) (c := 1) (by omega) (by omega)
  have wl : zI w < 0 ↔ w < 0 := by rw [zl0, z_lt hw (by omega)]
  have w1 : zI w ≤ 1 ↔ w ≤ 1 := by rw [zl1, z_le hw (by omega)]
  have w0 : zI w = 0 ↔ w = 0 := by rw [zl0, z_eq hw (by omega)]
  have il : zI i < 0 ↔ i < 0 := by rw [zl0, z_lt hi (by omega)]
  have ci : (zI i).toNatClampNeg = i.toNat := z_cl hi
  unfold rX11_fit rX12_fit vX11_fit vX12_fit mX12_fit rX1_told vX1_told
  rw [e53]
  rcases h with ⟨h1, h2⟩ | ⟨h1, m, h2, h3, h4, h5⟩
  · have iI : vX12_isIn (pI s 248 0 0) (zI i) 0 (gI s 248 53 - 1) = 0 := by
      rw [h2, zl0, zl1, z_sub, x_isIn _ hi (by omega) (by omega)]; exact (bI_0 _).mpr (by omega)
    rw [iI, if_pos rfl, h1, if_pos rfl]
    refine ⟨fun _ _ _ hc => absurd rfl hc, fun hc => absurd rfl hc, ?_, rfl⟩
    split
    · rfl
    · split
      · rfl
      · split <;> rfl
  · have iI : vX12_isIn (pI s 248 0 0) (zI i) 0 (gI s 248 53 - 1) = bI (0 ≤ i ∧ i ≤ (m : Int) - 1) := by
      rw [h4, zl0, zl1, z_sub, x_isIn _ hi (by omega) (by omega)]
    have im : zI (m : Int) ≤ zI i ↔ (m : Int) ≤ i := by rw [z_le (by omega) hi]
    have i4 : 4 ≤ zI i ↔ 4 ≤ i := by rw [show (4 : Int32) = zI 4 from rfl, z_le (by omega) hi]
    rw [iI, iW, h3]
    refine ⟨fun a b c d e f => ?_, fun hc hd => ?_, ?_, rfl⟩
    · have hv : vp_in (zI i) 4 := by rw [z_in hi]; rw [il] at a; rw [i4] at c; omega
      exact ⟨fun _ => hv, fun _ => hv⟩
    · have hv : vp_in (zI i) 4 := by
        rw [bI_0, Classical.not_not] at hc
        rw [z_in hi]; omega
      exact ⟨fun _ => hv, fun _ => hv⟩
    · by_cases c1 : 0 ≤ i ∧ i < m
      · have nI : ¬ bI (0 ≤ i ∧ i ≤ (m : Int) - 1) = 0 := by rw [bI_0]; omega
        have ni : ¬ zI i < 0 := by rw [il]; omega
        have nm : ¬ zI (m : Int) ≤ zI i := by rw [im]; omega
        have n4 : ¬ 4 ≤ zI i := by rw [i4]; omega
        rw [if_neg ni, if_neg nm, if_neg n4, if_neg h1, if_neg nI]
        by_cases c2 : 0 ≤ w ∧ w ≤ 1
        · have nW : ¬ bI (0 ≤ w ∧ w ≤ 1) = 0 := by rw [bI_0]; omega
          have nw : ¬ zI w < 0 := by rw [wl]; omega
          have pw : zI w ≤ 1 := by rw [w1]; omega
          rw [if_neg nw, if_pos pw, if_neg nW, ci, e0, e1, (h5 i.toNat (by omega)).1, (h5 i.toNat (by omega)).2]
        · have nW : bI (0 ≤ w ∧ w ≤ 1) = 0 := by rw [bI_0]; exact c2
          rw [if_pos nW]
          by_cases c3 : w < 0
          · rw [if_pos (wl.mpr c3)]
          · have nw : ¬ zI w < 0 := by rw [wl]; exact c3
            have pw : ¬ zI w ≤ 1 := by rw [w1]; omega
            rw [if_neg nw, if_neg pw]
      · have nI : bI (0 ≤ i ∧ i ≤ (m : Int) - 1) = 0 := by rw [bI_0]; omega
        rw [if_pos nI]
        by_cases c2 : i < 0
        · have pi : zI i < 0 := il.mpr c2
          simp only [if_pos pi]
          try (split <;> first | rfl | (split <;> rfl))
        · have ni : ¬ zI i < 0 := by rw [il]; exact c2
          have pm : zI (m : Int) ≤ zI i := by rw [im]; omega
          simp only [if_neg ni, if_pos pm]
          try (split <;> first | rfl | (split <;> rfl))
/-- the class takes what was told -/
theorem y_take (hw : WF g) (h : LdR s 31 5 g) (hN : N ≤ 640) (hy : TpY s N bt) : ∃ s', mX1_take s 31 5 = s' ∧ rX1_take s 31 5 ∧ Fp (fun c i => c = 234 ∨ c = 238 ∨ c = 239 ∨ (c = 233 ∧ (i = 6 ∨ i = 10))) s s' ∧ gD s' 2 = some 31 ∧ ((vX1_take s 31 5 = 0 ∧ ((N : Int) ≠ 2 * g 0 ∨ 4 < (loL g (g 34).toNat).length)) ∨ (vX1_take s 31 5 = 1 ∧ (N : Int) = 2 * g 0 ∧ (loL g (g 34).toNat).length ≤ 4 ∧ gI s' 233 6 = zI ((loL g (g 34).toNat).length : Int) ∧ (∀ i, i < (loL g (g 34).toNat).length → gI s' 234 i = zI (loE (loL g (g 34).toNat) i : Int)) ∧ (∀ b, bdyZ g b → gI s' 238 b.toNat = zI (tdB g bt b - netZ g b + ovT g (loE (loL g (g 34).toNat)) b (loL g (g 34).toNat).length) ∧ gI s' 239 b.toNat = zI (laT g (loE (loL g (g 34).toNat)) b (loL g (g 34).toNat).length)) ∧ ((gI s' 233 10 = 1 ∧ ∀ b, bdyZ g b → livZ g b → laT g (loE (loL g (g 34).toNat)) b (loL g (g 34).toNat).length = -1 → tdB g bt b - netZ g b + ovT g (loE (loL g (g 34).toNat)) b (loL g (g 34).toNat).length = 0) ∨ (gI s' 233 10 = 0 ∧ ∃ b, bdyZ g b ∧ livZ g b ∧ laT g (loE (loL g (g 34).toNat)) b (loL g (g 34).toNat).length = -1 ∧ ¬ tdB g bt b - netZ g b + ovT g (loE (loL g (g 34).toNat)) b (loL g (g 34).toNat).length = 0)))) := by
  have h0 := hw.w0
  obtain ⟨L, hL⟩ : ∃ L, L = loL g (g 34).toNat := ⟨_, rfl⟩
  obtain ⟨m, hm⟩ : ∃ m, m = L.length := ⟨_, rfl⟩
  obtain ⟨el, hel⟩ : ∃ el, el = loE L := ⟨_, rfl⟩
  rw [← hL, ← hm, ← hel]
  have rf : rfx 31 8 = 5 := by decide
  have mLX : ((31, 5) : Nat × Nat) ∈ LX := by decide
  obtain ⟨s0, hs0⟩ : ∃ s0, s0 = pD s 2 31 := ⟨_, rfl⟩
  have d0 : gD s0 2 = some 31 := by rw [hs0, gD_pD, if_pos rfl]
  have x0 : gDx s0 2 = 31 := by unfold gDx; rw [d0]; rfl
  have f0 : Fp (fun _ _ => False) s s0 := by rw [hs0]; exact ⟨fun _ _ _ => rfl, rfl, rfl⟩
  have l0 : LdR s0 31 5 g := LdR_fp h f0 (fun _ _ _ h => h)
  have e31 : gI s0 3 1 = zI (N : Int) := by rw [f0.1 3 1 (fun h => h)]; exact hy.1
  have e56 : gI s0 5 6 = zI (g 0) := l0.1.1.1
  have e2 : 2 * zI (g 0) = zI (2 * g 0) := by rw [zl2, z_mul]
  have zN : zI (N : Int) = zI (2 * g 0) ↔ (N : Int) = 2 * g 0 := z_eq (by omega) (by omega)
  by_cases cN : (N : Int) = 2 * g 0
  · obtain ⟨s1, a1, a2, a3, a4, a5⟩ := y_findLost hw l0 d0
    rw [← hL] at a5
    rcases a5 with ⟨b1, b2, b3, b4⟩ | ⟨b1, b2⟩
    · rw [← hm] at b2 b3
      have b4' : ∀ i, i < m → gI s1 234 i = zI (el i : Int) := fun i hi => by rw [hel]; exact b4 i (by omega)
      have hop : ∀ i, i < m → opZ g (el i) := fun i hi => by
        rw [hel]
        have := ((loL_b g (g 34).toNat).1 (loE L i) (by rw [← hL]; exact loE_m (by omega))).2
        exact this.1
      have n1 : ¬ vX1_findLost s0 = 0 := by rw [b1]; decide
      obtain ⟨s2, hs2⟩ : ∃ s2, s2 = pI s1 233 10 1 := ⟨_, rfl⟩
      have f2 : Fp (fun c i => c = 233 ∧ i = 10) s1 s2 := by rw [hs2]; exact Fp_p s1 ⟨rfl, rfl⟩
      have g2 : gD s2 = gD s0 := by rw [hs2, gD_pI]; exact a4
      have F2 : Fp (fun c i => c = 234 ∨ c = 238 ∨ c = 239 ∨ (c = 233 ∧ (i = 6 ∨ i = 10))) s s2 := Fp_tr (Fp_mo f0 (fun _ _ h => h.elim)) (Fp_tr (Fp_mo a3 (fun c i hc => by omega)) (Fp_mo f2 (fun c i hc => by omega)))
      have enb : (((g 0).toNat : Nat) : Int) = g 0 := by omega
      obtain ⟨nb, hnb⟩ : ∃ nb, nb = (g 0).toNat := ⟨_, rfl⟩
      rw [← hnb] at enb
      have btd : ∀ d : Nat, d < nb → -10000 ≤ tdB g bt d ∧ tdB g bt d ≤ 100000 := fun d hd => by
        have y1 := (hy.2 (2 * d) (by omega)).1
        have y2 := (hy.2 (2 * d + 1) (by omega)).1
        unfold tdB
        rw [if_pos (by omega), Int.toNat_natCast]
        omega
      obtain ⟨nd, hnd⟩ : ∃ nd : Int → Int, nd = fun b => tdB g bt b - netZ g b + ovT g el b m := ⟨_, rfl⟩
      have end' : ∀ b, nd b = tdB g bt b - netZ g b + ovT g el b m := fun b => by rw [hnd]
      obtain ⟨u, ⟨i1, i2, i3, i4, i5⟩, st⟩ := ST_up (B := 1) nb (fun (d : Nat) (u : SM) => Fp (fun c i => c = 238 ∨ c = 239 ∨ (c = 233 ∧ i = 10)) s2 u ∧ gD u = gD s0 ∧ (∀ b : Nat, b < d → gI u 238 b = zI (nd b) ∧ gI u 239 b = zI (laT g el b m)) ∧ (gI u 233 10 = 1 ∨ gI u 233 10 = 0) ∧ ((gI u 233 10 = 1 → ∀ b : Nat, b < d → livZ g (b : Int) → laT g el b m = -1 → nd b = 0) ∧ (gI u 233 10 = 0 → ∃ b : Nat, b < d ∧ livZ g (b : Int) ∧ laT g el b m = -1 ∧ ¬ nd b = 0))) (fun d u k => lX1_take k u 31 5 (zI (nb : Int)) (zI (d : Int))) (fun d u k => qX1_take k u 31 5 (zI (nb : Int)) (zI (d : Int))) (fun d u hd ⟨c1, c2, c3, c4, c5⟩ => by
        have fu : Fp (fun c i => c = 234 ∨ c = 238 ∨ c = 239 ∨ (c = 233 ∧ (i = 6 ∨ i = 10))) s u := Fp_tr F2 (Fp_mo c1 (fun c i hc => by omega))
        have lu : LdR u 31 5 g := LdR_fp h fu (fun c i hc => by omega)
        have du : gD u 2 = some 31 := by rw [c2]; exact d0
        have nle : ¬ zI (nb : Int) ≤ zI (d : Int) := by rw [z_le (by omega) (by omega)]; omega
        have e1 : zI (d : Int) + 1 = zI ((d + 1 : Nat) : Int) := by rw [zl1, z_add]; congr 1
        have e2d : 2 * zI (d : Int) = zI ((2 * d : Nat) : Int) := by rw [zl2, z_mul]; congr 1
        have e2d1 : zI ((2 * d : Nat) : Int) + 1 = zI ((2 * d + 1 : Nat) : Int) := by rw [zl1, z_add]; congr 1
        have h4 : ∀ i, i < N → gI u 4 i = zI (bt i) := fun i hi => by rw [fu.1 4 i (by omega)]; exact (hy.2 i hi).2
        have u31 : gI u 3 1 = zI (N : Int) := by rw [fu.1 3 1 (by omega)]; exact hy.1
        obtain ⟨o1, o2⟩ := y_byteOr hN u31 h4 (j := 2 * d) (by omega) 0
        obtain ⟨o3, o4⟩ := y_byteOr hN u31 h4 (j := 2 * d + 1) (by omega) 0
        have etd : zI (bt (2 * d)) * 256 + zI (bt (2 * d + 1)) - 10000 = zI (tdB g bt d) := by
          rw [show (256 : Int32) = zI 256 from rfl, show (10000 : Int32) = zI 10000 from rfl, z_mul, z_add, z_sub]
          unfold tdB
          rw [if_pos (by omega), Int.toNat_natCast]
          congr 1; omega
        have hbd : bdyZ g (d : Int) := ⟨by omega, by omega⟩
        have eu6 : gI u 233 6 = zI (m : Int) := by rw [c1.1 233 6 (by omega), f2.1 233 6 (by omega)]; exact b3
        have eu234 : ∀ i, i < m → gI u 234 i = zI (el i : Int) := fun i hi => by rw [c1.1 234 i (by omega), f2.1 234 i (by omega)]; exact b4' i hi
        obtain ⟨v, k1, k2, k3, k4, k5, k6, k7⟩ := y_findNeeded hw b2 hop lu du eu6 eu234 hbd (T := tdB g bt d) (by have := btd d hd; omega)
        rw [Int.toNat_natCast] at k3 k5 k6
        rw [← end'] at k5 k7
        refine ⟨v, ⟨Fp_tr c1 (Fp_mo k3 (fun c i hc => by omega)), by rw [k4]; exact c2, fun b hb => ?_, ?_, fun h1 b hb hlv hla => ?_, fun h1 => ?_⟩, ST_1 fun k => ?_⟩
        · by_cases hq : b = d
          · rw [hq]; exact ⟨k5, k6⟩
          · rw [k3.1 238 b (by omega), k3.1 239 b (by omega)]; exact c3 b (by omega)
        · rw [k7]
          split
          · exact Or.inr rfl
          · exact c4
        · rw [k7] at h1
          by_cases hc : laT g el d m = -1 ∧ livZ g (d : Int) ∧ ¬ nd d = 0
          · rw [if_pos hc] at h1; exact absurd h1 (by decide)
          · rw [if_neg hc] at h1
            by_cases hq : b = d
            · rw [hq] at hlv hla ⊢
              exact Classical.byContradiction fun hn => hc ⟨hla, hlv, hn⟩
            · exact c5.1 h1 b (by omega) hlv hla
        · rw [k7] at h1
          by_cases hc : laT g el d m = -1 ∧ livZ g (d : Int) ∧ ¬ nd d = 0
          · exact ⟨d, by omega, hc.2.1, hc.1, hc.2.2⟩
          · rw [if_neg hc] at h1
            obtain ⟨b, y1, y2, y3, y4⟩ := c5.2 h1
            exact ⟨b, by omega, y2, y3, y4⟩
        · show tX1_take_43 (lX1_take k) u 31 5 (zI (nb : Int)) (zI (d : Int)) = _ ∧ (_ → uX1_take_43 (qX1_take k) u 31 5 (zI (nb : Int)) (zI (d : Int)))
          unfold tX1_take_43 uX1_take_43
          rw [if_neg nle, e2d, e2d1, o1, o3, etd, k1, e1]
          exact ⟨rfl, fun hh _ => ⟨o2, o4, k2, fun s1' h1 => by rw [h1]; exact hh⟩⟩) nb 0 s2 (by omega) ⟨Fp_rf _ s2, g2, fun b hb => absurd hb (by omega), Or.inl (by rw [hs2, gI_pI, if_pos ⟨rfl, rfl⟩]), fun _ b hb => absurd hb (by omega), fun h1 => by rw [hs2, gI_pI, if_pos ⟨rfl, rfl⟩] at h1; exact absurd h1 (by decide)⟩
      have p1 : ST 1 (fun k => lX1_take k u 31 5 (zI (nb : Int)) (zI (nb : Int))) (fun k => qX1_take k u 31 5 (zI (nb : Int)) (zI (nb : Int))) (fun _ => ((1 : Int32), u)) (fun _ => True) := ST_1 fun k => by
        show tX1_take_43 (lX1_take k) u 31 5 (zI (nb : Int)) (zI (nb : Int)) = _ ∧ (_ → uX1_take_43 (qX1_take k) u 31 5 (zI (nb : Int)) (zI (nb : Int)))
        unfold tX1_take_43 uX1_take_43
        rw [if_pos (Int32.le_refl _)]
        exact ⟨rfl, fun _ hc => absurd (Int32.le_refl _) hc⟩
      obtain ⟨E, R⟩ := ST_fu (ST_trans st p1) (by omega)
      have ET : fX1_take s 31 5 = (1, u) := by
        unfold fX1_take
        rw [← hs0, x0, rf, e31, e56, e2, if_pos (zN.mpr cN), if_neg n1, a1, ← hs2, ← enb]
        exact E
      have RT : rX1_take s 31 5 := by
        unfold rX1_take
        rw [← hs0, x0, rf, e31, e56, e2, a1, ← hs2, ← enb]
        exact ⟨d0, mLX, fun _ => ⟨a2, fun _ => R⟩⟩
      refine ⟨u, by unfold mX1_take; rw [ET], RT, Fp_tr F2 (Fp_mo i1 (fun c i hc => by omega)), by rw [i2]; exact d0, Or.inr ⟨by unfold vX1_take; rw [ET], cN, b2, by rw [i1.1 233 6 (by omega), f2.1 233 6 (by omega)]; exact b3, fun i hi => by rw [i1.1 234 i (by omega), f2.1 234 i (by omega)]; exact b4' i hi, fun b hb => ?_, ?_⟩⟩
      · have hb' : 0 ≤ b ∧ b < g 0 := hb
        have eb : ((b.toNat : Nat) : Int) = b := by omega
        have := i3 b.toNat (by omega)
        rw [eb, end'] at this
        exact this
      · rcases i4 with h1 | h1
        · left
          refine ⟨h1, fun b hb hlv hla => ?_⟩
          have hb' : 0 ≤ b ∧ b < g 0 := hb
          have eb : ((b.toNat : Nat) : Int) = b := by omega
          have := i5.1 h1 b.toNat (by omega)
          rw [eb, end'] at this
          exact this hlv hla
        · right
          obtain ⟨b, y1, y2, y3, y4⟩ := i5.2 h1
          rw [end'] at y4
          exact ⟨h1, b, ⟨by omega, by omega⟩, y2, y3, y4⟩
    · have ET : fX1_take s 31 5 = (0, s1) := by
        unfold fX1_take
        rw [← hs0, x0, rf, e31, e56, e2, if_pos (zN.mpr cN), if_pos b1, a1]
      have RT : rX1_take s 31 5 := by
        unfold rX1_take
        rw [← hs0, x0, rf, e31, e56, e2]
        exact ⟨d0, mLX, fun _ => ⟨a2, fun hc => absurd b1 hc⟩⟩
      exact ⟨s1, by unfold mX1_take; rw [ET], RT, Fp_tr (Fp_mo f0 (fun _ _ h => h.elim)) (Fp_mo a3 (fun c i hc => by omega)), by rw [a4]; exact d0, Or.inl ⟨by unfold vX1_take; rw [ET], Or.inr (by omega)⟩⟩
  · have ET : fX1_take s 31 5 = (0, s0) := by
      unfold fX1_take
      rw [← hs0, x0, rf, e31, e56, e2, if_neg (fun hc => cN (zN.mp hc))]
    have RT : rX1_take s 31 5 := by
      unfold rX1_take
      rw [← hs0, x0, rf, e31, e56, e2]
      exact ⟨d0, mLX, fun hc => absurd (zN.mp hc) cN⟩
    exact ⟨s0, by unfold mX1_take; rw [ET], RT, Fp_mo f0 (fun _ _ h => h.elim), d0, Or.inl ⟨by unfold vX1_take; rw [ET], Or.inl cN⟩⟩
theorem AcR_fit {m : Nat} {t : SM} {a : Acc} (hm : m ≤ 4) (hb : a.1 ≤ 200000) (h9 : gI t 233 9 = zI (a.1 : Int)) (h7 : gI t 233 7 = zI (m : Int)) (hY : ¬ a.1 = 0 → ∀ i, i < m → gI t 236 i = zI (a.2.1 i : Int) ∧ gI t 237 i = zI (a.2.2 i : Int)) (hX : AcX m t a) : FiT t := by
  by_cases c : a.1 = 0
  · left
    exact ⟨by rw [h9, c]; rfl, hX.1 c⟩
  · right
    obtain ⟨k1, k2⟩ := hX.2 c
    refine ⟨by rw [h9, zl0, z_eq (by omega) (by omega)]; omega, m, hm, h7, k1, fun i hi => ?_⟩
    obtain ⟨-, k3, k4⟩ := k2 i hi
    obtain ⟨y1, y2⟩ := hY c i hi
    rw [y1, y2, k3, k4]
    exact ⟨rfl, rfl⟩
theorem q_fits (h : LdR s 31 5 g) (h2 : RR s g) (hw : WF g) (hi : HI s g) (ht : TpB s N bt) (hf : FiT s) (a1 : Int32) : rX11_fits s a1 ∧ rX12_fits (mX11_fits s a1) a1 ∧ vX11_fits s a1 = vX12_fits (mX11_fits s a1) a1 ∧ gI (mX12_fits (mX11_fits s a1) a1) 3 1 = 0 ∧ gI (mX12_fits (mX11_fits s a1) a1) 248 2 = 0 ∧ FiT (mX12_fits (mX11_fits s a1) a1) ∧ Fp FisC s (mX12_fits (mX11_fits s a1) a1) := by
  obtain ⟨M, hM, rfl⟩ := z_ex a1
  obtain ⟨hN, hy, hx⟩ := TpB_i.mp ht
  have h0 := hw.w0
  have hwa := HI_wa hi
  obtain ⟨L, hL⟩ : ∃ L, L = loL g (g 34).toNat := ⟨_, rfl⟩
  obtain ⟨m, hm⟩ : ∃ m, m = L.length := ⟨_, rfl⟩
  obtain ⟨el, hel⟩ : ∃ el, el = loE L := ⟨_, rfl⟩
  have hLb := loL_b g (g 34).toNat
  rw [← hL] at hLb
  have c00 : ((0 : Int32)).toNatClampNeg = 0 := rfl
  have iM : ∀ t, vX12_isIn t (zI M) 1 20 = bI (1 ≤ M ∧ M ≤ 20) := fun t => x_isIn t hM (b := 1) (c := 20) (by omega) (by omega)
  have ml : zI M < 1 ↔ M < 1 := by rw [zl1, z_lt hM (by omega)]
  have mh : 20 < zI M ↔ 20 < M := by rw [show (20 : Int32) = zI 20 from rfl, z_lt (by omega) hM]
  have n10 : ¬ (1 : Int32) = 0 := by decide
  -- the reference, refused
  have xno : ∀ t : SM, RR t g → gI t 248 2 = zI (N : Int) → (¬ (1 ≤ M ∧ M ≤ 20) ∨ (N : Int) ≠ 2 * g 0 ∨ 4 < m) → ∃ t', mX12_fits t (zI M) = t' ∧ rX12_fits t (zI M) ∧ vX12_fits t (zI M) = -1 ∧ Fp (fun c i => c = 248 ∧ i ≤ 5) t t' ∧ gI t' 248 2 = 0 := by
    intro t rt t2 hno
    obtain ⟨t1, ht1⟩ : ∃ t1, t1 = mX12_taken (pI t 248 0 0) 640 := ⟨_, rfl⟩
    have f1 : Fp (fun c i => c = 248 ∧ i ≤ 5) t t1 := by
      rw [ht1]
      unfold mX12_taken
      exact Fp_tr (Fp_p t (by omega)) (Fp_tr (Fp_p _ (by omega)) (Fp_tr (Fp_p _ (by omega)) (Fp_tr (Fp_p _ (by omega)) (Fp_p _ (by omega)))))
    have e3 : gI t1 248 3 = zI (N : Int) := by
      rw [ht1]
      unfold mX12_taken
      simp only [gI_pI]
      exact t2
    have e2 : gI t1 248 2 = 0 := by
      rw [ht1]
      unfold mX12_taken
      simp only [gI_pI]
      rfl
    have r1 : RR t1 g := RR_fp rt f1 (fun i => by omega)
    obtain ⟨n1, n2⟩ := x_lostN hw r1
    rw [← hL, ← hm] at n1
    have eg : gI t1 250 0 = zI (g 0) := r1 0
    have e2g : 2 * zI (g 0) = zI (2 * g 0) := by rw [zl2, z_mul]
    have zN : zI (N : Int) = zI (2 * g 0) ↔ (N : Int) = 2 * g 0 := z_eq (by omega) (by omega)
    have z4 : zI (m : Int) ≤ 4 ↔ m ≤ 4 := by rw [show (4 : Int32) = zI 4 from rfl, z_le (by omega) (by omega)]; omega
    have EF : fX12_fits t (zI M) = (-1, t1) := by
      unfold fX12_fits
      rw [← ht1, iM, e3, c00, eg, e2g, n1]
      by_cases c1 : 1 ≤ M ∧ M ≤ 20
      · rw [if_neg (by rw [bI_0]; exact fun hc => hc c1)]
        by_cases c2 : (N : Int) = 2 * g 0
        · rw [if_pos (zN.mpr c2), if_neg (by rw [z4]; rcases hno with hc | hc | hc; exact absurd c1 hc; exact absurd c2 hc; omega)]
        · rw [if_neg (fun hc => c2 (zN.mp hc))]
      · rw [if_pos (by rw [bI_0]; exact c1)]
    refine ⟨t1, by unfold mX12_fits; rw [EF], ?_, by unfold vX12_fits; rw [EF], f1, e2⟩
    unfold rX12_fits
    rw [← ht1, iM, e3, c00, eg, e2g, n1]
    refine ⟨n2, fun k1 k2 k3 => ?_⟩
    rw [bI_0, Classical.not_not] at k1
    rcases hno with hc | hc | hc
    · exact absurd k1 hc
    · exact absurd (zN.mp k2) hc
    · have := z4.mp k3; omega
  -- refused by both
  have fin : ∀ u : SM, mX11_fits s (zI M) = u → rX11_fits s (zI M) → vX11_fits s (zI M) = -1 → Fp (fun c i => (c = 3 ∧ i = 1) ∨ c = 234 ∨ c = 238 ∨ c = 239 ∨ (c = 233 ∧ (i = 6 ∨ i = 10))) s u → gI u 3 1 = 0 → (¬ (1 ≤ M ∧ M ≤ 20) ∨ (N : Int) ≠ 2 * g 0 ∨ 4 < m) → rX11_fits s (zI M) ∧ rX12_fits (mX11_fits s (zI M)) (zI M) ∧ vX11_fits s (zI M) = vX12_fits (mX11_fits s (zI M)) (zI M) ∧ gI (mX12_fits (mX11_fits s (zI M)) (zI M)) 3 1 = 0 ∧ gI (mX12_fits (mX11_fits s (zI M)) (zI M)) 248 2 = 0 ∧ FiT (mX12_fits (mX11_fits s (zI M)) (zI M)) ∧ Fp FisC s (mX12_fits (mX11_fits s (zI M)) (zI M)) := by
    intro u hu hr hv hfu hu1 hno
    obtain ⟨t', q1, q2, q3, q4, q5⟩ := xno u (RR_fp h2 hfu (fun i => by omega)) (by rw [hfu.1 248 2 (by omega)]; exact hx.1) hno
    rw [hu, q1, q3]
    exact ⟨hr, q2, hv, by rw [q4.1 3 1 (by omega)]; exact hu1, q5, FiT_fp (FiT_fp hf hfu (fun c i hc => by omega)) q4 (fun c i hc => by omega), Fp_tr (Fp_mo hfu (fun c i hc => by omega)) (Fp_mo q4 (fun c i hc => by omega))⟩
  have l33 : ∀ u : SM, (lX11_fits FU) u (zI M) = (-1, pI u 3 1 0) ∧ (qX11_fits FU) u (zI M) := fun u => ST_fu (ST_1 (F := fun n => lX11_fits n u (zI M)) (C := fun n => qX11_fits n u (zI M)) (F' := fun _ => ((-1 : Int32), pI u 3 1 0)) (C' := fun _ => True) (fun n => by
    show tX11_fits_33 (lX11_fits n) u (zI M) = _ ∧ (_ → uX11_fits_33 (qX11_fits n) u (zI M))
    unfold tX11_fits_33 uX11_fits_33
    rw [if_pos rfl]
    exact ⟨rfl, fun _ hc => absurd rfl hc⟩)) (by omega)
  have e31 : ∀ u : SM, gI (pI u 3 1 0) 3 1 = 0 := fun u => by rw [gI_pI, if_pos ⟨rfl, rfl⟩]
  by_cases cM : 1 ≤ M ∧ M ≤ 20
  · have m1 : ¬ zI M < 1 := by rw [ml]; omega
    have m2 : ¬ 20 < zI M := by rw [mh]; omega
    obtain ⟨s1, y1, y2, y3, y4, y5⟩ := y_take hw h hN hy
    rw [← hL, ← hm, ← hel] at y5
    rcases y5 with ⟨v0, hno⟩ | ⟨v1, cN, cm, t6, t234, tnd, tpo⟩
    · refine fin (pI s1 3 1 0) ?_ ?_ ?_ (Fp_tr (Fp_mo y3 (fun c i hc => by omega)) (Fp_p s1 (by omega))) (e31 s1) (Or.inr hno)
      · unfold mX11_fits fX11_fits
        rw [if_neg m1, if_neg m2, if_pos v0, y1, (l33 s1).1]
      · unfold rX11_fits
        rw [y1]
        exact ⟨fun hc => absurd hc m1, fun _ => ⟨fun hc => absurd hc m2, fun _ => ⟨y2, fun _ => (l33 s1).2, fun hc => absurd v0 hc⟩⟩⟩
      · unfold vX11_fits fX11_fits
        rw [if_neg m1, if_neg m2, if_pos v0, y1, (l33 s1).1]
    · -- told
      have nv : ¬ vX1_take s 31 5 = 0 := by rw [v1]; exact n10
      obtain ⟨MN, rfl⟩ : ∃ MN : Nat, M = MN := ⟨M.toNat, by omega⟩
      have cMN : 1 ≤ MN ∧ MN ≤ 20 := ⟨by omega, by omega⟩
      obtain ⟨hp1, hp2⟩ := pow_4 cMN cm
      obtain ⟨NB, hNB⟩ : ∃ NB : Int → Int, NB = fun b => tdB g bt b - (netZ g b - ovT g el b m) := ⟨_, rfl⟩
      have eNB : ∀ b, NB b = tdB g bt b - (netZ g b - ovT g el b m) := fun b => by rw [hNB]
      have hop : ∀ i, i < m → opZ g (el i) ∧ ¬ sorZ g (el i) = 3 := fun i hi => by
        have := (hLb.1 (loE L i) (loE_m (by omega))).2
        rw [hel]
        exact ⟨this.1, this.2.1⟩
      have opn : ∀ i, i < m → opZ g (el i) := fun i hi => (hop i hi).1
      have btd : ∀ b, -10000 ≤ tdB g bt b ∧ tdB g bt b ≤ 100000 := fun b => by
        unfold tdB
        by_cases cb : 0 ≤ b ∧ b < g 0
        · rw [if_pos cb]
          have q1 := (hy.2 (2 * b.toNat) (by omega)).1
          have q2 := (hy.2 (2 * b.toNat + 1) (by omega)).1
          omega
        · rw [if_neg cb]; omega
      have otb : ∀ b, -100000 ≤ netZ g b - ovT g el b m ∧ netZ g b - ovT g el b m ≤ 100000 := fun b => by
        have q2 := netZ_b hw b
        have q3 := ov_b hw opn b m (Nat.le_refl _)
        omega
      have nbb : ∀ b, -200000 ≤ NB b ∧ NB b ≤ 200000 := fun b => by
        have q1 := btd b
        have q2 := otb b
        rw [eNB]; omega
      obtain ⟨E, hE⟩ : ∃ E, E = EnU MN (fitP g el NB) m [] ac0 := ⟨_, rfl⟩
      have eb : E.1 ≤ 200000 := by
        rw [hE, EnU_fold (by omega)]
        have q := fold_a1 (p := fitP g el NB) (fun N => lsM MN m N ++ []) (MN ^ m) ac0
        have e0 : ac0.1 = 0 := rfl
        rw [e0] at q
        exact Nat.le_trans q (by omega)
      obtain ⟨s2, hs2⟩ : ∃ s2, s2 = pI s1 3 1 0 := ⟨_, rfl⟩
      have f2 : Fp (fun c i => c = 3 ∧ i = 1) s1 s2 := by rw [hs2]; exact Fp_p s1 ⟨rfl, rfl⟩
      obtain ⟨s3, hs3⟩ : ∃ s3, s3 = pI (pI (pI s2 233 8 (zI (MN : Int))) 233 9 0) 233 7 (zI (m : Int)) := ⟨_, rfl⟩
      have e6 : gI (pI (pI s2 233 8 (zI (MN : Int))) 233 9 0) 233 6 = zI (m : Int) := by
        rw [gI_pI, if_neg (by omega), gI_pI, if_neg (by omega), f2.1 233 6 (by omega)]; exact t6
      have f3 : Fp (fun c i => c = 233 ∧ 7 ≤ i ∧ i ≤ 9) s2 s3 := by rw [hs3]; exact Fp_tr (Fp_p s2 (by omega)) (Fp_tr (Fp_p _ (by omega)) (Fp_p _ (by omega)))
      have w7 : gI s3 233 7 = zI (m : Int) := by rw [hs3, gI_pI, if_pos ⟨rfl, rfl⟩]
      have w8 : gI s3 233 8 = zI (MN : Int) := by rw [hs3, gI_pI, if_neg (by omega), gI_pI, if_neg (by omega), gI_pI, if_pos ⟨rfl, rfl⟩]
      have w9 : gI s3 233 9 = 0 := by rw [hs3, gI_pI, if_neg (by omega), gI_pI, if_pos ⟨rfl, rfl⟩]
      have w10 : gI s3 233 10 = gI s1 233 10 := by rw [f3.1 233 10 (by omega), f2.1 233 10 (by omega)]
      have gd3 : gD s3 2 = some 31 := by rw [hs3, hs2]; exact y4
      have F3 : Fp (fun c i => (c = 3 ∧ i = 1) ∨ c = 234 ∨ c = 238 ∨ c = 239 ∨ (c = 233 ∧ 6 ≤ i ∧ i ≤ 10)) s s3 := Fp_tr (Fp_mo y3 (fun c i hc => by omega)) (Fp_tr (Fp_mo f2 (fun c i hc => by omega)) (Fp_mo f3 (fun c i hc => by omega)))
      have w31 : gI s3 3 1 = 0 := by rw [f3.1 3 1 (by omega), hs2]; exact e31 s1
      have mm : mX11_fits s (zI (MN : Int)) = mX1_search s2 (zI (MN : Int)) := by
        unfold mX11_fits fX11_fits
        rw [if_neg m1, if_neg m2, if_neg nv, if_neg n10, y1, ← hs2]
      have vv : vX11_fits s (zI (MN : Int)) = vX1_search s2 (zI (MN : Int)) := by
        unfold vX11_fits fX11_fits
        rw [if_neg m1, if_neg m2, if_neg nv, if_neg n10, y1, ← hs2]
      have rr : rX1_search s2 (zI (MN : Int)) → rX11_fits s (zI (MN : Int)) := fun hr => by
        unfold rX11_fits
        rw [y1, ← hs2]
        exact ⟨fun hc => absurd hc m1, fun _ => ⟨fun hc => absurd hc m2, fun _ => ⟨y2, fun hc => absurd hc nv, fun _ _ => hr⟩⟩⟩
      have cls : ∃ s4, mX11_fits s (zI (MN : Int)) = s4 ∧ rX11_fits s (zI (MN : Int)) ∧ vX11_fits s (zI (MN : Int)) = zI (E.1 : Int) ∧ Fp (fun c i => (c = 3 ∧ i = 1) ∨ (233 ≤ c ∧ c ≤ 239)) s s4 ∧ gI s4 3 1 = 0 ∧ AcR m s4 E ∧ gI s4 233 7 = zI (m : Int) := by
        rcases tpo with ⟨t10, hz⟩ | ⟨t10, b0, hb0, hl0, ha0, hn0⟩
        · have hD : FtD g el m MN NB := ⟨cm, cMN, hop, nbb, fun b hb hlv hla => by
            have := hz b hb hlv hla
            rw [eNB]; omega, hw, hwa⟩
          have hC : FtC g el m MN s3 := ⟨LdR_fp h F3 (fun c i hc => by omega), gd3, by rw [f3.1 233 6 (by omega), f2.1 233 6 (by omega)]; exact t6, w8, fun i hi => by rw [f3.1 234 i (by omega), f2.1 234 i (by omega)]; exact t234 i hi, fun b hb => by rw [f3.1 239 _ (by omega), f2.1 239 _ (by omega)]; exact (tnd b hb).2⟩
          have hNd : NdR g el NB s3 [] := fun b hb => by
            rw [f3.1 238 _ (by omega), f2.1 238 _ (by omega), (tnd b hb).1, eNB]
            show _ = zI (_ - 0)
            congr 1; omega
          obtain ⟨s4, z1, z2, z3, z4, -, -, z7⟩ := y_tryFrom hD m [] s3 ac0 400 (by show 0 + m = m; omega) (fun w hw => absurd hw (by simp)) (fun b hb h1 h2 => by have h2 : laT g el b m < ((0 : Nat) : Int) := h2; omega) hC hNd trivial ⟨w9, fun hc => absurd rfl hc⟩ (by show 0 + MN ^ m ≤ 200000; omega) (by omega)
          have z0 : zI ((([] : List Nat).length : Nat) : Int) = 0 := rfl
          rw [z0] at z1 z2
          rw [← hE] at z7
          have n10' : ¬ gI s3 233 10 = 0 := by rw [w10, t10]; exact n10
          have ms : mX1_search s2 (zI (MN : Int)) = s4 := by
            unfold mX1_search mX1_tryFrom
            rw [e6, ← hs3, if_neg n10', z1]
          have vs : vX1_search s2 (zI (MN : Int)) = zI (E.1 : Int) := by
            unfold vX1_search mX1_tryFrom
            rw [e6, ← hs3, if_neg n10', z1]
            exact z7.1
          refine ⟨s4, by rw [mm, ms], rr ?_, by rw [vv, vs], Fp_tr (Fp_mo F3 (fun c i hc => by omega)) (Fp_mo z3 (fun c i hc => by omega)), by rw [z3.1 3 1 (by omega)]; exact w31, z7, by rw [z3.1 233 7 (by omega)]; exact w7⟩
          unfold rX1_search rX1_tryFrom
          rw [e6, ← hs3]
          exact fun _ => z2
        · have hEn : E = ac0 := by
            rw [hE]
            refine EnU_no m [] ac0 (fun Q hQ hc => ?_)
            have k1 := hc b0 hb0 hl0
            rw [smT_set (m := m) (by rw [ha0]; show (-1 : Int) < ((0 : Nat) : Int); omega) Q (by rw [List.append_nil, hQ]; exact Nat.le_refl _)] at k1
            have k1 : (0 : Int) = NB b0 := k1
            rw [eNB] at k1
            omega
          have y10 : gI s3 233 10 = 0 := by rw [w10]; exact t10
          have ms : mX1_search s2 (zI (MN : Int)) = s3 := by
            unfold mX1_search
            rw [e6, ← hs3, if_pos y10]
          have vs : vX1_search s2 (zI (MN : Int)) = zI (E.1 : Int) := by
            unfold vX1_search
            rw [e6, ← hs3, if_pos y10, w9, hEn]; rfl
          refine ⟨s3, by rw [mm, ms], rr ?_, by rw [vv, vs], Fp_mo F3 (fun c i hc => by omega), w31, ⟨by rw [hEn]; exact w9, fun hc => absurd (by rw [hEn]; rfl) hc⟩, w7⟩
          unfold rX1_search
          rw [e6, ← hs3]
          exact fun hc => absurd y10 hc
      obtain ⟨s4, x1, x2, x3, x4, x5, x6, x7⟩ := cls
      have r4 : RR s4 g := RR_fp h2 x4 (fun i => by omega)
      obtain ⟨t1, ht1⟩ : ∃ t1, t1 = mX12_taken (pI s4 248 0 0) 640 := ⟨_, rfl⟩
      have f1 : Fp (fun c i => c = 248 ∧ i ≤ 5) s4 t1 := by
        rw [ht1]
        unfold mX12_taken
        exact Fp_tr (Fp_p s4 (by omega)) (Fp_tr (Fp_p _ (by omega)) (Fp_tr (Fp_p _ (by omega)) (Fp_tr (Fp_p _ (by omega)) (Fp_p _ (by omega)))))
      have e3 : gI t1 248 3 = zI (N : Int) := by
        rw [ht1]
        unfold mX12_taken
        simp only [gI_pI]
        show gI s4 248 2 = _
        rw [x4.1 248 2 (by omega)]; exact hx.1
      have e2 : gI t1 248 2 = 0 := by
        rw [ht1]
        unfold mX12_taken
        simp only [gI_pI]
        rfl
      have r1 : RR t1 g := RR_fp r4 f1 (fun i => by omega)
      obtain ⟨n1, n2⟩ := x_lostN hw r1
      rw [← hL, ← hm] at n1
      have eg : gI t1 250 0 = zI (g 0) := r1 0
      have e2g : 2 * zI (g 0) = zI (N : Int) := by rw [zl2, z_mul, cN]
      have z4 : zI (m : Int) ≤ 4 := by rw [show (4 : Int32) = zI 4 from rfl, z_le (by omega) (by omega)]; omega
      have hlo := x_lostE hw
      rw [← hL, ← hm, ← hel] at hlo
      obtain ⟨s5, a1, a2, a3, a4, a5⟩ := x_fprep cm hw hlo opn r1 (bt := bt) (fun i hi => ⟨(hy.2 i (by omega)).1, by rw [f1.1 249 i (by omega), x4.1 249 i (by omega)]; exact (hx.2 i (by omega)).2⟩) (zI (MN : Int))
      have hD : FxD g el m MN NB (tdB g bt) (fun b => netZ g b - ovT g el b m) := ⟨cm, cMN, hop, hw, hlo, eNB, fun b => by have := btd b; omega, otb⟩
      obtain ⟨s6, b1, b2, b3⟩ := x_floop hD a3 a4 a5
      rw [← hE] at b1 b3
      obtain ⟨EQ, RQ⟩ := ST_fu (ST_trans a1 b1) (by omega)
      have EF : fX12_fits s4 (zI (MN : Int)) = (zI (E.1 : Int), s6) := by
        unfold fX12_fits
        rw [← ht1, iM, e3, c00, eg, e2g, n1, if_neg (by rw [bI_0]; exact fun hc => hc cM), if_pos rfl, if_pos z4]
        exact EQ
      have f6 : Fp (fun c i => c = 261 ∨ (270 ≤ c ∧ c ≤ 274) ∨ (c = 248 ∧ (i ≤ 5 ∨ i = 53))) s4 s6 := Fp_tr (Fp_mo f1 (fun c i hc => by omega)) (Fp_tr (Fp_mo a2 (fun c i hc => by omega)) (Fp_mo b2 (fun c i hc => by omega)))
      have m6 : mX12_fits s4 (zI (MN : Int)) = s6 := by unfold mX12_fits; rw [EF]
      rw [x1, m6, x3]
      refine ⟨x2, ?_, by unfold vX12_fits; rw [EF], by rw [f6.1 3 1 (by omega)]; exact x5, by rw [b2.1 248 2 (by omega), a2.1 248 2 (by omega)]; exact e2, ?_, Fp_tr (Fp_mo x4 (fun c i hc => by omega)) (Fp_mo f6 (fun c i hc => by omega))⟩
      · unfold rX12_fits
        rw [← ht1, iM, e3, c00, eg, e2g, n1]
        exact ⟨n2, fun _ _ _ => RQ⟩
      · refine AcR_fit cm eb (by rw [f6.1 233 9 (by omega)]; exact x6.1) (by rw [f6.1 233 7 (by omega)]; exact x7) (fun hc i hi => ?_) b3
        rw [f6.1 236 i (by omega), f6.1 237 i (by omega)]
        exact (x6.2 hc i hi).2
  · refine fin (pI s 3 1 0) ?_ ?_ ?_ (Fp_p s (by omega)) (e31 s) (Or.inl cM)
    · unfold mX11_fits fX11_fits
      by_cases c1 : M < 1
      · rw [if_pos (ml.mpr c1), (l33 s).1]
      · rw [if_neg (by rw [ml]; exact c1), if_pos (mh.mpr (by omega)), (l33 s).1]
    · unfold rX11_fits
      refine ⟨fun _ => (l33 s).2, fun hc1 => ⟨fun _ => (l33 s).2, fun hc => ?_⟩⟩
      rw [ml] at hc1
      rw [mh] at hc
      exact absurd ⟨by omega, by omega⟩ cM
    · unfold vX11_fits fX11_fits
      by_cases c1 : M < 1
      · rw [if_pos (ml.mpr c1), (l33 s).1]
      · rw [if_neg (by rw [ml]; exact c1), if_pos (mh.mpr (by omega)), (l33 s).1]
end
