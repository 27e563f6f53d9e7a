-- needs: 6zk.fit
section
variable {g : Nat → Int} {el : Nat → Nat} {m M : Nat} {NB : Int → Int}
theorem smT_old {b : Int} {P : List Nat} {w : Nat} (h : laT g el b m < (P.length : Int)) (hP : P.length < m) : smT g el b (w :: P) = smT g el b P := by
  have hn : ¬ tcT g el P.length b := fun hc => by
    have := (laT_b g el b m).2.2.1 P.length hP hc
    omega
  show smT g el b P + svT g el b P.length (viT g el P.length w) = _
  rw [svT_0 g el hn, Int.add_zero]
/-- what is settled stays -/
theorem smT_set {b : Int} {P : List Nat} (h : laT g el b m < (P.length : Int)) (Q : List Nat) (hQ : (Q ++ P).length ≤ m) : smT g el b (Q ++ P) = smT g el b P := smT_end g el Q (fun i h1 h2 hc => by
  have := (laT_b g el b m).2.2.1 i (by omega) hc
  omega)
theorem NdR_st {u : SM} {P P' : List Nat} {f t : Nat} {v : Int} (hft : f ≠ t) (bf : bdyZ g f) (bt : bdyZ g t) (hN : NdR g el NB u P) (hs : ∀ b, smT g el b P' = smT g el b P + ((if (f : Int) = b then v else 0) - (if (t : Int) = b then v else 0))) : pI (pI u 238 f (gI u 238 f - zI v)) 238 t (gI (pI u 238 f (gI u 238 f - zI v)) 238 t + zI v) = pI (pI u 238 f (zI (NB f - smT g el f P'))) 238 t (zI (NB t - smT g el t P')) ∧ NdR g el NB (pI (pI u 238 f (zI (NB f - smT g el f P'))) 238 t (zI (NB t - smT g el t P'))) P' := by
  have ef : gI u 238 f = zI (NB f - smT g el f P) := hN f bf
  have et : gI u 238 t = zI (NB t - smT g el t P) := hN t bt
  have sf := hs f
  have st := hs t
  rw [if_pos rfl, if_neg (by omega)] at sf
  rw [if_neg (by omega), if_pos rfl] at st
  refine ⟨?_, fun b hb => ?_⟩
  · rw [gI_pI, if_neg (by omega), ef, et, z_sub, z_add, show NB f - smT g el f P - v = NB f - smT g el f P' by omega, show NB t - smT g el t P + v = NB t - smT g el t P' by omega]
  · have hb' : 0 ≤ b ∧ b < g 0 := hb
    obtain ⟨n, rfl⟩ := Int.eq_ofNat_of_zero_le hb'.1
    have en : gI u 238 n = zI (NB n - smT g el n P) := hN n hb
    show gI _ 238 n = _
    rw [gI_pI]
    by_cases c1 : n = t
    · rw [if_pos ⟨rfl, c1⟩, c1]
    · rw [if_neg (by omega), gI_pI]
      by_cases c2 : n = f
      · rw [if_pos ⟨rfl, c2⟩, c2]
      · have sn := hs n
        rw [if_neg (by omega), if_neg (by omega)] at sn
        rw [if_neg (by omega), en, sn]; congr 1; omega
theorem NdR_bk {u : SM} {P P' : List Nat} {f t : Nat} {v : Int} (hft : f ≠ t) (bf : bdyZ g f) (bt : bdyZ g t) (hN : NdR g el NB u P') (hs : ∀ b, smT g el b P' = smT g el b P + ((if (f : Int) = b then v else 0) - (if (t : Int) = b then v else 0))) : pI (pI u 238 f (gI u 238 f + zI v)) 238 t (gI (pI u 238 f (gI u 238 f + zI v)) 238 t - zI v) = pI (pI u 238 f (zI (NB f - smT g el f P))) 238 t (zI (NB t - smT g el t P)) ∧ NdR g el NB (pI (pI u 238 f (zI (NB f - smT g el f P))) 238 t (zI (NB t - smT g el t P))) P := by
  have ef : gI u 238 f = zI (NB f - smT g el f P') := hN f bf
  have et : gI u 238 t = zI (NB t - smT g el t P') := hN t bt
  have sf := hs f
  have st := hs t
  rw [if_pos rfl, if_neg (by omega)] at sf
  rw [if_neg (by omega), if_pos rfl] at st
  refine ⟨?_, fun b hb => ?_⟩
  · rw [gI_pI, if_neg (by omega), ef, et, z_add, z_sub, show NB f - smT g el f P' + v = NB f - smT g el f P by omega, show NB t - smT g el t P' - v = NB t - smT g el t P by omega]
  · have hb' : 0 ≤ b ∧ b < g 0 := hb
    obtain ⟨n, rfl⟩ := Int.eq_ofNat_of_zero_le hb'.1
    have en : gI u 238 n = zI (NB n - smT g el n P') := hN n hb
    show gI _ 238 n = _
    rw [gI_pI]
    by_cases c1 : n = t
    · rw [if_pos ⟨rfl, c1⟩, c1]
    · rw [if_neg (by omega), gI_pI]
      by_cases c2 : n = f
      · rw [if_pos ⟨rfl, c2⟩, c2]
      · have sn := hs n
        rw [if_neg (by omega), if_neg (by omega)] at sn
        rw [if_neg (by omega), en, sn]; congr 1; omega
def TfI (g : Nat → Int) (el : Nat → Nat) (m M : Nat) (NB : Int → Int) (k : Nat) : Prop := ∀ (P : List Nat) (s : SM) (a : Acc) (F : Nat), P.length + k = m → (∀ w ∈ P, 1 ≤ w ∧ w ≤ M) → (∀ b, bdyZ g b → 0 ≤ laT g el b m → laT g el b m < (P.length : Int) → NB b - smT g el b P = 0) → FtC g el m M s → NdR g el NB s P → MPx 235 s P → AcR m s a → a.1 + M ^ k ≤ 200000 → 84 * k + 4 ≤ F → ∃ s', (lX1_tryFrom F).2.2.2.2.2 s (zI (P.length : Int)) = s' ∧ (qX1_tryFrom F).2.2.2.2.2 s (zI (P.length : Int)) ∧ Fp FitA s s' ∧ gD s' = gD s ∧ NdR g el NB s' P ∧ (∀ j, j < P.length → gI s' 235 j = gI s 235 j) ∧ AcR m s' (EnU M (fitP g el NB) k P a)
set_option maxHeartbeats 20000000 in
theorem tf_loop (hD : FtD g el m M NB) {k : Nat} {P : List Nat} {d ix f t : Nat} {kd y : Int} (hl : P.length + (k + 1) = m) (hd : d = el P.length) (hix : ix = P.length) (hf : (f : Int) = oZ g d 0) (ht : (t : Int) = oZ g d 1) (hft : f ≠ t) (bf : bdyZ g f) (bt : bdyZ g t) (bk : kndZ g kd) (esy : soZ g kd = y) (hPb : ∀ w ∈ P, 1 ≤ w ∧ w ≤ M) (hset : ∀ b, bdyZ g b → 0 ≤ laT g el b m → laT g el b m < (P.length : Int) → NB b - smT g el b P = 0) (sm1 : ∀ (b : Int) (w : Nat), smT g el b (w :: P) = smT g el b P + ((if (f : Int) = b then vbZ w y else 0) - (if (t : Int) = b then vbZ w y else 0))) (bad : ∀ w : Nat, ((laT g el f m = ix ∧ ¬ NB f - smT g el f (w :: P) = 0) ∨ (laT g el t m = ix ∧ ¬ NB t - smT g el t (w :: P) = 0)) → ∀ x, EnU M (fitP g el NB) k (w :: P) x = x) (ih : TfI g el m M NB k) : ∀ (r x : Nat) (HI : Int) (lo : Int32) (u : SM) (ac : Acc) (G : Nat), (r = 0 → HI < x) → (0 < r → (r : Int) = HI + 1 - x) → 1 ≤ x → HI ≤ M → x ≤ 500000 → -500000 ≤ HI → FtC g el m M u → NdR g el NB u P → MPx 235 u P → AcR m u ac → ac.1 + r * M ^ k ≤ 200000 → 84 * k + 4 + 4 * r + 1 ≤ G → ∃ s', (lX1_tryFrom G).2.1 u (zI (ix : Int)) (zI f) (zI t) (zI kd) lo (zI HI) (zI x) = s' ∧ (qX1_tryFrom G).2.1 u (zI (ix : Int)) (zI f) (zI t) (zI kd) lo (zI HI) (zI x) ∧ Fp FitA u s' ∧ gD s' = gD u ∧ NdR g el NB s' P ∧ (∀ j, j < P.length → gI s' 235 j = gI u 235 j) ∧ AcR m s' (fold (fun j c => EnU M (fitP g el NB) k ((x + j) :: P) c) r ac) := by
  obtain ⟨hm4, hM, -, hNB, -, hw, -⟩ := hD
  have hi : P.length < m := by omega
  have bf' : f < 9 := by have := hw.w0; have := bf.2; omega
  have bt' : t < 9 := by have := hw.w0; have := bt.2; omega
  have cf : (zI (f : Int)).toNatClampNeg = f := by rw [z_cl (by omega)]; exact Int.toNat_natCast _
  have ct : (zI (t : Int)).toNatClampNeg = t := by rw [z_cl (by omega)]; exact Int.toNat_natCast _
  have vf : vp_in (zI (f : Int)) 9 := by rw [z_in (by omega)]; omega
  have vt : vp_in (zI (t : Int)) 9 := by rw [z_in (by omega)]; omega
  have ci : (zI (ix : Int)).toNatClampNeg = ix := by rw [z_cl (by omega)]; exact Int.toNat_natCast _
  have vi : vp_in (zI (ix : Int)) 4 := by rw [z_in (by omega)]; omega
  have ei : zI (ix : Int) + 1 = zI ((ix + 1 : Nat) : Int) := by rw [zl1, z_add]; congr 1
  have rf : rfx 31 8 = 5 := by decide
  have mLX : ((31, 5) : Nat × Nat) ∈ LX := by decide
  have lfz : zI (laT g el f m) = zI (ix : Int) ↔ laT g el f m = ix := by have := laT_b g el f m; exact z_eq (by omega) (by omega)
  have ltz : zI (laT g el t m) = zI (ix : Int) ↔ laT g el t m = ix := by have := laT_b g el t m; exact z_eq (by omega) (by omega)
  have rd : ∀ u : SM, FtC g el m M u → gDx u 2 = 31 ∧ gD u 2 = some 31 ∧ gI u 239 f = zI (laT g el f m) ∧ gI u 239 t = zI (laT g el t m) ∧ gI u 233 8 = zI (M : Int) := fun u hu => by
    refine ⟨by unfold gDx; rw [hu.2.1]; rfl, hu.2.1, hu.2.2.2.2.2 f bf, hu.2.2.2.2.2 t bt, hu.2.2.2.1⟩
  intro r
  induction r with
  | zero =>
    intro x HI lo u ac G hr1 hr2 hx hHI hx2 hHI2 hC hN hP hA hbn hG
    have hr := hr1 rfl
    obtain ⟨G, rfl⟩ : ∃ G', G = G' + 1 := ⟨G - 1, by omega⟩
    have l : zI HI < zI x := by rw [z_lt (by omega) (by omega)]; omega
    refine ⟨u, ?_, ?_, Fp_rf _ u, rfl, hN, fun _ _ => rfl, hA⟩
    · show tX1_tryFrom_148 (lX1_tryFrom G) u _ _ _ _ _ _ _ = _
      unfold tX1_tryFrom_148
      rw [if_pos l]
    · show uX1_tryFrom_148 (lX1_tryFrom G) (qX1_tryFrom G) u _ _ _ _ _ _ _
      unfold uX1_tryFrom_148
      exact fun hc => absurd l hc
  | succ r ihr =>
    intro x HI lo u ac G hr1 hr2 hx hHI hx2 hHI2 hC hN hP hA hbn hG
    have hr := hr2 (by omega)
    clear hr1 hr2
    obtain ⟨G, rfl⟩ : ∃ G', G = G' + 4 := ⟨G - 4, by omega⟩
    have hxM : x ≤ M := by omega
    have l : ¬ zI HI < zI x := by rw [z_lt (by omega) (by omega)]; omega
    obtain ⟨q1, q2, q3, q4, q5⟩ := rd u hC
    obtain ⟨w, hwx⟩ : ∃ w : Nat, w = x := ⟨_, rfl⟩
    have ewx : (w : Int) = x := by omega
    obtain ⟨ev, rv⟩ := y_vBy hC.1.1 hw bk (x := (x : Int)) (by omega)
    rw [esy] at ev
    obtain ⟨v, hv⟩ : ∃ v, v = vbZ x y := ⟨_, rfl⟩
    have vb : 0 ≤ v ∧ v ≤ 198 := by rw [hv]; exact vb_b (by omega)
    rw [← hv] at ev
    have smx : ∀ b, smT g el b (w :: P) = smT g el b P + ((if f = b then v else 0) - (if t = b then v else 0)) := fun b => by rw [sm1, ewx, ← hv]
    obtain ⟨mk, hN7⟩ := NdR_st (f := f) (t := t) (v := v) hft bf bt hN smx
    obtain ⟨u7, hu7⟩ : ∃ u7, u7 = pI (pI u 238 f (zI (NB f - smT g el f (w :: P)))) 238 t (zI (NB t - smT g el t (w :: P))) := ⟨_, rfl⟩
    rw [← hu7] at mk hN7
    have f7 : Fp (fun c i => c = 238) u u7 := by rw [hu7]; exact Fp_tr (Fp_p u rfl) (Fp_p _ rfl)
    have d7 : gD u7 = gD u := by rw [hu7, gD_pI, gD_pI]
    have hC7 : FtC g el m M u7 := FtC_c hC f7 d7 (fun c i hc => by omega)
    have ef7 : gI u7 238 f = zI (NB f - smT g el f (w :: P)) := hN7 f bf
    have et7 : gI u7 238 t = zI (NB t - smT g el t (w :: P)) := hN7 t bt
    have bw := fun b => smT_b (g := g) (el := el) hM.2 b (P := w :: P) (fun z hz => by
      rcases List.mem_cons.mp hz with rfl | hz
      · omega
      · exact hPb z hz)
    have zf : gI u7 238 f = 0 ↔ NB f - smT g el f (w :: P) = 0 := by
      rw [ef7, zl0, z_eq (by have h1 := bw f; have h2 := hNB f; rw [List.length_cons] at h1; omega) (by omega)]
    have zt : gI u7 238 t = 0 ↔ NB t - smT g el t (w :: P) = 0 := by
      rw [et7, zl0, z_eq (by have h1 := bw t; have h2 := hNB t; rw [List.length_cons] at h1; omega) (by omega)]
    obtain ⟨p1, p2, p3, p4, p5⟩ := rd u7 hC7
    have pk : M ^ k ≤ (r + 1) * M ^ k := Nat.le_mul_of_pos_left _ (by omega)
    have pk2 : (r + 1) * M ^ k = r * M ^ k + M ^ k := Nat.succ_mul _ _
    -- the restoring, and on to the next sum
    have after : ∀ (G' : Nat) (u9 : SM) (ac' : Acc), 84 * k + 4 + 4 * r + 1 ≤ G' → FtC g el m M u9 → NdR g el NB u9 (w :: P) → AcR m u9 ac' → Fp FitA u u9 → gD u9 = gD u → (∀ j, j < P.length → gI u9 235 j = gI u 235 j) → ac'.1 + r * M ^ k ≤ 200000 → ∃ s', (lX1_tryFrom (G' + 1)).2.2.2.2.1 u9 (zI (ix : Int)) (zI f) (zI t) (zI kd) lo (zI HI) (zI x) (zI v) = s' ∧ (qX1_tryFrom (G' + 1)).2.2.2.2.1 u9 (zI (ix : Int)) (zI f) (zI t) (zI kd) lo (zI HI) (zI x) (zI v) ∧ Fp FitA u s' ∧ gD s' = gD u ∧ NdR g el NB s' P ∧ (∀ j, j < P.length → gI s' 235 j = gI u 235 j) ∧ AcR m s' (fold (fun j c => EnU M (fitP g el NB) k ((x + 1 + j) :: P) c) r ac') := by
      intro G' u9 ac' hG' hC9 hN9 hA9 h9 d9 j9 hb9
      obtain ⟨mk0, hN0⟩ := NdR_bk (f := f) (t := t) (v := v) (P := P) hft bf bt hN9 smx
      obtain ⟨u0, hu0⟩ : ∃ u0, u0 = pI (pI u9 238 f (zI (NB f - smT g el f P))) 238 t (zI (NB t - smT g el t P)) := ⟨_, rfl⟩
      rw [← hu0] at mk0 hN0
      have f0 : Fp (fun c i => c = 238) u9 u0 := by rw [hu0]; exact Fp_tr (Fp_p u9 rfl) (Fp_p _ rfl)
      have d0 : gD u0 = gD u9 := by rw [hu0, gD_pI, gD_pI]
      have hP0 : MPx 235 u0 P := MPx_c hP (fun j hj => by rw [f0.1 235 j (by omega)]; exact j9 j hj)
      obtain ⟨s', e1, e2, e3, e4, e5, e6, e7⟩ := ihr (x + 1) HI lo u0 ac' G' (fun h => by omega) (fun h => by omega) (by omega) hHI (by omega) hHI2 (FtC_c hC9 f0 d0 (fun c i hc => by omega)) hN0 hP0 (AcR_c hA9 f0 (fun c i hc => by omega)) hb9 hG'
      have ex1 : zI x + 1 = zI ((x + 1 : Nat) : Int) := by rw [zl1, z_add]; congr 1
      refine ⟨s', ?_, ?_, Fp_tr h9 (Fp_tr (Fp_mo f0 (fun c i hc => by omega)) e3), by rw [e4, d0, d9], e5, fun j hj => by rw [e6 j hj, f0.1 235 j (by omega)]; exact j9 j hj, e7⟩
      · show tX1_tryFrom_246 (lX1_tryFrom G') u9 _ _ _ _ _ _ _ _ = _
        unfold tX1_tryFrom_246
        rw [cf, ct, mk0, ex1]
        exact e1
      · show uX1_tryFrom_246 (lX1_tryFrom G') (qX1_tryFrom G') u9 _ _ _ _ _ _ _ _
        unfold uX1_tryFrom_246
        rw [cf, ct, mk0, ex1]
        exact ⟨vf, vf, vt, vt, fun s5 h5 => by rw [h5]; exact e2⟩
    have f7u : Fp FitA u u7 := Fp_mo f7 (fun c i hc => by omega)
    have j7 : ∀ j, j < P.length → gI u7 235 j = gI u 235 j := fun j _ => f7.1 235 j (by omega)
    have hA7 : AcR m u7 ac := AcR_c hA f7 (fun c i hc => by omega)
    have efold : ∀ c0 : Acc, fold (fun j c => EnU M (fitP g el NB) k ((x + 1 + j) :: P) c) r (EnU M (fitP g el NB) k (w :: P) c0) = fold (fun j c => EnU M (fitP g el NB) k ((x + j) :: P) c) (r + 1) c0 := fun c0 => by
      rw [Nat.add_comm r 1, fold_ad]
      have e0 : fold (fun j c => EnU M (fitP g el NB) k ((x + j) :: P) c) 1 c0 = EnU M (fitP g el NB) k (w :: P) c0 := by
        show EnU M (fitP g el NB) k ((x + 0) :: P) c0 = _
        rw [Nat.add_zero, hwx]
      rw [e0]
      refine fold_cg _ _ (fun j _ z => ?_)
      rw [show x + 1 + j = x + (1 + j) by omega]
    -- the turn at 148
    have h148 : ∀ (s' : SM), ((gI u7 239 f = zI (ix : Int) → gI u7 238 f = 0 → (lX1_tryFrom (G + 3)).2.2.1 u7 (zI (ix : Int)) (zI f) (zI t) (zI kd) lo (zI HI) (zI x) (zI v) = s' ∧ (qX1_tryFrom (G + 3)).2.2.1 u7 (zI (ix : Int)) (zI f) (zI t) (zI kd) lo (zI HI) (zI x) (zI v)) ∧ (gI u7 239 f = zI (ix : Int) → ¬ gI u7 238 f = 0 → (lX1_tryFrom (G + 3)).2.2.2.2.1 u7 (zI (ix : Int)) (zI f) (zI t) (zI kd) lo (zI HI) (zI x) (zI v) = s' ∧ (qX1_tryFrom (G + 3)).2.2.2.2.1 u7 (zI (ix : Int)) (zI f) (zI t) (zI kd) lo (zI HI) (zI x) (zI v)) ∧ (¬ gI u7 239 f = zI (ix : Int) → (lX1_tryFrom (G + 3)).2.2.1 u7 (zI (ix : Int)) (zI f) (zI t) (zI kd) lo (zI HI) (zI x) (zI v) = s' ∧ (qX1_tryFrom (G + 3)).2.2.1 u7 (zI (ix : Int)) (zI f) (zI t) (zI kd) lo (zI HI) (zI x) (zI v))) → (lX1_tryFrom (G + 4)).2.1 u (zI (ix : Int)) (zI f) (zI t) (zI kd) lo (zI HI) (zI x) = s' ∧ (qX1_tryFrom (G + 4)).2.1 u (zI (ix : Int)) (zI f) (zI t) (zI kd) lo (zI HI) (zI x) := by
      intro s' ⟨hh1, hh2, hh3⟩
      have vk : gD u 2 = some (gDx u 2) := by rw [q1]; exact q2
      have vk2 : ((gDx u 2, rfx (gDx u 2) 8) : Nat × Nat) ∈ LX := by rw [q1, rf]; exact mLX
      constructor
      · show tX1_tryFrom_148 (lX1_tryFrom (G + 3)) u _ _ _ _ _ _ _ = _
        unfold tX1_tryFrom_148
        rw [if_neg l, q1, rf, ev, cf, ct, mk]
        dsimp only
        by_cases c1 : gI u7 239 f = zI (ix : Int)
        · rw [if_pos c1]
          by_cases c2 : gI u7 238 f = 0
          · rw [if_pos c2]; exact (hh1 c1 c2).1
          · rw [if_neg c2]; exact (hh2 c1 c2).1
        · rw [if_neg c1]; exact (hh3 c1).1
      · show uX1_tryFrom_148 (lX1_tryFrom (G + 3)) (qX1_tryFrom (G + 3)) u _ _ _ _ _ _ _
        unfold uX1_tryFrom_148
        refine fun _ => ⟨vk, vk2, ?_⟩
        rw [q1, rf, ev, cf, ct, mk]
        refine ⟨rv, vf, vf, vt, vt, fun s7 h7 => ?_⟩
        rw [h7]
        exact ⟨vf, fun c1 => (hh3 c1).2, fun c1 => ⟨vf, fun c2 => (hh2 c1 c2).2, fun c2 => (hh1 c1 c2).2⟩⟩
    by_cases cf1 : laT g el f m = ix ∧ ¬ NB f - smT g el f (w :: P) = 0
    · -- refused by the lender
      obtain ⟨s', e1, e2, e3, e4, e5, e6, e7⟩ := after (G + 2) u7 ac (by omega) hC7 hN7 hA7 f7u d7 j7 (by omega)
      obtain ⟨k1, k2⟩ := h148 s' ⟨fun _ c2 => absurd (zf.mp c2) cf1.2, fun _ _ => ⟨e1, e2⟩, fun c1 => absurd (by rw [p3]; exact lfz.mpr cf1.1) c1⟩
      refine ⟨s', k1, k2, e3, e4, e5, e6, ?_⟩
      rw [← efold, bad w (Or.inl cf1)]
      exact e7
    · -- the turn at 212
      have h212 : ∀ (s' : SM), ((gI u7 239 t = zI (ix : Int) → gI u7 238 t = 0 → (lX1_tryFrom (G + 2)).2.2.2.1 u7 (zI (ix : Int)) (zI f) (zI t) (zI kd) lo (zI HI) (zI x) (zI v) = s' ∧ (qX1_tryFrom (G + 2)).2.2.2.1 u7 (zI (ix : Int)) (zI f) (zI t) (zI kd) lo (zI HI) (zI x) (zI v)) ∧ (gI u7 239 t = zI (ix : Int) → ¬ gI u7 238 t = 0 → (lX1_tryFrom (G + 2)).2.2.2.2.1 u7 (zI (ix : Int)) (zI f) (zI t) (zI kd) lo (zI HI) (zI x) (zI v) = s' ∧ (qX1_tryFrom (G + 2)).2.2.2.2.1 u7 (zI (ix : Int)) (zI f) (zI t) (zI kd) lo (zI HI) (zI x) (zI v)) ∧ (¬ gI u7 239 t = zI (ix : Int) → (lX1_tryFrom (G + 2)).2.2.2.1 u7 (zI (ix : Int)) (zI f) (zI t) (zI kd) lo (zI HI) (zI x) (zI v) = s' ∧ (qX1_tryFrom (G + 2)).2.2.2.1 u7 (zI (ix : Int)) (zI f) (zI t) (zI kd) lo (zI HI) (zI x) (zI v))) → (lX1_tryFrom (G + 4)).2.1 u (zI (ix : Int)) (zI f) (zI t) (zI kd) lo (zI HI) (zI x) = s' ∧ (qX1_tryFrom (G + 4)).2.1 u (zI (ix : Int)) (zI f) (zI t) (zI kd) lo (zI HI) (zI x) := by
        intro s' ⟨hh1, hh2, hh3⟩
        have k : (lX1_tryFrom (G + 3)).2.2.1 u7 (zI (ix : Int)) (zI f) (zI t) (zI kd) lo (zI HI) (zI x) (zI v) = s' ∧ (qX1_tryFrom (G + 3)).2.2.1 u7 (zI (ix : Int)) (zI f) (zI t) (zI kd) lo (zI HI) (zI x) (zI v) := by
          constructor
          · show tX1_tryFrom_212 (lX1_tryFrom (G + 2)) u7 _ _ _ _ _ _ _ _ = _
            unfold tX1_tryFrom_212
            rw [ct]
            by_cases c1 : gI u7 239 t = zI (ix : Int)
            · rw [if_pos c1]
              by_cases c2 : gI u7 238 t = 0
              · rw [if_pos c2]; exact (hh1 c1 c2).1
              · rw [if_neg c2]; exact (hh2 c1 c2).1
            · rw [if_neg c1]; exact (hh3 c1).1
          · show uX1_tryFrom_212 (lX1_tryFrom (G + 2)) (qX1_tryFrom (G + 2)) u7 _ _ _ _ _ _ _ _
            unfold uX1_tryFrom_212
            rw [ct]
            exact ⟨vt, fun c1 => (hh3 c1).2, fun c1 => ⟨vt, fun c2 => (hh2 c1 c2).2, fun c2 => (hh1 c1 c2).2⟩⟩
        exact h148 s' ⟨fun _ _ => k, fun c1 c2 => absurd ⟨lfz.mp (by rw [← p3]; exact c1), fun hc => c2 (zf.mpr hc)⟩ cf1, fun _ => k⟩
      by_cases ct1 : laT g el t m = ix ∧ ¬ NB t - smT g el t (w :: P) = 0
      · -- refused by the debtor
        obtain ⟨s', e1, e2, e3, e4, e5, e6, e7⟩ := after (G + 1) u7 ac (by omega) hC7 hN7 hA7 f7u d7 j7 (by omega)
        obtain ⟨k1, k2⟩ := h212 s' ⟨fun _ c2 => absurd (zt.mp c2) ct1.2, fun _ _ => ⟨e1, e2⟩, fun c1 => absurd (by rw [p4]; exact ltz.mpr ct1.1) c1⟩
        refine ⟨s', k1, k2, e3, e4, e5, e6, ?_⟩
        rw [← efold, bad w (Or.inr ct1)]
        exact e7
      · -- tried further
        obtain ⟨u8, hu8⟩ : ∃ u8, u8 = pI u7 235 ix (zI x) := ⟨_, rfl⟩
        have f8 : Fp (fun c i => c = 235 ∧ i = ix) u7 u8 := by rw [hu8]; exact Fp_p u7 ⟨rfl, rfl⟩
        have d8 : gD u8 = gD u7 := by rw [hu8, gD_pI]
        have hP8 : MPx 235 u8 (w :: P) := by
          refine ⟨?_, MPx_c hP (fun j hj => by rw [f8.1 235 j (by omega)]; exact j7 j hj)⟩
          rw [← hix, hu8, gI_pI, if_pos ⟨rfl, rfl⟩, ewx]
        have hset8 : ∀ b, bdyZ g b → 0 ≤ laT g el b m → laT g el b m < ((w :: P).length : Int) → NB b - smT g el b (w :: P) = 0 := fun b hb h1 h2 => by
          rw [List.length_cons] at h2
          by_cases c1 : laT g el b m < (P.length : Int)
          · rw [smT_old c1 hi]; exact hset b hb h1 c1
          · have c2 : laT g el b m = ix := by omega
            have tb := (laT_b g el b m).2.2.2 h1
            rw [c2, Int.toNat_natCast, hix] at tb
            rcases tb with tb | tb
            · have eb : b = f := by rw [← tb, ← hd]; exact hf.symm
              rw [eb] at c2 ⊢
              exact Classical.byContradiction fun hc => cf1 ⟨c2, hc⟩
            · have eb : b = t := by rw [← tb, ← hd]; exact ht.symm
              rw [eb] at c2 ⊢
              exact Classical.byContradiction fun hc => ct1 ⟨c2, hc⟩
        obtain ⟨s2, e1, e2, e3, e4, e5, e6, e7⟩ := ih (w :: P) u8 ac (G + 1) (by rw [List.length_cons]; omega) (fun z hz => by
          rcases List.mem_cons.mp hz with rfl | hz
          · omega
          · exact hPb z hz) hset8 (FtC_c hC7 f8 d8 (fun c i hc => by omega)) (fun b hb => by rw [f8.1 238 _ (by omega)]; exact hN7 b hb) hP8 (AcR_c hA7 f8 (fun c i hc => by omega)) (by omega) (by omega)
        rw [List.length_cons, ← hix] at e1 e2
        have hcnt : (EnU M (fitP g el NB) k (w :: P) ac).1 ≤ ac.1 + M ^ k := by rw [EnU_fold (by omega)]; exact fold_a1 _ _ _
        obtain ⟨s', e1', e2', e3', e4', e5', e6', e7'⟩ := after G s2 (EnU M (fitP g el NB) k (w :: P) ac) (by omega) (FtC_c (FtC_c hC7 f8 d8 (fun c i hc => by omega)) e3 e4 (fun c i hc => by omega)) e5 e7 (Fp_tr f7u (Fp_tr (Fp_mo f8 (fun c i hc => by omega)) e3)) (by rw [e4, d8, d7]) (fun j hj => by rw [e6 j (by rw [List.length_cons]; omega), f8.1 235 j (by omega)]; exact j7 j hj) (by omega)
        have k : (lX1_tryFrom (G + 2)).2.2.2.1 u7 (zI (ix : Int)) (zI f) (zI t) (zI kd) lo (zI HI) (zI x) (zI v) = s' ∧ (qX1_tryFrom (G + 2)).2.2.2.1 u7 (zI (ix : Int)) (zI f) (zI t) (zI kd) lo (zI HI) (zI x) (zI v) := by
          constructor
          · show tX1_tryFrom_231 (lX1_tryFrom (G + 1)) u7 _ _ _ _ _ _ _ _ = _
            unfold tX1_tryFrom_231
            rw [ci, ei, ← hu8, e1]
            exact e1'
          · show uX1_tryFrom_231 (lX1_tryFrom (G + 1)) (qX1_tryFrom (G + 1)) u7 _ _ _ _ _ _ _ _
            unfold uX1_tryFrom_231
            rw [ci, ei, ← hu8, e1]
            exact ⟨vi, e2, fun s2' h2 => by rw [h2]; exact e2'⟩
        obtain ⟨k1, k2⟩ := h212 s' ⟨fun _ _ => k, fun c1 c2 => absurd ⟨ltz.mp (by rw [← p4]; exact c1), fun hc => c2 (zt.mpr hc)⟩ ct1, fun _ => k⟩
        refine ⟨s', k1, k2, e3', e4', e5', e6', ?_⟩
        rw [← efold]
        exact e7'
end
