-- needs: 6zk.fit
section
variable {g : Nat → Int} {el : Nat → Nat} {m M : Nat} {NB : Int → Int}
theorem smT_old {b : Int} {P : List Nat} {w : Nat} (h : laT g el b m < (P.length : Int)) (hP : P.length < m) : smT g el b (w :: P) = smT g el b P := by
  have hn : ¬ tcT g el P.length b := fun hc => by
    have := (laT_b g el b m).2.2.1 P.length hP hc
    omega
  show smT g el b P + svT g el b P.length (viT g el P.length w) = _
  rw [svT_0 g el hn, Int.add_zero]
/-- what is settled stays -/
theorem smT_set {b : Int} {P : List Nat} (h : laT g el b m < (P.length : Int)) (Q : List Nat) (hQ : (Q ++ P).length ≤ m) : smT g el b (Q ++ P) = smT g el b P := smT_end g el Q (fun i h1 h2 hc => by
  have := (laT_b g el b m).2.2.1 i (by omega) hc
  omega)
set_option maxHeartbeats 20000000 in
/-- the search of the class, from P on -/
theorem y_tryFrom (hD : FtD g el m M NB) : ∀ (k : Nat) (P : List Nat) (s : SM) (a : Acc) (F : Nat), P.length + k = m → (∀ w ∈ P, 1 ≤ w ∧ w ≤ M) → (∀ b, bdyZ g b → 0 ≤ laT g el b m → laT g el b m < (P.length : Int) → NB b - smT g el b P = 0) → FtC g el m M s → NdR g el NB s P → MPx 235 s P → AcR m s a → a.1 + M ^ k ≤ 200000 → 84 * k + 4 ≤ F → ∃ s', (lX1_tryFrom F).2.2.2.2.2 s (zI (P.length : Int)) = s' ∧ (qX1_tryFrom F).2.2.2.2.2 s (zI (P.length : Int)) ∧ Fp FitA s s' ∧ gD s' = gD s ∧ NdR g el NB s' P ∧ (∀ j, j < P.length → gI s' 235 j = gI s 235 j) ∧ AcR m s' (EnU M (fitP g el NB) k P a) := by
  obtain ⟨hm4, hM, hop, hNB, hpo, hw, hwa⟩ := hD
  have h0 := hw.w0
  intro k
  induction k with
  | zero =>
    intro P s a F hl hPb hset hC hN hP hA hb hF
    obtain ⟨F, rfl⟩ : ∃ F', F = F' + 1 := ⟨F - 1, by omega⟩
    obtain ⟨c1, c2, c3, c4, c5, c6⟩ := hC
    have hpl : P.length = m := by omega
    obtain ⟨s', e1, e2, e3, e4, e5⟩ := y_noteWay hm4 c3 hP hpl hM.2 hPb hA (by omega)
    have hp : fitP g el NB P := fun b hb hlv => by
      by_cases c : laT g el b m = -1
      · have hz := smT_set (g := g) (el := el) (m := m) (b := b) (P := []) (by rw [c]; show (-1 : Int) < ((0 : Nat) : Int); omega) P (by rw [List.append_nil]; omega)
        rw [List.append_nil] at hz
        rw [hz, hpo b hb hlv c]; rfl
      · have hr := (laT_b g el b m)
        have := hset b hb (by omega) (by omega)
        omega
    have le : zI (m : Int) ≤ zI (P.length : Int) := by rw [hpl]; exact Int32.le_refl _
    refine ⟨s', ?_, ?_, Fp_mo e3 (fun c i hc => by omega), e4, fun b hb => by rw [e3.1 238 _ (by omega)]; exact hN b hb, fun j hj => e3.1 235 j (by omega), ?_⟩
    · show tX1_tryFrom_e (lX1_tryFrom F) s _ = _
      unfold tX1_tryFrom_e
      rw [c3, if_pos le]; exact e1
    · show uX1_tryFrom_e (lX1_tryFrom F) (qX1_tryFrom F) s _
      unfold uX1_tryFrom_e
      rw [c3]
      exact ⟨fun _ => e2, fun hc => absurd le hc⟩
    · show AcR m s' (stFt (fitP g el NB) P a)
      rw [stFt_y hp]; exact e5
  | succ k ih =>
    intro P s a F hl hPb hset hC hN hP hA hbnd hF
    obtain ⟨F, rfl⟩ : ∃ F', F = F' + 2 := ⟨F - 2, by omega⟩
    have hi : P.length < m := by omega
    obtain ⟨ho, hs3⟩ := hop P.length hi
    obtain ⟨d, hd⟩ : ∃ d, d = el P.length := ⟨_, rfl⟩
    obtain ⟨ix, hix⟩ : ∃ ix, ix = P.length := ⟨_, rfl⟩
    have hwd := hw.wd ho.1
    rw [← hd] at ho hs3 hwd
    have hft := (hwd.2.2.2.2.2.2.2.2.2 ho.2).2.1
    obtain ⟨f, hf⟩ : ∃ f, f = oZ g d 0 := ⟨_, rfl⟩
    obtain ⟨t, ht⟩ : ∃ t, t = oZ g d 1 := ⟨_, rfl⟩
    obtain ⟨kd, hkd⟩ : ∃ kd, kd = oZ g d 3 := ⟨_, rfl⟩
    obtain ⟨y, hy⟩ : ∃ y, y = sorZ g d := ⟨_, rfl⟩
    have hsy := (hw.siz ho.1).2
    have esy : soZ g kd = y := by rw [hy, hkd]; rfl
    rw [← hy] at hs3 hsy
    rw [← hf, ← ht] at hft
    have bf : bdyZ g f := by rw [hf]; exact hwd.1
    have bt : bdyZ g t := by rw [ht]; exact hwd.2.1
    have bk : kndZ g kd := by rw [hkd]; exact hwd.2.2.2.1
    obtain ⟨lvf, lvt⟩ := hwa d ho
    rw [← hf] at lvf
    rw [← ht] at lvt
    have bf' : 0 ≤ f ∧ f < 9 := ⟨bf.1, by have := bf.2; omega⟩
    have bt' : 0 ≤ t ∧ t < 9 := ⟨bt.1, by have := bt.2; omega⟩
    have cf : (zI f).toNatClampNeg = f.toNat := z_cl (by omega)
    have ct : (zI t).toNatClampNeg = t.toNat := z_cl (by omega)
    have vf : vp_in (zI f) 9 := by rw [z_in (by omega)]; omega
    have vt : vp_in (zI t) 9 := by rw [z_in (by omega)]; omega
    have ci : (zI (ix : Int)).toNatClampNeg = ix := by rw [z_cl (by omega)]; exact Int.toNat_natCast _
    have vi : vp_in (zI (ix : Int)) 4 := by rw [z_in (by omega)]; omega
    have ei : zI (ix : Int) + 1 = zI ((ix + 1 : Nat) : Int) := by rw [zl1, z_add]; congr 1
    have rf : rfx 31 8 = 5 := by decide
    have mLX : ((31, 5) : Nat × Nat) ∈ LX := by decide
    have lf := laT_b g el f m
    have lt := laT_b g el t m
    have tf0 : tcT g el ix f := by rw [hix]; exact Or.inl (by rw [← hd]; exact hf.symm)
    have tt0 : tcT g el ix t := by rw [hix]; exact Or.inr (by rw [← hd]; exact ht.symm)
    have glf : (ix : Int) ≤ laT g el f m := lf.2.2.1 ix (by omega) tf0
    have glt : (ix : Int) ≤ laT g el t m := lt.2.2.1 ix (by omega) tt0
    -- what a sum brings here
    have sv : ∀ (b x : Int), svT g el b ix x = (if f = b then x else 0) - (if t = b then x else 0) := fun b x => by
      unfold svT
      rw [hix, ← hd, ← hf, ← ht]
    have sm1 : ∀ (b : Int) (w : Nat), smT g el b (w :: P) = smT g el b P + ((if f = b then vbZ w y else 0) - (if t = b then vbZ w y else 0)) := fun b w => by
      show smT g el b P + svT g el b P.length (viT g el P.length w) = _
      rw [← hix, sv]
      unfold viT
      rw [hix, ← hd, ← hy]
    have bnd := fun b => smT_b (g := g) (el := el) hM.2 b hPb
    -- a sum that a check refuses fits nowhere
    have bad : ∀ w : Nat, ((laT g el f m = ix ∧ ¬ NB f - smT g el f (w :: P) = 0) ∨ (laT g el t m = ix ∧ ¬ NB t - smT g el t (w :: P) = 0)) → ∀ x, EnU M (fitP g el NB) k (w :: P) x = x := fun w hc x => EnU_no k (w :: P) x (fun Q hQ hp => by
      have hlen : (Q ++ w :: P).length ≤ m := by rw [List.length_append, List.length_cons, hQ]; omega
      rcases hc with ⟨h1, h2⟩ | ⟨h1, h2⟩
      · have e := smT_set (g := g) (el := el) (m := m) (b := f) (P := w :: P) (by rw [h1, List.length_cons]; omega) Q hlen
        have := hp f bf lvf
        rw [e] at this
        omega
      · have e := smT_set (g := g) (el := el) (m := m) (b := t) (P := w :: P) (by rw [h1, List.length_cons]; omega) Q hlen
        have := hp t bt lvt
        rw [e] at this
        omega)
    -- the reads of a memory that keeps the frame
    have rd : ∀ u : SM, FtC g el m M u → gDx u 2 = 31 ∧ gD u 2 = some 31 ∧ gI u 239 f.toNat = zI (laT g el f m) ∧ gI u 239 t.toNat = zI (laT g el t m) ∧ gI u 233 8 = zI (M : Int) := fun u hu => by
      refine ⟨by unfold gDx; rw [hu.2.1]; rfl, hu.2.1, hu.2.2.2.2.2 f bf, hu.2.2.2.2.2 t bt, hu.2.2.2.1⟩
    have lfz : zI (laT g el f m) = zI (ix : Int) ↔ laT g el f m = ix := z_eq (by omega) (by omega)
    have ltz : zI (laT g el t m) = zI (ix : Int) ↔ laT g el t m = ix := z_eq (by omega) (by omega)
    -- the loop over the sums
    have loop : ∀ (r : Nat) (x HI : Int) (lo : Int32) (u : SM) (ac : Acc) (G : Nat), r = (HI + 1 - x).toNat → 1 ≤ x → HI ≤ M → x ≤ 500000 → -500000 ≤ HI → FtC g el m M u → NdR g el NB u P → MPx 235 u P → AcR m u ac → ac.1 + r * M ^ k ≤ 200000 → 84 * k + 4 + 4 * r + 1 ≤ G → ∃ s', (lX1_tryFrom G).2.1 u (zI (ix : Int)) (zI f) (zI t) (zI kd) lo (zI HI) (zI x) = s' ∧ (qX1_tryFrom G).2.1 u (zI (ix : Int)) (zI f) (zI t) (zI kd) lo (zI HI) (zI x) ∧ Fp FitA u s' ∧ gD s' = gD u ∧ NdR g el NB s' P ∧ (∀ j, j < P.length → gI s' 235 j = gI u 235 j) ∧ AcR m s' (fold (fun j c => EnU M (fitP g el NB) k ((x.toNat + j) :: P) c) r ac) := by
      intro r
      induction r with
      | zero =>
        intro x HI lo u ac G hr hx hHI hx2 hHI2 hC hN hP hA hbn hG
        obtain ⟨G, rfl⟩ : ∃ G', G = G' + 1 := ⟨G - 1, by omega⟩
        have l : zI HI < zI x := by rw [z_lt (by omega) (by omega)]; omega
        refine ⟨u, ?_, ?_, Fp_rf _ u, rfl, hN, fun _ _ => rfl, hA⟩
        · show tX1_tryFrom_148 (lX1_tryFrom G) u _ _ _ _ _ _ _ = _
          unfold tX1_tryFrom_148
          rw [if_pos l]
        · show uX1_tryFrom_148 (lX1_tryFrom G) (qX1_tryFrom G) u _ _ _ _ _ _ _
          unfold uX1_tryFrom_148
          exact fun hc => absurd l hc
      | succ r ihr =>
        intro x HI lo u ac G hr hx hHI hx2 hHI2 hC hN hP hA hbn hG
        obtain ⟨G, rfl⟩ : ∃ G', G = G' + 4 := ⟨G - 4, by omega⟩
        have hxM : x ≤ M := by omega
        have l : ¬ zI HI < zI x := by rw [z_lt (by omega) (by omega)]; omega
        obtain ⟨q1, q2, q3, q4, q5⟩ := rd u hC
        obtain ⟨w, hwx⟩ : ∃ w : Nat, w = x.toNat := ⟨_, rfl⟩
        have ewx : (w : Int) = x := by omega
        obtain ⟨ev, rv⟩ := y_vBy hC.1.1 hw bk (x := x) (by omega)
        rw [esy] at ev
        obtain ⟨v, hv⟩ : ∃ v, v = vbZ x y := ⟨_, rfl⟩
        have vb : 0 ≤ v ∧ v ≤ 198 := by rw [hv]; exact vb_b (by omega)
        rw [← hv] at ev
        have smx : ∀ b, smT g el b (w :: P) = smT g el b P + ((if f = b then v else 0) - (if t = b then v else 0)) := fun b => by rw [sm1, ewx, ← hv]
        have bP := fun b => bnd b
        have nbP := fun b => hNB b
        obtain ⟨u7, hu7⟩ : ∃ u7, u7 = pI (pI u 238 f.toNat (zI (NB f - smT g el f P - v))) 238 t.toNat (zI (NB t - smT g el t P + v)) := ⟨_, rfl⟩
        have f7 : Fp (fun c i => c = 238) u u7 := by rw [hu7]; exact Fp_tr (Fp_p u rfl) (Fp_p _ rfl)
        have d7 : gD u7 = gD u := by rw [hu7, gD_pI, gD_pI]
        have hC7 : FtC g el m M u7 := FtC_c hC f7 d7 (fun c i hc => by omega)
        have nft : f.toNat ≠ t.toNat := by omega
        have hN7 : NdR g el NB u7 (w :: P) := fun b hb => by
          have hb' : 0 ≤ b ∧ b < 9 := ⟨hb.1, by have := hb.2; omega⟩
          rw [smx b, hu7, gI_pI]
          by_cases c1 : t = b
          · rw [if_pos ⟨rfl, by rw [c1]⟩, if_neg (by omega), if_pos c1, c1]; congr 1; omega
          · rw [if_neg (by omega), gI_pI]
            by_cases c2 : f = b
            · rw [if_pos ⟨rfl, by rw [c2]⟩, if_pos c2, if_neg c1, c2]; congr 1; omega
            · rw [if_neg (by omega), if_neg c2, if_neg c1, hN b hb]; congr 1; omega
        have ef7 : gI u7 238 f.toNat = zI (NB f - smT g el f (w :: P)) := hN7 f bf
        have et7 : gI u7 238 t.toNat = zI (NB t - smT g el t (w :: P)) := hN7 t bt
        have bw := fun b => smT_b (g := g) (el := el) hM.2 b (P := w :: P) (fun z hz => by
          rcases List.mem_cons.mp hz with rfl | hz
          · omega
          · exact hPb z hz)
        have zf : gI u7 238 f.toNat = 0 ↔ NB f - smT g el f (w :: P) = 0 := by
          rw [ef7, zl0, z_eq (by have := bw f; have := hNB f; rw [List.length_cons] at this; omega) (by omega)]
        have zt : gI u7 238 t.toNat = 0 ↔ NB t - smT g el t (w :: P) = 0 := by
          rw [et7, zl0, z_eq (by have := bw t; have := hNB t; rw [List.length_cons] at this; omega) (by omega)]
        obtain ⟨p1, p2, p3, p4, p5⟩ := rd u7 hC7
        have mk : pI (pI u 238 f.toNat (gI u 238 f.toNat - zI v)) 238 t.toNat (gI (pI u 238 f.toNat (gI u 238 f.toNat - zI v)) 238 t.toNat + zI v) = u7 := by
          rw [gI_pI, if_neg (by omega), hN f bf, hN t bt, z_sub, z_add, hu7]
        have pk : M ^ k ≤ (r + 1) * M ^ k := Nat.le_mul_of_pos_left _ (by omega)
        have pk2 : (r + 1) * M ^ k = r * M ^ k + M ^ k := Nat.succ_mul _ _
        -- the restoring, and on to the next sum
        have after : ∀ (G' : Nat) (u9 : SM) (ac' : Acc), 84 * k + 4 + 4 * r + 1 ≤ G' → FtC g el m M u9 → NdR g el NB u9 (w :: P) → AcR m u9 ac' → Fp FitA u u9 → gD u9 = gD u → (∀ j, j < P.length → gI u9 235 j = gI u 235 j) → ac'.1 + r * M ^ k ≤ 200000 → ∃ s', (lX1_tryFrom (G' + 1)).2.2.2.2.1 u9 (zI (ix : Int)) (zI f) (zI t) (zI kd) lo (zI HI) (zI x) (zI v) = s' ∧ (qX1_tryFrom (G' + 1)).2.2.2.2.1 u9 (zI (ix : Int)) (zI f) (zI t) (zI kd) lo (zI HI) (zI x) (zI v) ∧ Fp FitA u s' ∧ gD s' = gD u ∧ NdR g el NB s' P ∧ (∀ j, j < P.length → gI s' 235 j = gI u 235 j) ∧ AcR m s' (fold (fun j c => EnU M (fitP g el NB) k (((x + 1).toNat + j) :: P) c) r ac') := by
          intro G' u9 ac' hG' hC9 hN9 hA9 h9 d9 j9 hb9
          obtain ⟨u0, hu0⟩ : ∃ u0, u0 = pI (pI u9 238 f.toNat (zI (NB f - smT g el f P))) 238 t.toNat (zI (NB t - smT g el t P)) := ⟨_, rfl⟩
          have f0 : Fp (fun c i => c = 238) u9 u0 := by rw [hu0]; exact Fp_tr (Fp_p u9 rfl) (Fp_p _ rfl)
          have d0 : gD u0 = gD u9 := by rw [hu0, gD_pI, gD_pI]
          have e9f : gI u9 238 f.toNat = zI (NB f - (smT g el f P + v)) := by rw [hN9 f bf, smx f, if_pos rfl, if_neg (fun hc => hft hc.symm), Int.sub_zero]
          have e9t : gI u9 238 t.toNat = zI (NB t - (smT g el t P - v)) := by rw [hN9 t bt, smx t, if_neg hft, if_pos rfl]; congr 1; omega
          have mk0 : pI (pI u9 238 f.toNat (gI u9 238 f.toNat + zI v)) 238 t.toNat (gI (pI u9 238 f.toNat (gI u9 238 f.toNat + zI v)) 238 t.toNat - zI v) = u0 := by
            rw [gI_pI, if_neg (by omega), e9f, e9t, z_add, z_sub, hu0, show NB f - (smT g el f P + v) + v = NB f - smT g el f P by omega, show NB t - (smT g el t P - v) - v = NB t - smT g el t P by omega]
          have hN0 : NdR g el NB u0 P := fun b hb => by
            have hb' : 0 ≤ b ∧ b < 9 := ⟨hb.1, by have := hb.2; omega⟩
            rw [hu0, gI_pI]
            by_cases c1 : t = b
            · rw [if_pos ⟨rfl, by rw [c1]⟩, c1]
            · rw [if_neg (by omega), gI_pI]
              by_cases c2 : f = b
              · rw [if_pos ⟨rfl, by rw [c2]⟩, c2]
              · rw [if_neg (by omega), hN9 b hb, smx b, if_neg c2, if_neg c1]; congr 1; omega
          have hP0 : MPx 235 u0 P := MPx_c hP (fun j hj => by rw [f0.1 235 j (by omega)]; exact j9 j hj)
          obtain ⟨s', e1, e2, e3, e4, e5, e6, e7⟩ := ihr (x + 1) HI lo u0 ac' G' (by omega) (by omega) hHI (by omega) hHI2 (FtC_c hC9 f0 d0 (fun c i hc => by omega)) hN0 hP0 (AcR_c hA9 f0 (fun c i hc => by omega)) hb9 hG'
          have ex1 : zI x + 1 = zI (x + 1) := by rw [zl1, z_add]
          refine ⟨s', ?_, ?_, Fp_tr h9 (Fp_tr (Fp_mo f0 (fun c i hc => by omega)) e3), by rw [e4, d0, d9], e5, fun j hj => by rw [e6 j hj, f0.1 235 j (by omega)]; exact j9 j hj, e7⟩
          · show tX1_tryFrom_246 (lX1_tryFrom G') u9 _ _ _ _ _ _ _ _ = _
            unfold tX1_tryFrom_246
            rw [cf, ct, mk0, ex1]
            exact e1
          · show uX1_tryFrom_246 (lX1_tryFrom G') (qX1_tryFrom G') u9 _ _ _ _ _ _ _ _
            unfold uX1_tryFrom_246
            rw [cf, ct, mk0, ex1]
            exact ⟨vf, vf, vt, vt, fun s5 h5 => by rw [h5]; exact e2⟩
        have f7u : Fp FitA u u7 := Fp_mo f7 (fun c i hc => by omega)
        have j7 : ∀ j, j < P.length → gI u7 235 j = gI u 235 j := fun j _ => f7.1 235 j (by omega)
        have hA7 : AcR m u7 ac := AcR_c hA f7 (fun c i hc => by omega)
        have efold : ∀ c0 : Acc, fold (fun j c => EnU M (fitP g el NB) k (((x + 1).toNat + j) :: P) c) r (EnU M (fitP g el NB) k (w :: P) c0) = fold (fun j c => EnU M (fitP g el NB) k ((x.toNat + j) :: P) c) (r + 1) c0 := fun c0 => by
          rw [Nat.add_comm r 1, fold_ad]
          have e0 : fold (fun j c => EnU M (fitP g el NB) k ((x.toNat + j) :: P) c) 1 c0 = EnU M (fitP g el NB) k (w :: P) c0 := by
            show EnU M (fitP g el NB) k ((x.toNat + 0) :: P) c0 = _
            rw [Nat.add_zero, hwx]
          rw [e0]
          refine fold_cg _ _ (fun j _ z => ?_)
          rw [show (x + 1).toNat + j = x.toNat + (1 + j) by omega]
        -- the turn at 148
        have h148 : ∀ (s' : SM), ((gI u7 239 f.toNat = zI (ix : Int) → gI u7 238 f.toNat = 0 → (lX1_tryFrom (G + 3)).2.2.1 u7 (zI (ix : Int)) (zI f) (zI t) (zI kd) lo (zI HI) (zI x) (zI v) = s' ∧ (qX1_tryFrom (G + 3)).2.2.1 u7 (zI (ix : Int)) (zI f) (zI t) (zI kd) lo (zI HI) (zI x) (zI v)) ∧ (gI u7 239 f.toNat = zI (ix : Int) → ¬ gI u7 238 f.toNat = 0 → (lX1_tryFrom (G + 3)).2.2.2.2.1 u7 (zI (ix : Int)) (zI f) (zI t) (zI kd) lo (zI HI) (zI x) (zI v) = s' ∧ (qX1_tryFrom (G + 3)).2.2.2.2.1 u7 (zI (ix : Int)) (zI f) (zI t) (zI kd) lo (zI HI) (zI x) (zI v)) ∧ (¬ gI u7 239 f.toNat = zI (ix : Int) → (lX1_tryFrom (G + 3)).2.2.1 u7 (zI (ix : Int)) (zI f) (zI t) (zI kd) lo (zI HI) (zI x) (zI v) = s' ∧ (qX1_tryFrom (G + 3)).2.2.1 u7 (zI (ix : Int)) (zI f) (zI t) (zI kd) lo (zI HI) (zI x) (zI v))) → (lX1_tryFrom (G + 4)).2.1 u (zI (ix : Int)) (zI f) (zI t) (zI kd) lo (zI HI) (zI x) = s' ∧ (qX1_tryFrom (G + 4)).2.1 u (zI (ix : Int)) (zI f) (zI t) (zI kd) lo (zI HI) (zI x) := by
          intro s' ⟨hh1, hh2, hh3⟩
          have vk : gD u 2 = some (gDx u 2) := by rw [q1]; exact q2
          have vk2 : ((gDx u 2, rfx (gDx u 2) 8) : Nat × Nat) ∈ LX := by rw [q1, rf]; exact mLX
          constructor
          · show tX1_tryFrom_148 (lX1_tryFrom (G + 3)) u _ _ _ _ _ _ _ = _
            unfold tX1_tryFrom_148
            rw [if_neg l, q1, rf, ev, cf, ct, mk]
            dsimp only
            by_cases c1 : gI u7 239 f.toNat = zI (ix : Int)
            · rw [if_pos c1]
              by_cases c2 : gI u7 238 f.toNat = 0
              · rw [if_pos c2]; exact (hh1 c1 c2).1
              · rw [if_neg c2]; exact (hh2 c1 c2).1
            · rw [if_neg c1]; exact (hh3 c1).1
          · show uX1_tryFrom_148 (lX1_tryFrom (G + 3)) (qX1_tryFrom (G + 3)) u _ _ _ _ _ _ _
            unfold uX1_tryFrom_148
            refine fun _ => ⟨vk, vk2, ?_⟩
            rw [q1, rf, ev, cf, ct, mk]
            refine ⟨rv, vf, vf, vt, vt, fun s7 h7 => ?_⟩
            rw [h7]
            exact ⟨vf, fun c1 => (hh3 c1).2, fun c1 => ⟨vf, fun c2 => (hh2 c1 c2).2, fun c2 => (hh1 c1 c2).2⟩⟩
        by_cases cf1 : laT g el f m = ix ∧ ¬ NB f - smT g el f (w :: P) = 0
        · -- refused by the lender
          obtain ⟨s', e1, e2, e3, e4, e5, e6, e7⟩ := after (G + 2) u7 ac (by omega) hC7 hN7 hA7 f7u d7 j7 (by omega)
          obtain ⟨k1, k2⟩ := h148 s' ⟨fun _ c2 => absurd (zf.mp c2) cf1.2, fun _ _ => ⟨e1, e2⟩, fun c1 => absurd (by rw [p3]; exact lfz.mpr cf1.1) c1⟩
          refine ⟨s', k1, k2, e3, e4, e5, e6, ?_⟩
          rw [← efold, bad w (Or.inl cf1)]
          exact e7
        · -- the turn at 212
          have h212 : ∀ (s' : SM), ((gI u7 239 t.toNat = zI (ix : Int) → gI u7 238 t.toNat = 0 → (lX1_tryFrom (G + 2)).2.2.2.1 u7 (zI (ix : Int)) (zI f) (zI t) (zI kd) lo (zI HI) (zI x) (zI v) = s' ∧ (qX1_tryFrom (G + 2)).2.2.2.1 u7 (zI (ix : Int)) (zI f) (zI t) (zI kd) lo (zI HI) (zI x) (zI v)) ∧ (gI u7 239 t.toNat = zI (ix : Int) → ¬ gI u7 238 t.toNat = 0 → (lX1_tryFrom (G + 2)).2.2.2.2.1 u7 (zI (ix : Int)) (zI f) (zI t) (zI kd) lo (zI HI) (zI x) (zI v) = s' ∧ (qX1_tryFrom (G + 2)).2.2.2.2.1 u7 (zI (ix : Int)) (zI f) (zI t) (zI kd) lo (zI HI) (zI x) (zI v)) ∧ (¬ gI u7 239 t.toNat = zI (ix : Int) → (lX1_tryFrom (G + 2)).2.2.2.1 u7 (zI (ix : Int)) (zI f) (zI t) (zI kd) lo (zI HI) (zI x) (zI v) = s' ∧ (qX1_tryFrom (G + 2)).2.2.2.1 u7 (zI (ix : Int)) (zI f) (zI t) (zI kd) lo (zI HI) (zI x) (zI v))) → (lX1_tryFrom (G + 4)).2.1 u (zI (ix : Int)) (zI f) (zI t) (zI kd) lo (zI HI) (zI x) = s' ∧ (qX1_tryFrom (G + 4)).2.1 u (zI (ix : Int)) (zI f) (zI t) (zI kd) lo (zI HI) (zI x) := by
            intro s' ⟨hh1, hh2, hh3⟩
            have k : (lX1_tryFrom (G + 3)).2.2.1 u7 (zI (ix : Int)) (zI f) (zI t) (zI kd) lo (zI HI) (zI x) (zI v) = s' ∧ (qX1_tryFrom (G + 3)).2.2.1 u7 (zI (ix : Int)) (zI f) (zI t) (zI kd) lo (zI HI) (zI x) (zI v) := by
              constructor
              · show tX1_tryFrom_212 (lX1_tryFrom (G + 2)) u7 _ _ _ _ _ _ _ _ = _
                unfold tX1_tryFrom_212
                rw [ct]
                by_cases c1 : gI u7 239 t.toNat = zI (ix : Int)
                · rw [if_pos c1]
                  by_cases c2 : gI u7 238 t.toNat = 0
                  · rw [if_pos c2]; exact (hh1 c1 c2).1
                  · rw [if_neg c2]; exact (hh2 c1 c2).1
                · rw [if_neg c1]; exact (hh3 c1).1
              · show uX1_tryFrom_212 (lX1_tryFrom (G + 2)) (qX1_tryFrom (G + 2)) u7 _ _ _ _ _ _ _ _
                unfold uX1_tryFrom_212
                rw [ct]
                exact ⟨vt, fun c1 => (hh3 c1).2, fun c1 => ⟨vt, fun c2 => (hh2 c1 c2).2, fun c2 => (hh1 c1 c2).2⟩⟩
            exact h148 s' ⟨fun _ _ => k, fun c1 c2 => absurd ⟨lfz.mp (by rw [← p3]; exact c1), fun hc => c2 (zf.mpr hc)⟩ cf1, fun _ => k⟩
          by_cases ct1 : laT g el t m = ix ∧ ¬ NB t - smT g el t (w :: P) = 0
          · -- refused by the debtor
            obtain ⟨s', e1, e2, e3, e4, e5, e6, e7⟩ := after (G + 1) u7 ac (by omega) hC7 hN7 hA7 f7u d7 j7 (by omega)
            obtain ⟨k1, k2⟩ := h212 s' ⟨fun _ c2 => absurd (zt.mp c2) ct1.2, fun _ _ => ⟨e1, e2⟩, fun c1 => absurd (by rw [p4]; exact ltz.mpr ct1.1) c1⟩
            refine ⟨s', k1, k2, e3, e4, e5, e6, ?_⟩
            rw [← efold, bad w (Or.inr ct1)]
            exact e7
          · -- tried further
            obtain ⟨u8, hu8⟩ : ∃ u8, u8 = pI u7 235 ix (zI x) := ⟨_, rfl⟩
            have f8 : Fp (fun c i => c = 235 ∧ i = ix) u7 u8 := by rw [hu8]; exact Fp_p u7 ⟨rfl, rfl⟩
            have d8 : gD u8 = gD u7 := by rw [hu8, gD_pI]
            have hP8 : MPx 235 u8 (w :: P) := by
              refine ⟨?_, MPx_c hP (fun j hj => by rw [f8.1 235 j (by omega)]; exact j7 j hj)⟩
              rw [← hix, hu8, gI_pI, if_pos ⟨rfl, rfl⟩, ewx]
            have hset8 : ∀ b, bdyZ g b → 0 ≤ laT g el b m → laT g el b m < ((w :: P).length : Int) → NB b - smT g el b (w :: P) = 0 := fun b hb h1 h2 => by
              rw [List.length_cons] at h2
              by_cases c1 : laT g el b m < (P.length : Int)
              · rw [smT_old c1 hi]; exact hset b hb h1 c1
              · have c2 : laT g el b m = ix := by omega
                have tb := (laT_b g el b m).2.2.2 h1
                rw [c2, Int.toNat_natCast, hix] at tb
                rcases tb with tb | tb
                · have eb : b = f := by rw [← tb, ← hd]; exact hf.symm
                  rw [eb] at c2 ⊢
                  exact Classical.byContradiction fun hc => cf1 ⟨c2, hc⟩
                · have eb : b = t := by rw [← tb, ← hd]; exact ht.symm
                  rw [eb] at c2 ⊢
                  exact Classical.byContradiction fun hc => ct1 ⟨c2, hc⟩
            obtain ⟨s2, e1, e2, e3, e4, e5, e6, e7⟩ := ih (w :: P) u8 ac (G + 1) (by rw [List.length_cons]; omega) (fun z hz => by
              rcases List.mem_cons.mp hz with rfl | hz
              · omega
              · exact hPb z hz) hset8 (FtC_c hC7 f8 d8 (fun c i hc => by omega)) (fun b hb => by rw [f8.1 238 _ (by omega)]; exact hN7 b hb) hP8 (AcR_c hA7 f8 (fun c i hc => by omega)) (by omega) (by omega)
            rw [List.length_cons, ← hix] at e1 e2
            have hcnt : (EnU M (fitP g el NB) k (w :: P) ac).1 ≤ ac.1 + M ^ k := by rw [EnU_fold (by omega)]; exact fold_a1 _ _ _
            obtain ⟨s', e1', e2', e3', e4', e5', e6', e7'⟩ := after G s2 (EnU M (fitP g el NB) k (w :: P) ac) (by omega) (FtC_c (FtC_c hC7 f8 d8 (fun c i hc => by omega)) e3 e4 (fun c i hc => by omega)) e5 e7 (Fp_tr f7u (Fp_tr (Fp_mo f8 (fun c i hc => by omega)) e3)) (by rw [e4, d8, d7]) (fun j hj => by rw [e6 j (by rw [List.length_cons]; omega), f8.1 235 j (by omega)]; exact j7 j hj) (by omega)
            have k : (lX1_tryFrom (G + 2)).2.2.2.1 u7 (zI (ix : Int)) (zI f) (zI t) (zI kd) lo (zI HI) (zI x) (zI v) = s' ∧ (qX1_tryFrom (G + 2)).2.2.2.1 u7 (zI (ix : Int)) (zI f) (zI t) (zI kd) lo (zI HI) (zI x) (zI v) := by
              constructor
              · show tX1_tryFrom_231 (lX1_tryFrom (G + 1)) u7 _ _ _ _ _ _ _ _ = _
                unfold tX1_tryFrom_231
                rw [ci, ei, ← hu8, e1]
                exact e1'
              · show uX1_tryFrom_231 (lX1_tryFrom (G + 1)) (qX1_tryFrom (G + 1)) u7 _ _ _ _ _ _ _ _
                unfold uX1_tryFrom_231
                rw [ci, ei, ← hu8, e1]
                exact ⟨vi, e2, fun s2' h2 => by rw [h2]; exact e2'⟩
            obtain ⟨k1, k2⟩ := h212 s' ⟨fun _ _ => k, fun c1 c2 => absurd ⟨ltz.mp (by rw [← p4]; exact c1), fun hc => c2 (zt.mpr hc)⟩ ct1, fun _ => k⟩
            refine ⟨s', k1, k2, e3', e4', e5', e6', ?_⟩
            rw [← efold]
            exact e7'
    -- the entry
    obtain ⟨q1, q2, q3, q4, q5⟩ := rd s hC
    have e234 : gI s 234 ix = zI (d : Int) := by rw [hd, hix]; exact hC.2.2.2.2.1 _ hi
    have cd : (zI (d : Int)).toNatClampNeg = d := by rw [z_cl (by have := ho.1.2; omega)]; exact Int.toNat_natCast _
    have hLd := hC.1.2.2.2 d ho.1
    have efd : gI s (31 + 1) d = zI f := by rw [hf]; have := hLd.1; rw [Int.toNat_natCast] at this; exact this
    have etd : gI s (31 + 2) d = zI t := by rw [ht]; have := hLd.2.1; rw [Int.toNat_natCast] at this; exact this
    have ekd : gI s (31 + 4) d = zI kd := by rw [hkd]; have := hLd.2.2.2.1; rw [Int.toNat_natCast] at this; exact this
    have nle : ¬ zI (m : Int) ≤ zI (ix : Int) := by rw [z_le (by omega) (by omega)]; omega
    have l4 : zI (ix : Int) < 4 := by rw [show (4 : Int32) = zI 4 from rfl, z_lt (by omega) (by omega)]; omega
    have vd : vp_in (zI (d : Int)) 60 := by rw [z_in (by have := ho.1.2; omega)]; have := ho.1.2; omega
    have vk : gD s 2 = some (gDx s 2) := by rw [q1]; exact q2
    have vk2 : ((gDx s 2, rfx (gDx s 2) 8) : Nat × Nat) ∈ LX := by rw [q1, rf]; exact mLX
    have n11 : (if (1 : Int32) < (1 : Int32) then (1 : Int32) else (1 : Int32)) = 1 := by decide
    have ent : ∀ s' : SM, ((gI s 239 f.toNat = zI (ix : Int) → (lX1_tryFrom (F + 1)).1 s (zI (ix : Int)) (zI f) (zI t) (zI kd) 1 (zI (M : Int)) = s' ∧ (qX1_tryFrom (F + 1)).1 s (zI (ix : Int)) (zI f) (zI t) (zI kd) 1 (zI (M : Int))) ∧ (¬ gI s 239 f.toNat = zI (ix : Int) → gI s 239 t.toNat = zI (ix : Int) → (lX1_tryFrom (F + 1)).1 s (zI (ix : Int)) (zI f) (zI t) (zI kd) 1 (zI (M : Int)) = s' ∧ (qX1_tryFrom (F + 1)).1 s (zI (ix : Int)) (zI f) (zI t) (zI kd) 1 (zI (M : Int))) ∧ (¬ gI s 239 f.toNat = zI (ix : Int) → ¬ gI s 239 t.toNat = zI (ix : Int) → (lX1_tryFrom (F + 1)).2.1 s (zI (ix : Int)) (zI f) (zI t) (zI kd) 1 (zI (M : Int)) 1 = s' ∧ (qX1_tryFrom (F + 1)).2.1 s (zI (ix : Int)) (zI f) (zI t) (zI kd) 1 (zI (M : Int)) 1)) → (lX1_tryFrom (F + 2)).2.2.2.2.2 s (zI (P.length : Int)) = s' ∧ (qX1_tryFrom (F + 2)).2.2.2.2.2 s (zI (P.length : Int)) := by
      intro s' ⟨hh1, hh2, hh3⟩
      rw [← hix]
      constructor
      · show tX1_tryFrom_e (lX1_tryFrom (F + 1)) s _ = _
        unfold tX1_tryFrom_e
        rw [hC.2.2.1, if_neg nle, if_pos l4, q1, ci, e234, cd, efd, etd, ekd, cf, ct, q5, n11]
        by_cases c1 : gI s 239 f.toNat = zI (ix : Int)
        · rw [if_pos c1]; exact (hh1 c1).1
        · rw [if_neg c1]
          by_cases c2 : gI s 239 t.toNat = zI (ix : Int)
          · rw [if_pos c2]; exact (hh2 c1 c2).1
          · rw [if_neg c2]; exact (hh3 c1 c2).1
      · show uX1_tryFrom_e (lX1_tryFrom (F + 1)) (qX1_tryFrom (F + 1)) s _
        unfold uX1_tryFrom_e
        rw [hC.2.2.1]
        refine ⟨fun hc => absurd hc nle, fun _ => ⟨fun _ => ?_, fun hc => absurd l4 hc⟩⟩
        rw [q1, ci, e234, cd, efd, etd, ekd, cf, ct, q5, n11, rf]
        exact ⟨q2, mLX, vi, vd, q2, mLX, vi, vd, q2, mLX, vi, vd, vf, fun c1 => (hh1 c1).2, fun c1 => ⟨vt, fun c2 => (hh3 c1 c2).2, fun c2 => (hh2 c1 c2).2⟩⟩
    have pow : M ^ (k + 1) = M * M ^ k := by rw [Nat.pow_succ, Nat.mul_comm]
    have eM0 : (M : Int).toNat = M := Int.toNat_natCast _
    by_cases sp : laT g el f m = ix ∨ laT g el t m = ix
    · -- a NET hangs on this sum alone
      obtain ⟨V, hV⟩ : ∃ V, V = (if laT g el f m = ix then NB f - smT g el f P else -(NB t - smT g el t P)) := ⟨_, rfl⟩
      have bV : -201000 ≤ V ∧ V ≤ 201000 := by
        have h1 := bnd f
        have h2 := bnd t
        have h3 := hNB f
        have h4 := hNB t
        rw [hV]
        split <;> omega
      obtain ⟨lw, hlw⟩ : ∃ lw, lw = (if y = 1 then V.tdiv 2 else if y = 2 then 2 * V else V) := ⟨_, rfl⟩
      have bl : -402000 ≤ lw ∧ lw ≤ 402000 := by
        have := Int.tdiv_eq_ediv_of_nonneg (a := V) (b := 2)
        rw [hlw]
        split
        · by_cases c : 0 ≤ V
          · rw [this c]; omega
          · have e : V = -(-V) := by omega
            rw [e, Int.neg_tdiv, Int.tdiv_eq_ediv_of_nonneg (by omega)]; omega
        · split <;> omega
      have eab : ∀ u : SM, gDx u 2 = 31 → LdR u 31 5 g → vX1_aboutSum u (zI kd) (zI V) = zI lw ∧ (gD u 2 = some 31 → rX1_aboutSum u (zI kd) (zI V)) := fun u hu hl => by
        have h4 := (hl.1.2.2 kd bk).2
        have ck : (zI kd).toNatClampNeg = kd.toNat := z_cl (by have := bk.2; have := bk.1; omega)
        have e1 : zI (soZ g kd) = 1 ↔ y = 1 := by rw [esy, zl1, z_eq (by omega) (by omega)]
        have e2 : zI (soZ g kd) = 2 ↔ y = 2 := by rw [esy, zl2, z_eq (by omega) (by omega)]
        unfold vX1_aboutSum rX1_aboutSum
        rw [hu, rf, ck]
        show (if gI u (5 + 6) kd.toNat = 1 then _ else _) = _ ∧ _
        rw [h4]
        refine ⟨?_, fun hg => ⟨hg, mLX, by rw [z_in (by have := bk.2; have := bk.1; omega)]; have := bk.2; have := bk.1; omega⟩⟩
        by_cases c1 : y = 1
        · rw [if_pos (e1.mpr c1), hlw, if_pos c1, zl2, z_div (by omega) (by omega) (by omega)]
        · rw [if_neg (fun hc => c1 (e1.mp hc)), hlw, if_neg c1]
          by_cases c2 : y = 2
          · rw [if_pos (e2.mpr c2), if_pos c2, zl2, z_mul]
          · rw [if_neg (fun hc => c2 (e2.mp hc)), if_neg c2]
      obtain ⟨LO, hLO⟩ : ∃ LO : Int, LO = (if 1 < lw then lw else 1) := ⟨_, rfl⟩
      obtain ⟨HI, hHI⟩ : ∃ HI : Int, HI = (if lw + 1 < M then lw + 1 else M) := ⟨_, rfl⟩
      have bLO : 1 ≤ LO ∧ LO ≤ 402000 := by rw [hLO]; split <;> omega
      have bHI : -402000 ≤ HI ∧ HI ≤ M := by rw [hHI]; split <;> omega
      obtain ⟨R, hR⟩ : ∃ R, R = (HI + 1 - LO).toNat := ⟨_, rfl⟩
      have hRM : R ≤ 2 ∧ R ≤ M := by rw [hR, hLO]; split <;> (rw [hHI]; split <;> omega)
      have hRp : R * M ^ k ≤ M ^ (k + 1) := by rw [pow]; exact Nat.mul_le_mul_right _ hRM.2
      obtain ⟨s', e1, e2, e3, e4, e5, e6, e7⟩ := loop R LO HI (zI lw) s a F hR bLO.1 bHI.2 (by omega) (by omega) hC hN hP hA (by omega) (by omega)
      have e93 : (lX1_tryFrom (F + 1)).1 s (zI (ix : Int)) (zI f) (zI t) (zI kd) 1 (zI (M : Int)) = s' ∧ (qX1_tryFrom (F + 1)).1 s (zI (ix : Int)) (zI f) (zI t) (zI kd) 1 (zI (M : Int)) := by
        have eHI : (if zI lw + 1 < zI (M : Int) then zI lw + 1 else zI (M : Int)) = zI HI := by
          rw [zl1, z_add, hHI]
          by_cases c : lw + 1 < M
          · rw [if_pos c, if_pos (by rw [z_lt (by omega) (by omega)]; exact c)]
          · rw [if_neg c, if_neg (by rw [z_lt (by omega) (by omega)]; exact c)]
        have eLO : (if 1 < zI lw then zI lw else 1) = zI LO := by
          rw [hLO]
          by_cases c : 1 < lw
          · rw [if_pos c, if_pos (by rw [zl1, z_lt (by omega) (by omega)]; exact c)]
          · rw [if_neg c, if_neg (by rw [zl1, z_lt (by omega) (by omega)]; exact c)]; rfl
        obtain ⟨ab1, ab2⟩ := eab s q1 hC.1
        have nf : gI s 238 f.toNat = zI (NB f - smT g el f P) := hN f bf
        have nt : -(gI s 238 t.toNat) = zI (-(NB t - smT g el t P)) := by rw [hN t bt, z_neg]
        constructor
        · show tX1_tryFrom_93 (lX1_tryFrom F) s _ _ _ _ _ _ = _
          unfold tX1_tryFrom_93
          rw [cf, ct, q3, q5]
          by_cases c1 : laT g el f m = ix
          · have eV : NB f - smT g el f P = V := by rw [hV, if_pos c1]
            rw [if_pos (lfz.mpr c1), nf, eV, ab1, eHI, eLO]; exact e1
          · have eV : -(NB t - smT g el t P) = V := by rw [hV, if_neg c1]
            rw [if_neg (fun hc => c1 (lfz.mp hc)), nt, eV, ab1, eHI, eLO]; exact e1
        · show uX1_tryFrom_93 (lX1_tryFrom F) (qX1_tryFrom F) s _ _ _ _ _ _
          unfold uX1_tryFrom_93
          rw [cf, ct, q3, q5]
          refine ⟨vf, fun hc => ?_, fun hc => ?_⟩
          · have c1 : ¬ laT g el f m = ix := fun h => hc (lfz.mpr h)
            have eV : -(NB t - smT g el t P) = V := by rw [hV, if_neg c1]
            rw [nt, eV, ab1, eHI, eLO]
            exact ⟨vt, ab2 q2, e2⟩
          · have c1 := lfz.mp hc
            have eV : NB f - smT g el f P = V := by rw [hV, if_pos c1]
            rw [nf, eV, ab1, eHI, eLO]
            exact ⟨vf, ab2 q2, e2⟩
      obtain ⟨k1, k2⟩ := ent s' ⟨fun _ => e93, fun _ _ => e93, fun c1 c2 => by
        rw [q3] at c1
        rw [q4] at c2
        exact absurd sp (fun h => h.elim (fun h => c1 (lfz.mpr h)) (fun h => c2 (ltz.mpr h)))⟩
      refine ⟨s', k1, k2, e3, e4, e5, e6, ?_⟩
      have idn : ∀ w : Nat, 1 ≤ w → w ≤ M → ((w : Int) < LO ∨ HI < w) → ∀ z, EnU M (fitP g el NB) k (w :: P) z = z := fun w hw1 hw2 hout => by
        have no : ¬ vbZ w y = V := fun hc => by
          have := vb_in (w := w) (y := y) (v := V) (by omega) hs3 hc
          rw [← hlw] at this
          rw [hLO, hHI] at hout
          rcases hout with h | h
          · split at h <;> omega
          · split at h <;> omega
        refine bad w ?_
        by_cases c1 : laT g el f m = ix
        · left
          refine ⟨c1, fun hc => no ?_⟩
          rw [sm1 f w, if_pos rfl, if_neg (fun h => hft h.symm)] at hc
          rw [hV, if_pos c1]; omega
        · right
          refine ⟨sp.resolve_left c1, fun hc => no ?_⟩
          rw [sm1 t w, if_neg hft, if_pos rfl] at hc
          rw [hV, if_neg c1]; omega
      show AcR m s' (fold (fun s c => EnU M (fitP g el NB) k ((s + 1) :: P) c) M a)
      by_cases cR : R = 0
      · rw [cR] at e7
        rw [fold_no _ _ _ (fun i hi z => idn (i + 1) (by omega) (by omega) (by omega) z)]
        exact e7
      · have hlo : LO.toNat - 1 + R ≤ M := by omega
        rw [fold_win _ hlo a (fun i hi hout z => idn (i + 1) (by omega) (by omega) (by omega) z)]
        have ef : (fun j c => EnU M (fitP g el NB) k ((LO.toNat + j) :: P) c) = fun i => (fun s c => EnU M (fitP g el NB) k ((s + 1) :: P) c) (LO.toNat - 1 + i) := by
          funext j c
          show EnU M (fitP g el NB) k ((LO.toNat + j) :: P) c = EnU M (fitP g el NB) k ((LO.toNat - 1 + j + 1) :: P) c
          rw [show LO.toNat - 1 + j + 1 = LO.toNat + j by omega]
        rw [ef] at e7
        exact e7
    · obtain ⟨s', e1, e2, e3, e4, e5, e6, e7⟩ := loop M 1 M 1 s a (F + 1) (by omega) (by omega) (Int.le_refl _) (by omega) (by omega) hC hN hP hA (by rw [← pow]; exact hbnd) (by omega)
      have z1 : zI 1 = 1 := rfl
      rw [z1] at e1 e2
      obtain ⟨k1, k2⟩ := ent s' ⟨fun hc => by rw [q3] at hc; exact absurd (Or.inl (lfz.mp hc)) sp, fun _ hc => by rw [q4] at hc; exact absurd (Or.inr (ltz.mp hc)) sp, fun _ _ => ⟨e1, e2⟩⟩
      refine ⟨s', k1, k2, e3, e4, e5, e6, ?_⟩
      show AcR m s' (fold (fun s c => EnU M (fitP g el NB) k ((s + 1) :: P) c) M a)
      have ef : (fun j c => EnU M (fitP g el NB) k (((1 : Int).toNat + j) :: P) c) = (fun s c => EnU M (fitP g el NB) k ((s + 1) :: P) c) := by
        funext j c
        rw [show (1 : Int).toNat + j = j + 1 by omega]
      rw [ef] at e7
      exact e7
end
