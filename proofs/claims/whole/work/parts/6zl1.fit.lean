-- needs: 6zl.fit
section
variable {g : Nat → Int} {el : Nat → Nat} {m M : Nat} {NB : Int → Int}
set_option maxHeartbeats 20000000 in
/-- the search of the class, from P on -/
theorem y_tryFrom (hD : FtD g el m M NB) : ∀ (k : Nat) (P : List Nat) (s : SM) (a : Acc) (F : Nat), P.length + k = m → (∀ w ∈ P, 1 ≤ w ∧ w ≤ M) → (∀ b, bdyZ g b → 0 ≤ laT g el b m → laT g el b m < (P.length : Int) → NB b - smT g el b P = 0) → FtC g el m M s → NdR g el NB s P → MPx 235 s P → AcR m s a → a.1 + M ^ k ≤ 200000 → 84 * k + 4 ≤ F → ∃ s', (lX1_tryFrom F).2.2.2.2.2 s (zI (P.length : Int)) = s' ∧ (qX1_tryFrom F).2.2.2.2.2 s (zI (P.length : Int)) ∧ Fp FitA s s' ∧ gD s' = gD s ∧ NdR g el NB s' P ∧ (∀ j, j < P.length → gI s' 235 j = gI s 235 j) ∧ AcR m s' (EnU M (fitP g el NB) k P a) := by
  have hD' := hD
  obtain ⟨hm4, hM, hop, hNB, hpo, hw, hwa⟩ := hD
  have h0 := hw.w0
  intro k
  induction k with
  | zero =>
    intro P s a F hl hPb hset hC hN hP hA hb hF
    obtain ⟨F, rfl⟩ : ∃ F', F = F' + 1 := ⟨F - 1, by omega⟩
    obtain ⟨c1, c2, c3, c4, c5, c6⟩ := hC
    have hpl : P.length = m := by omega
    obtain ⟨s', e1, e2, e3, e4, e5⟩ := y_noteWay hm4 c3 hP hpl hM.2 hPb hA (by omega)
    have hp : fitP g el NB P := fun b hb hlv => by
      by_cases c : laT g el b m = -1
      · have hz := smT_set (g := g) (el := el) (m := m) (b := b) (P := []) (by rw [c]; show (-1 : Int) < ((0 : Nat) : Int); omega) P (by rw [List.append_nil]; omega)
        rw [List.append_nil] at hz
        rw [hz, hpo b hb hlv c]; rfl
      · have hr := (laT_b g el b m)
        have := hset b hb (by omega) (by omega)
        omega
    have le : zI (m : Int) ≤ zI (P.length : Int) := by rw [hpl]; exact Int32.le_refl _
    refine ⟨s', ?_, ?_, Fp_mo e3 (fun c i hc => by omega), e4, fun b hb => by rw [e3.1 238 _ (by omega)]; exact hN b hb, fun j hj => e3.1 235 j (by omega), ?_⟩
    · show tX1_tryFrom_e (lX1_tryFrom F) s _ = _
      unfold tX1_tryFrom_e
      rw [c3, if_pos le]; exact e1
    · show uX1_tryFrom_e (lX1_tryFrom F) (qX1_tryFrom F) s _
      unfold uX1_tryFrom_e
      rw [c3]
      exact ⟨fun _ => e2, fun hc => absurd le hc⟩
    · show AcR m s' (stFt (fitP g el NB) P a)
      rw [stFt_y hp]; exact e5
  | succ k ih =>
    intro P s a F hl hPb hset hC hN hP hA hbnd hF
    obtain ⟨F, rfl⟩ : ∃ F', F = F' + 2 := ⟨F - 2, by omega⟩
    have hi : P.length < m := by omega
    obtain ⟨ho, hs3⟩ := hop P.length hi
    obtain ⟨d, hd⟩ : ∃ d, d = el P.length := ⟨_, rfl⟩
    obtain ⟨ix, hix⟩ : ∃ ix, ix = P.length := ⟨_, rfl⟩
    have hwd := hw.wd ho.1
    rw [← hd] at ho hs3 hwd
    have hft := (hwd.2.2.2.2.2.2.2.2.2 ho.2).2.1
    obtain ⟨f, hf⟩ : ∃ f : Nat, (f : Int) = oZ g d 0 := ⟨(oZ g d 0).toNat, by have := hwd.1.1; omega⟩
    obtain ⟨t, ht⟩ : ∃ t : Nat, (t : Int) = oZ g d 1 := ⟨(oZ g d 1).toNat, by have := hwd.2.1.1; omega⟩
    obtain ⟨kd, hkd⟩ : ∃ kd, kd = oZ g d 3 := ⟨_, rfl⟩
    obtain ⟨y, hy⟩ : ∃ y, y = sorZ g d := ⟨_, rfl⟩
    have hsy := (hw.siz ho.1).2
    have esy : soZ g kd = y := by rw [hy, hkd]; rfl
    rw [← hy] at hs3 hsy
    rw [← hf, ← ht] at hft
    have hft' : f ≠ t := by omega
    have bf : bdyZ g f := by rw [hf]; exact hwd.1
    have bt : bdyZ g t := by rw [ht]; exact hwd.2.1
    have bk : kndZ g kd := by rw [hkd]; exact hwd.2.2.2.1
    obtain ⟨lvf, lvt⟩ := hwa d ho
    rw [← hf] at lvf
    rw [← ht] at lvt
    have bf' : f < 9 := by have := bf.2; omega
    have bt' : t < 9 := by have := bt.2; omega
    have cf : (zI (f : Int)).toNatClampNeg = f := by rw [z_cl (by omega)]; exact Int.toNat_natCast _
    have ct : (zI (t : Int)).toNatClampNeg = t := by rw [z_cl (by omega)]; exact Int.toNat_natCast _
    have vf : vp_in (zI f) 9 := by rw [z_in (by omega)]; omega
    have vt : vp_in (zI t) 9 := by rw [z_in (by omega)]; omega
    have ci : (zI (ix : Int)).toNatClampNeg = ix := by rw [z_cl (by omega)]; exact Int.toNat_natCast _
    have vi : vp_in (zI (ix : Int)) 4 := by rw [z_in (by omega)]; omega
    have ei : zI (ix : Int) + 1 = zI ((ix + 1 : Nat) : Int) := by rw [zl1, z_add]; congr 1
    have rf : rfx 31 8 = 5 := by decide
    have mLX : ((31, 5) : Nat × Nat) ∈ LX := by decide
    have lf := laT_b g el f m
    have lt := laT_b g el t m
    have tf0 : tcT g el ix f := by rw [hix]; exact Or.inl (by rw [← hd]; exact hf.symm)
    have tt0 : tcT g el ix t := by rw [hix]; exact Or.inr (by rw [← hd]; exact ht.symm)
    have glf : (ix : Int) ≤ laT g el f m := lf.2.2.1 ix (by omega) tf0
    have glt : (ix : Int) ≤ laT g el t m := lt.2.2.1 ix (by omega) tt0
    -- what a sum brings here
    have sv : ∀ (b x : Int), svT g el b ix x = (if f = b then x else 0) - (if t = b then x else 0) := fun b x => by
      unfold svT
      rw [hix, ← hd, ← hf, ← ht]
    have sm1 : ∀ (b : Int) (w : Nat), smT g el b (w :: P) = smT g el b P + ((if f = b then vbZ w y else 0) - (if t = b then vbZ w y else 0)) := fun b w => by
      show smT g el b P + svT g el b P.length (viT g el P.length w) = _
      rw [← hix, sv]
      unfold viT
      rw [hix, ← hd, ← hy]
    have bnd := fun b => smT_b (g := g) (el := el) hM.2 b hPb
    -- a sum that a check refuses fits nowhere
    have bad : ∀ w : Nat, ((laT g el f m = ix ∧ ¬ NB f - smT g el f (w :: P) = 0) ∨ (laT g el t m = ix ∧ ¬ NB t - smT g el t (w :: P) = 0)) → ∀ x, EnU M (fitP g el NB) k (w :: P) x = x := fun w hc x => EnU_no k (w :: P) x (fun Q hQ hp => by
      have hlen : (Q ++ w :: P).length ≤ m := by rw [List.length_append, List.length_cons, hQ]; omega
      rcases hc with ⟨h1, h2⟩ | ⟨h1, h2⟩
      · have e := smT_set (g := g) (el := el) (m := m) (b := f) (P := w :: P) (by rw [h1, List.length_cons]; omega) Q hlen
        have := hp f bf lvf
        rw [e] at this
        omega
      · have e := smT_set (g := g) (el := el) (m := m) (b := t) (P := w :: P) (by rw [h1, List.length_cons]; omega) Q hlen
        have := hp t bt lvt
        rw [e] at this
        omega)
    -- the reads of a memory that keeps the frame
    have rd : ∀ u : SM, FtC g el m M u → gDx u 2 = 31 ∧ gD u 2 = some 31 ∧ gI u 239 f = zI (laT g el f m) ∧ gI u 239 t = zI (laT g el t m) ∧ gI u 233 8 = zI (M : Int) := fun u hu => by
      refine ⟨by unfold gDx; rw [hu.2.1]; rfl, hu.2.1, hu.2.2.2.2.2 f bf, hu.2.2.2.2.2 t bt, hu.2.2.2.1⟩
    have lfz : zI (laT g el f m) = zI (ix : Int) ↔ laT g el f m = ix := z_eq (by omega) (by omega)
    have ltz : zI (laT g el t m) = zI (ix : Int) ↔ laT g el t m = ix := z_eq (by omega) (by omega)
    have loop := tf_loop hD' hl hd hix hf ht hft' bf bt bk esy hPb hset sm1 bad ih
    -- the entry
    obtain ⟨q1, q2, q3, q4, q5⟩ := rd s hC
    have e234 : gI s 234 ix = zI (d : Int) := by rw [hd, hix]; exact hC.2.2.2.2.1 _ hi
    have cd : (zI (d : Int)).toNatClampNeg = d := by rw [z_cl (by have := ho.1.2; omega)]; exact Int.toNat_natCast _
    have hLd := hC.1.2.2.2 d ho.1
    have efd : gI s (31 + 1) d = zI f := by rw [hf]; have := hLd.1; rw [Int.toNat_natCast] at this; exact this
    have etd : gI s (31 + 2) d = zI t := by rw [ht]; have := hLd.2.1; rw [Int.toNat_natCast] at this; exact this
    have ekd : gI s (31 + 4) d = zI kd := by rw [hkd]; have := hLd.2.2.2.1; rw [Int.toNat_natCast] at this; exact this
    have nle : ¬ zI (m : Int) ≤ zI (ix : Int) := by rw [z_le (by omega) (by omega)]; omega
    have l4 : zI (ix : Int) < 4 := by rw [show (4 : Int32) = zI 4 from rfl, z_lt (by omega) (by omega)]; omega
    have vd : vp_in (zI (d : Int)) 60 := by rw [z_in (by have := ho.1.2; omega)]; have := ho.1.2; omega
    have vk : gD s 2 = some (gDx s 2) := by rw [q1]; exact q2
    have vk2 : ((gDx s 2, rfx (gDx s 2) 8) : Nat × Nat) ∈ LX := by rw [q1, rf]; exact mLX
    have n11 : (if (1 : Int32) < (1 : Int32) then (1 : Int32) else (1 : Int32)) = 1 := by decide
    have ent : ∀ s' : SM, ((gI s 239 f = zI (ix : Int) → (lX1_tryFrom (F + 1)).1 s (zI (ix : Int)) (zI f) (zI t) (zI kd) 1 (zI (M : Int)) = s' ∧ (qX1_tryFrom (F + 1)).1 s (zI (ix : Int)) (zI f) (zI t) (zI kd) 1 (zI (M : Int))) ∧ (¬ gI s 239 f = zI (ix : Int) → gI s 239 t = zI (ix : Int) → (lX1_tryFrom (F + 1)).1 s (zI (ix : Int)) (zI f) (zI t) (zI kd) 1 (zI (M : Int)) = s' ∧ (qX1_tryFrom (F + 1)).1 s (zI (ix : Int)) (zI f) (zI t) (zI kd) 1 (zI (M : Int))) ∧ (¬ gI s 239 f = zI (ix : Int) → ¬ gI s 239 t = zI (ix : Int) → (lX1_tryFrom (F + 1)).2.1 s (zI (ix : Int)) (zI f) (zI t) (zI kd) 1 (zI (M : Int)) 1 = s' ∧ (qX1_tryFrom (F + 1)).2.1 s (zI (ix : Int)) (zI f) (zI t) (zI kd) 1 (zI (M : Int)) 1)) → (lX1_tryFrom (F + 2)).2.2.2.2.2 s (zI (P.length : Int)) = s' ∧ (qX1_tryFrom (F + 2)).2.2.2.2.2 s (zI (P.length : Int)) := by
      intro s' ⟨hh1, hh2, hh3⟩
      rw [← hix]
      constructor
      · show tX1_tryFrom_e (lX1_tryFrom (F + 1)) s _ = _
        unfold tX1_tryFrom_e
        rw [hC.2.2.1, if_neg nle, if_pos l4, q1, ci, e234, cd, efd, etd, ekd, cf, ct, q5, n11]
        by_cases c1 : gI s 239 f = zI (ix : Int)
        · rw [if_pos c1]; exact (hh1 c1).1
        · rw [if_neg c1]
          by_cases c2 : gI s 239 t = zI (ix : Int)
          · rw [if_pos c2]; exact (hh2 c1 c2).1
          · rw [if_neg c2]; exact (hh3 c1 c2).1
      · show uX1_tryFrom_e (lX1_tryFrom (F + 1)) (qX1_tryFrom (F + 1)) s _
        unfold uX1_tryFrom_e
        rw [hC.2.2.1]
        refine ⟨fun hc => absurd hc nle, fun _ => ⟨fun _ => ?_, fun hc => absurd l4 hc⟩⟩
        rw [q1, ci, e234, cd, efd, etd, ekd, cf, ct, q5, n11, rf]
        exact ⟨q2, mLX, vi, vd, q2, mLX, vi, vd, q2, mLX, vi, vd, vf, fun c1 => (hh1 c1).2, fun c1 => ⟨vt, fun c2 => (hh3 c1 c2).2, fun c2 => (hh2 c1 c2).2⟩⟩
    have pow : M ^ (k + 1) = M * M ^ k := by rw [Nat.pow_succ, Nat.mul_comm]
    have eM0 : (M : Int).toNat = M := Int.toNat_natCast _
    by_cases sp : laT g el f m = ix ∨ laT g el t m = ix
    · -- a NET hangs on this sum alone
      obtain ⟨V, hV⟩ : ∃ V, V = (if laT g el f m = ix then NB f - smT g el f P else -(NB t - smT g el t P)) := ⟨_, rfl⟩
      have bV : -201000 ≤ V ∧ V ≤ 201000 := by
        have h1 := bnd f
        have h2 := bnd t
        have h3 := hNB f
        have h4 := hNB t
        rw [hV]
        split <;> omega
      obtain ⟨lw, hlw⟩ : ∃ lw, lw = (if y = 1 then V.tdiv 2 else if y = 2 then 2 * V else V) := ⟨_, rfl⟩
      have bl : -402000 ≤ lw ∧ lw ≤ 402000 := by
        have := Int.tdiv_eq_ediv_of_nonneg (a := V) (b := 2)
        rw [hlw]
        split
        · by_cases c : 0 ≤ V
          · rw [this c]; omega
          · have e : V = -(-V) := by omega
            rw [e, Int.neg_tdiv, Int.tdiv_eq_ediv_of_nonneg (by omega)]; omega
        · split <;> omega
      have eab : ∀ u : SM, gDx u 2 = 31 → LdR u 31 5 g → vX1_aboutSum u (zI kd) (zI V) = zI lw ∧ (gD u 2 = some 31 → rX1_aboutSum u (zI kd) (zI V)) := fun u hu hl => by
        have h4 := (hl.1.2.2 kd bk).2
        have ck : (zI kd).toNatClampNeg = kd.toNat := z_cl (by have := bk.2; have := bk.1; omega)
        have e1 : zI (soZ g kd) = 1 ↔ y = 1 := by rw [esy, zl1, z_eq (by omega) (by omega)]
        have e2 : zI (soZ g kd) = 2 ↔ y = 2 := by rw [esy, zl2, z_eq (by omega) (by omega)]
        unfold vX1_aboutSum rX1_aboutSum
        rw [hu, rf, ck]
        show (if gI u (5 + 6) kd.toNat = 1 then _ else _) = _ ∧ _
        rw [h4]
        refine ⟨?_, fun hg => ⟨hg, mLX, by rw [z_in (by have := bk.2; have := bk.1; omega)]; have := bk.2; have := bk.1; omega⟩⟩
        by_cases c1 : y = 1
        · rw [if_pos (e1.mpr c1), hlw, if_pos c1, zl2, z_div (by omega) (by omega) (by omega)]
        · rw [if_neg (fun hc => c1 (e1.mp hc)), hlw, if_neg c1]
          by_cases c2 : y = 2
          · rw [if_pos (e2.mpr c2), if_pos c2, zl2, z_mul]
          · rw [if_neg (fun hc => c2 (e2.mp hc)), if_neg c2]
      obtain ⟨LO, hLO⟩ : ∃ LO : Nat, (LO : Int) = (if 1 < lw then lw else 1) := ⟨(if 1 < lw then lw else 1).toNat, by split <;> omega⟩
      obtain ⟨HI, hHI⟩ : ∃ HI : Int, HI = (if lw + 1 < M then lw + 1 else M) := ⟨_, rfl⟩
      have bLO : 1 ≤ (LO : Int) ∧ (LO : Int) ≤ 402000 ∧ lw ≤ (LO : Int) := by rw [hLO]; split <;> omega
      have bHI : -402000 ≤ HI ∧ HI ≤ M ∧ HI ≤ lw + 1 := by rw [hHI]; split <;> omega
      obtain ⟨R, hR1, hR2⟩ : ∃ R : Nat, (R = 0 → HI < LO) ∧ (0 < R → (R : Int) = HI + 1 - LO) := ⟨(HI + 1 - LO).toNat, fun h => by omega, fun h => by omega⟩
      have hRM : R ≤ 2 ∧ R ≤ M := by
        by_cases c : R = 0
        · omega
        · have := hR2 (by omega)
          omega
      have hRp : R * M ^ k ≤ M ^ (k + 1) := by rw [pow]; exact Nat.mul_le_mul_right _ hRM.2
      obtain ⟨s', e1, e2, e3, e4, e5, e6, e7⟩ := loop R LO HI (zI lw) s a F hR1 hR2 (by omega) bHI.2.1 (by omega) (by omega) hC hN hP hA (by omega) (by omega)
      have e93 : (lX1_tryFrom (F + 1)).1 s (zI (ix : Int)) (zI f) (zI t) (zI kd) 1 (zI (M : Int)) = s' ∧ (qX1_tryFrom (F + 1)).1 s (zI (ix : Int)) (zI f) (zI t) (zI kd) 1 (zI (M : Int)) := by
        have eHI : (if zI lw + 1 < zI (M : Int) then zI lw + 1 else zI (M : Int)) = zI HI := by
          rw [zl1, z_add, hHI]
          by_cases c : lw + 1 < M
          · rw [if_pos c, if_pos (by rw [z_lt (by omega) (by omega)]; exact c)]
          · rw [if_neg c, if_neg (by rw [z_lt (by omega) (by omega)]; exact c)]
        have eLO : (if 1 < zI lw then zI lw else 1) = zI LO := by
          rw [hLO]
          by_cases c : 1 < lw
          · rw [if_pos c, if_pos (by rw [zl1, z_lt (by omega) (by omega)]; exact c)]
          · rw [if_neg c, if_neg (by rw [zl1, z_lt (by omega) (by omega)]; exact c)]; rfl
        obtain ⟨ab1, ab2⟩ := eab s q1 hC.1
        have nf : gI s 238 f = zI (NB f - smT g el f P) := hN f bf
        have nt : -(gI s 238 t) = zI (-(NB t - smT g el t P)) := by
          have e : gI s 238 t = zI (NB t - smT g el t P) := hN t bt
          rw [e, z_neg]
        constructor
        · show tX1_tryFrom_93 (lX1_tryFrom F) s (zI (ix : Int)) (zI (f : Int)) (zI (t : Int)) (zI kd) 1 (zI (M : Int)) = _
          unfold tX1_tryFrom_93
          rw [cf, ct, q3, q5]
          by_cases c1 : laT g el f m = ix
          · have eV : NB f - smT g el f P = V := by rw [hV, if_pos c1]
            rw [if_pos (lfz.mpr c1), nf, eV, ab1, eHI, eLO]; exact e1
          · have eV : -(NB t - smT g el t P) = V := by rw [hV, if_neg c1]
            rw [if_neg (fun hc => c1 (lfz.mp hc)), nt, eV, ab1, eHI, eLO]; exact e1
        · show uX1_tryFrom_93 (lX1_tryFrom F) (qX1_tryFrom F) s (zI (ix : Int)) (zI (f : Int)) (zI (t : Int)) (zI kd) 1 (zI (M : Int))
          unfold uX1_tryFrom_93
          rw [cf, ct, q3, q5]
          refine ⟨vf, fun hc => ?_, fun hc => ?_⟩
          · have c1 : ¬ laT g el f m = ix := fun h => hc (lfz.mpr h)
            have eV : -(NB t - smT g el t P) = V := by rw [hV, if_neg c1]
            rw [nt, eV, ab1, eHI, eLO]
            exact ⟨vt, ab2 q2, e2⟩
          · have c1 := lfz.mp hc
            have eV : NB f - smT g el f P = V := by rw [hV, if_pos c1]
            rw [nf, eV, ab1, eHI, eLO]
            exact ⟨vf, ab2 q2, e2⟩
      obtain ⟨k1, k2⟩ := ent s' ⟨fun _ => e93, fun _ _ => e93, fun c1 c2 => by
        rw [q3] at c1
        rw [q4] at c2
        exact absurd sp (fun h => h.elim (fun h => c1 (lfz.mpr h)) (fun h => c2 (ltz.mpr h)))⟩
      refine ⟨s', k1, k2, e3, e4, e5, e6, ?_⟩
      have idn : ∀ w : Nat, 1 ≤ w → w ≤ M → ((w : Int) < LO ∨ HI < w) → ∀ z, EnU M (fitP g el NB) k (w :: P) z = z := fun w hw1 hw2 hout => by
        have no : ¬ vbZ w y = V := fun hc => by
          have := vb_in (w := w) (y := y) (v := V) (by omega) hs3 hc
          rw [← hlw] at this
          rw [hLO, hHI] at hout
          rcases hout with h | h
          · split at h <;> omega
          · split at h <;> omega
        refine bad w ?_
        by_cases c1 : laT g el f m = ix
        · left
          refine ⟨c1, fun hc => no ?_⟩
          rw [sm1 f w, if_pos rfl, if_neg (fun h => hft h.symm)] at hc
          rw [hV, if_pos c1]; omega
        · right
          refine ⟨sp.resolve_left c1, fun hc => no ?_⟩
          rw [sm1 t w, if_neg hft, if_pos rfl] at hc
          rw [hV, if_neg c1]; omega
      show AcR m s' (fold (fun s c => EnU M (fitP g el NB) k ((s + 1) :: P) c) M a)
      by_cases cR : R = 0
      · have hcr := hR1 cR
        rw [cR] at e7
        rw [fold_no _ _ _ (fun i hi z => idn (i + 1) (by omega) (by omega) (by omega) z)]
        exact e7
      · have hcr := hR2 (by omega)
        have hlo : LO - 1 + R ≤ M := by omega
        rw [fold_win _ hlo a (fun i hi hout z => idn (i + 1) (by omega) (by omega) (by omega) z)]
        have ef : (fun j c => EnU M (fitP g el NB) k ((LO + j) :: P) c) = fun i => (fun s c => EnU M (fitP g el NB) k ((s + 1) :: P) c) (LO - 1 + i) := by
          funext j c
          show EnU M (fitP g el NB) k ((LO + j) :: P) c = EnU M (fitP g el NB) k ((LO - 1 + j + 1) :: P) c
          rw [show LO - 1 + j + 1 = LO + j by omega]
        rw [ef] at e7
        exact e7
    · obtain ⟨s', e1, e2, e3, e4, e5, e6, e7⟩ := loop M 1 M 1 s a (F + 1) (fun h => by omega) (fun _ => by omega) (by omega) (Int.le_refl _) (by omega) (by omega) hC hN hP hA (by rw [← pow]; exact hbnd) (by omega)
      have z1 : zI ((1 : Nat) : Int) = 1 := rfl
      rw [z1] at e1 e2
      obtain ⟨k1, k2⟩ := ent s' ⟨fun hc => by rw [q3] at hc; exact absurd (Or.inl (lfz.mp hc)) sp, fun _ hc => by rw [q4] at hc; exact absurd (Or.inr (ltz.mp hc)) sp, fun _ _ => ⟨e1, e2⟩⟩
      refine ⟨s', k1, k2, e3, e4, e5, e6, ?_⟩
      show AcR m s' (fold (fun s c => EnU M (fitP g el NB) k ((s + 1) :: P) c) M a)
      have ef : (fun j c => EnU M (fitP g el NB) k ((1 + j) :: P) c) = (fun s c => EnU M (fitP g el NB) k ((s + 1) :: P) c) := by
        funext j c
        rw [Nat.add_comm 1 j]
      rw [ef] at e7
      exact e7
end
