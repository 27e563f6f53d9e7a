-- needs: 42.qa 43.owed 47.qe 51.fr
/-! settled -/
def nvZ (g : Nat → Int) (b : Int) : Int32 := fold (stNT g b) (g 34).toNat (zI 0)
/-- the nets that are not 0, in the bodies' order -/
def nlS (g : Nat → Int) (b : Nat) (a : (Nat → Int32) × Nat) : (Nat → Int32) × Nat := if nvZ g b = zI 0 then a else (fun i => if i = a.2 then nvZ g b else a.1 i, a.2 + 1)
def nlF (g : Nat → Int) (n : Nat) : (Nat → Int32) × Nat := fold (nlS g) n (fun _ => zI 0, 0)
theorem nlF_b (g : Nat → Int) (n : Nat) : (nlF g n).2 ≤ n := by
  induction n with
  | zero => exact Nat.le_refl _
  | succ n ih =>
    show (nlS g n (nlF g n)).2 ≤ n + 1
    unfold nlS
    split
    · omega
    · show (nlF g n).2 + 1 ≤ n + 1; omega
def smF (f : Nat → Int32) (S : Nat) (i : Nat) (a : Int32) : Int32 := if S.testBit i = true then a + f i else a
def smN (f : Nat → Int32) (n S : Nat) : Int32 := fold (smF f S) n (zI 0)
theorem fold_x {α : Type} {st st' : Nat → α → α} (n : Nat) (h : ∀ i, i < n → ∀ a, st i a = st' i a) (a : α) : fold st n a = fold st' n a := by
  induction n with
  | zero => rfl
  | succ n ih => show st n (fold st n a) = st' n (fold st' n a); rw [ih (fun i hi => h i (by omega)), h n (by omega)]
theorem bit_x (S i j : Nat) : (S ^^^ 2 ^ i).testBit j = if i = j then !(S.testBit j) else S.testBit j := by
  rw [Nat.testBit_xor, Nat.testBit_two_pow]
  by_cases h : i = j <;> simp [h]
/-- the sum is the rest's and the one's -/
theorem sm_1 (f : Nat → Int32) (S n i : Nat) (hi : i < n) (hs : S.testBit i = true) : smN f n S = smN f n (S ^^^ 2 ^ i) + f i := by
  induction n with
  | zero => omega
  | succ n ih =>
    show smF f S n (smN f n S) = smF f (S ^^^ 2 ^ i) n (smN f n (S ^^^ 2 ^ i)) + f i
    by_cases hn : i = n
    · subst hn
      have e : smN f i S = smN f i (S ^^^ 2 ^ i) := fold_x i (fun j hj a => by unfold smF; rw [bit_x, if_neg (show ¬ i = j by omega)]) _
      unfold smF
      rw [bit_x, if_pos rfl, hs, if_pos rfl, if_neg (by decide), e]
    · rw [ih (by omega)]
      unfold smF
      rw [bit_x, if_neg hn]
      split
      · rw [Int32.add_assoc, Int32.add_assoc, Int32.add_comm (f i)]
      · rfl
def mxI (a b : Int) : Int := if a < b then b else a
def grF (f : Nat → Int32) (n : Nat) : Nat → Nat → Int
  | 0, _ => 0
  | k + 1, S => if S = 0 then 0 else fold (fun i a => if S.testBit i = true then mxI a (grF f n k (S ^^^ 2 ^ i)) else a) n 0 + (if smN f n S = zI 0 then 1 else 0)
theorem z_x_all : ∀ m ∈ List.range 512, ∀ b ∈ List.range 9, zI ((m : Nat) : Int) ^^^ ((1 : Int32) <<< (zI ((b : Nat) : Int) &&& 31)) = zI ((m ^^^ 2 ^ b : Nat) : Int) ∧ (m.testBit b = true → m &&& (511 ^^^ 2 ^ b) = m ^^^ 2 ^ b ∧ m ^^^ 2 ^ b < m) := by decide +kernel
theorem xor_lt {S i : Nat} (hS : S < 512) (hi : i < 9) (hs : S.testBit i = true) : S ^^^ 2 ^ i < S := ((z_x_all S (List.mem_range.mpr hS) i (List.mem_range.mpr hi)).2 hs).2
theorem grF_st (f : Nat → Int32) (n : Nat) (hn : n ≤ 9) : ∀ k k' S, S < 512 → S < k → S < k' → grF f n k S = grF f n k' S := by
  intro k
  induction k with
  | zero => intro k' S _ h; omega
  | succ k ih =>
    intro k' S h5 h h'
    obtain ⟨k2, rfl⟩ : ∃ k2, k' = k2 + 1 := ⟨k' - 1, by omega⟩
    unfold grF
    by_cases hS : S = 0
    · rw [if_pos hS, if_pos hS]
    · rw [if_neg hS, if_neg hS]
      congr 1
      refine fold_x n (fun i hi a => ?_) 0
      by_cases hb : S.testBit i = true
      · have := xor_lt h5 (by omega) hb
        rw [if_pos hb, if_pos hb, ih k2 _ (by omega) (by omega) (by omega)]
      · rw [if_neg hb, if_neg hb]
def grN (f : Nat → Int32) (n S : Nat) : Int := grF f n (S + 1) S
def mxN (f : Nat → Int32) (n S i : Nat) : Int := fold (fun i a => if S.testBit i = true then mxI a (grN f n (S ^^^ 2 ^ i)) else a) i 0
theorem grN_0 (f : Nat → Int32) (n : Nat) : grN f n 0 = 0 := rfl
theorem grN_s (f : Nat → Int32) (n S : Nat) (hn : n ≤ 9) (h5 : S < 512) (h : S ≠ 0) : grN f n S = mxN f n S n + (if smN f n S = zI 0 then 1 else 0) := by
  unfold grN mxN
  show (if S = 0 then 0 else _) = _
  rw [if_neg h]
  congr 1
  refine fold_x n (fun i hi a => ?_) 0
  by_cases hb : S.testBit i = true
  · have := xor_lt h5 (by omega) hb
    rw [if_pos hb, if_pos hb]
    unfold grN
    rw [grF_st f n hn S _ _ (by omega) (by omega) (Nat.lt_succ_self _)]
  · rw [if_neg hb, if_neg hb]
theorem grN_b (f : Nat → Int32) (n : Nat) (hn : n ≤ 9) : ∀ S : Nat, S < 512 → 0 ≤ grN f n S ∧ grN f n S ≤ S := by
  intro S
  induction S using Nat.strongRecOn with
  | _ S ih =>
    intro h5
    by_cases hS : S = 0
    · subst hS; rw [grN_0]; omega
    · rw [grN_s f n S hn h5 hS]
      have : ∀ i, i ≤ 9 → 0 ≤ mxN f n S i ∧ mxN f n S i ≤ S - 1 := by
        intro i
        induction i with
        | zero => intro _; show 0 ≤ (0 : Int) ∧ (0 : Int) ≤ S - 1; omega
        | succ i ihi =>
          intro hi
          have ihi := ihi (by omega)
          show 0 ≤ (if S.testBit i = true then mxI (mxN f n S i) (grN f n (S ^^^ 2 ^ i)) else mxN f n S i) ∧ (if S.testBit i = true then mxI (mxN f n S i) (grN f n (S ^^^ 2 ^ i)) else mxN f n S i) ≤ S - 1
          by_cases hb : S.testBit i = true
          · rw [if_pos hb]
            have h1 := xor_lt h5 (by omega) hb
            have h2 := ih _ h1 (by omega)
            unfold mxI
            split <;> omega
          · rw [if_neg hb]; exact ihi
      have := this n hn
      split <;> omega
theorem mxN_b (f : Nat → Int32) (n S i : Nat) (hn : n ≤ 9) (h5 : S < 512) (hi : i ≤ 9) : 0 ≤ mxN f n S i ∧ mxN f n S i ≤ S := by
  induction i with
  | zero => show 0 ≤ (0 : Int) ∧ (0 : Int) ≤ S; omega
  | succ i ihi =>
    have ihi := ihi (by omega)
    show 0 ≤ (if S.testBit i = true then mxI (mxN f n S i) (grN f n (S ^^^ 2 ^ i)) else mxN f n S i) ∧ (if S.testBit i = true then mxI (mxN f n S i) (grN f n (S ^^^ 2 ^ i)) else mxN f n S i) ≤ S
    by_cases hb : S.testBit i = true
    · rw [if_pos hb]
      have h1 := xor_lt h5 (by omega) hb
      have h2 := grN_b f n hn (S ^^^ 2 ^ i) (by omega)
      unfold mxI
      split <;> omega
    · rw [if_neg hb]; exact ihi
/-- both sides' answer -/
def stlZ (g : Nat → Int) : Int := (nlF g (g 0).toNat).2 - grN (nlF g (g 0).toNat).1 (nlF g (g 0).toNat).2 (2 ^ (nlF g (g 0).toNat).2 - 1)
section
variable {s t : SM} {g : Nat → Int} {L P : Nat}
abbrev InS8 (c : Nat) : Prop := c = 241 ∨ c = 242 ∨ c = 243
theorem y_settled (h : LdR s 31 5 g) (hw : WF g) (hz : gI s 242 0 = zI 0 ∧ gI s 243 0 = zI 0) : vX11_settled s = zI (stlZ g) ∧ Fr InS8 s (mX11_settled s) ∧ (gI (mX11_settled s) 242 0 = zI 0 ∧ gI (mX11_settled s) 243 0 = zI 0) ∧ rX11_settled s := by
  have h0 := hw.w0
  have hN : ((g 0).toNat : Int) = g 0 := by omega
  have nvn : ∀ t b, LdR t 31 5 g → IR b → vX4_netOf t 31 5 (zI b) = nvZ g b ∧ rX4_netOf t 31 5 (zI b) := fun t b ht hb => y_netOf ht hw hb
  have up1 := ST_up (B := 1) (g 0).toNat (fun d (a : SM) => Fr InS8 s a ∧ (gI a 242 0 = zI 0 ∧ gI a 243 0 = zI 0) ∧ ∀ i, i < (nlF g d).2 → gI a 241 i = (nlF g d).1 i)
    (fun d a n => (lX8_payments n).1 a 31 5 (zI ((nlF g d).2 : Int)) (zI (d : Int))) (fun d a n => (qX8_payments n).1 a 31 5 (zI ((nlF g d).2 : Int)) (zI (d : Int))) (by
    rintro d a hd ⟨hf, hzz, hl⟩
    have hR := LdR_fr h hf (fun c hc => by omega)
    obtain ⟨e, r⟩ := nvn a d hR (by omega)
    have hb := nlF_b g d
    have n1 : (g 0 ≤ (d : Int)) = False := eq_false (by omega)
    show ∃ a', (Fr InS8 s a' ∧ (gI a' 242 0 = zI 0 ∧ gI a' 243 0 = zI 0) ∧ ∀ i, i < (nlS g d (nlF g d)).2 → gI a' 241 i = (nlS g d (nlF g d)).1 i) ∧ ST 1 _ _ (fun n => (lX8_payments n).1 a' 31 5 (zI ((nlS g d (nlF g d)).2 : Int)) (zI ((d + 1 : Nat) : Int))) (fun n => (qX8_payments n).1 a' 31 5 (zI ((nlS g d (nlF g d)).2 : Int)) (zI ((d + 1 : Nat) : Int)))
    generalize nlF g d = x at *
    unfold nlS
    by_cases hq : nvZ g d = zI 0
    · rw [if_pos hq]
      refine ⟨a, ⟨hf, hzz, hl⟩, ?_⟩
      (refine ⟨1, by decide, fun n => ?_⟩; dsimp only []; rw [lpX8_payments_4 (n), qpX8_payments_4 (n)]; generalize hlK : lX8_payments (n) = K; generalize hqK : qX8_payments (n) = Q; simp (disch := omega) only [tX8_payments_4, uX8_payments_4, h.1.1.1, hR.1.1.1, zl0, zl1, z_add, z_le, z_cl, e, r, n1, Int.natCast_succ, Int.toNat_natCast, Int.reduceAdd, Int.reduceSub, Int.reduceMul, Int.reduceNeg, Int.reduceLT, Int.reduceLE, Int.reduceToNat, Int.reduceEq, if_true, if_false, true_and, and_true, not_true, not_false_eq_true, false_implies, true_implies, imp_self, and_self, and_false, false_and, or_true, true_or, or_false, false_or, ite_self, implies_true, hq]; done)
    · rw [if_neg hq]
      have hq' : (nvZ g d = zI 0) = False := eq_false hq
      refine ⟨pI a 241 x.2 (nvZ g d), ⟨Fr_p hf (Or.inl rfl), ⟨?_, ?_⟩, fun i hi => ?_⟩, ?_⟩
      · rw [gI_n _ _ _ _ (by omega)]; exact hzz.1
      · rw [gI_n _ _ _ _ (by omega)]; exact hzz.2
      · rw [gI_s]
        show (if i = x.2 then nvZ g d else gI a 241 i) = if i = x.2 then nvZ g d else x.1 i
        by_cases hi2 : i = x.2
        · rw [if_pos hi2, if_pos hi2]
        · rw [if_neg hi2, if_neg hi2]; exact hl i (by have : i < x.2 + 1 := hi; omega)
      · have n2 : vp_in (zI (x.2 : Int)) 9 := by rw [z_in (by omega)]; omega
        (refine ⟨1, by decide, fun n => ?_⟩; dsimp only []; rw [lpX8_payments_4 (n), qpX8_payments_4 (n)]; generalize hlK : lX8_payments (n) = K; generalize hqK : qX8_payments (n) = Q; simp (disch := omega) only [tX8_payments_4, uX8_payments_4, h.1.1.1, hR.1.1.1, zl0, zl1, z_add, z_le, z_cl, e, r, n1, Int.natCast_succ, Int.toNat_natCast, Int.reduceAdd, Int.reduceSub, Int.reduceMul, Int.reduceNeg, Int.reduceLT, Int.reduceLE, Int.reduceToNat, Int.reduceEq, if_true, if_false, true_and, and_true, not_true, not_false_eq_true, false_implies, true_implies, imp_self, and_self, and_false, false_and, or_true, true_or, or_false, false_or, ite_self, implies_true, hq', n2]; done)
    )
  obtain ⟨a1, ⟨f1, z1, l1⟩, st1⟩ := up1 (g 0).toNat 0 s (by omega) ⟨Fr_rf _ s, hz, fun i hi => by have : i < 0 := hi; omega⟩
  have hnb := nlF_b g (g 0).toNat
  have hstl : stlZ g = (nlF g (g 0).toNat).2 - grN (nlF g (g 0).toNat).1 (nlF g (g 0).toNat).2 (2 ^ (nlF g (g 0).toNat).2 - 1) := rfl
  generalize nlF g (g 0).toNat = X at *
  obtain ⟨f, m⟩ := X
  dsimp only at l1 hstl hnb st1
  have hm9 : m ≤ 9 := by omega
  obtain ⟨hsh, hA1, hA2⟩ := shl9 (n := (m : Int)) (by omega) (by omega)
  rw [Int.toNat_natCast] at hsh hA1 hA2
  simp only [zl1] at hsh
  generalize hAA : 2 ^ m = A at *
  have hz0 : smN f m 0 = zI 0 := by
    have : ∀ n, smN f n 0 = zI 0 := by
      intro n
      induction n with
      | zero => rfl
      | succ n ih => show smF f 0 n (smN f n 0) = _; rw [ih]; unfold smF; rw [Nat.zero_testBit, if_neg (by decide)]
    exact this m
  have hR1 := LdR_fr h f1 (fun c hc => by omega)
  have st2 : ST 1 (fun n => (lX8_payments n).1 a1 31 5 (zI (m : Int)) (zI (g 0))) (fun n => (qX8_payments n).1 a1 31 5 (zI (m : Int)) (zI (g 0))) (fun n => (lX8_payments n).2.1 a1 31 5 (zI (m : Int)) (zI 1)) (fun n => (qX8_payments n).2.1 a1 31 5 (zI (m : Int)) (zI 1)) := by
    (refine ⟨1, by decide, fun n => ?_⟩; dsimp only []; rw [lpX8_payments_4 (n), qpX8_payments_4 (n)]; generalize hlK : lX8_payments (n) = K; generalize hqK : qX8_payments (n) = Q; simp (disch := omega) only [tX8_payments_4, uX8_payments_4, hR1.1.1.1, zl0, zl1, z_le, Int.le_refl, Int.reduceAdd, Int.reduceSub, Int.reduceMul, Int.reduceNeg, Int.reduceLT, Int.reduceLE, Int.reduceToNat, Int.reduceEq, if_true, if_false, true_and, and_true, not_true, not_false_eq_true, false_implies, true_implies, imp_self, and_self, and_false, false_and, or_true, true_or, or_false, false_or, ite_self, implies_true]; done)
  have up3 := ST_up (B := 11) (A - 1) (fun d (a : SM) => Fr InS8 s a ∧ (∀ i, i < m → gI a 241 i = f i) ∧ ∀ S, S < d + 1 → gI a 242 S = smN f m S ∧ gI a 243 S = zI (grN f m S))
    (fun d a n => (lX8_payments n).2.1 a 31 5 (zI (m : Int)) (zI ((d + 1 : Nat) : Int))) (fun d a n => (qX8_payments n).2.1 a 31 5 (zI (m : Int)) (zI ((d + 1 : Nat) : Int))) (by
    rintro d a hd ⟨hf, hl, hS⟩
    generalize hSd : d + 1 = S at *
    have hS5 : S < 512 := by omega
    have hS0 : S ≠ 0 := by omega
    have vS : vp_in (zI (S : Int)) 512 := by rw [z_in (by omega)]; omega
    have n1 : ((A : Int) ≤ (S : Int)) = False := eq_false (by omega)
    have n2 : ((512 : Int) ≤ (S : Int)) = False := eq_false (by omega)
    have cS : (zI (S : Int)).toNatClampNeg = S := by rw [z_cl (by omega)]; exact Int.toNat_natCast S
    -- the first turn lays two rows
    have t1 : ST 1 (fun n => (lX8_payments n).2.1 a 31 5 (zI (m : Int)) (zI (S : Int))) (fun n => (qX8_payments n).2.1 a 31 5 (zI (m : Int)) (zI (S : Int))) (fun n => (lX8_payments n).2.2 (pI (pI a 242 S (zI 0)) 243 S (zI 0)) 31 5 (zI (m : Int)) (zI (S : Int)) (zI 0)) (fun n => (qX8_payments n).2.2 (pI (pI a 242 S (zI 0)) 243 S (zI 0)) 31 5 (zI (m : Int)) (zI (S : Int)) (zI 0)) := by
      (refine ⟨1, by decide, fun n => ?_⟩; dsimp only []; rw [lpX8_payments_46 (n), qpX8_payments_46 (n)]; generalize hlK : lX8_payments (n) = K; generalize hqK : qX8_payments (n) = Q; simp (disch := omega) only [tX8_payments_46, uX8_payments_46, hsh, zl0, zl1, zl512, z_le, n1, n2, vS, cS, Int.reduceAdd, Int.reduceSub, Int.reduceMul, Int.reduceNeg, Int.reduceLT, Int.reduceLE, Int.reduceToNat, Int.reduceEq, if_true, if_false, true_and, and_true, not_true, not_false_eq_true, false_implies, true_implies, imp_self, and_self, and_false, false_and, or_true, true_or, or_false, false_or, ite_self, implies_true]; done)
    have up4 := ST_up (B := 1) m (fun i (b : SM) => Fr InS8 s b ∧ (∀ i, i < m → gI b 241 i = f i) ∧ (∀ S', S' < S → gI b 242 S' = smN f m S' ∧ gI b 243 S' = zI (grN f m S')) ∧ gI b 243 S = zI (mxN f m S i) ∧ (gI b 242 S = smN f m S ∨ (gI b 242 S = zI 0 ∧ ∀ j, j < i → S.testBit j = false)))
      (fun i b n => (lX8_payments n).2.2 b 31 5 (zI (m : Int)) (zI (S : Int)) (zI (i : Int))) (fun i b n => (qX8_payments n).2.2 b 31 5 (zI (m : Int)) (zI (S : Int)) (zI (i : Int))) (by
      rintro i b hi ⟨hf, hl, hS, hG, hT⟩
      have hb := hasZ_n (x := (S : Int)) (b := (i : Int)) (by omega) (by omega) (by omega) (by omega)
      rw [Int.toNat_natCast, Int.toNat_natCast] at hb
      obtain ⟨zx1, zx2⟩ := z_x_all S (List.mem_range.mpr hS5) i (List.mem_range.mpr (by omega))
      simp only [zl1] at zx1
      have n3 : ((m : Int) ≤ (i : Int)) = False := eq_false (by omega)
      by_cases hbit : S.testBit i = true
      · have k1 : hasZ S i = True := eq_true (hb.mpr hbit)
        obtain ⟨zx3, zx4⟩ := zx2 hbit
        generalize hrr : S ^^^ 2 ^ i = R at *
        have hR := hS R zx4
        have hR242 : gI b 242 R = smN f m R := hR.1
        have hR243 : gI b 243 R = zI (grN f m R) := hR.2
        have vR : vp_in (zI (R : Int)) 512 := by rw [z_in (by omega)]; omega
        have vi : vp_in (zI (i : Int)) 9 := by rw [z_in (by omega)]; omega
        have cR : (zI (R : Int)).toNatClampNeg = R := by rw [z_cl (by omega)]; exact Int.toNat_natCast R
        have ci : (zI (i : Int)).toNatClampNeg = i := by rw [z_cl (by omega)]; exact Int.toNat_natCast i
        have hli := hl i hi
        have hmb := mxN_b f m S i hm9 hS5 (by omega)
        have hgb := grN_b f m hm9 R (by omega)
        have hsm : smN f m R + f i = smN f m S := by rw [← hrr]; exact (sm_1 f S m i hi hbit).symm
        have hmx : mxN f m S (i + 1) = mxI (mxN f m S i) (grN f m R) := by
          show (if S.testBit i = true then mxI (mxN f m S i) (grN f m (S ^^^ 2 ^ i)) else mxN f m S i) = _
          rw [if_pos hbit, hrr]
        have hRS : R ≠ S := by omega
        refine ⟨pI (pI b 242 S (smN f m S)) 243 S (zI (mxI (mxN f m S i) (grN f m R))), ⟨Fr_p (Fr_p hf (Or.inr (Or.inl rfl))) (Or.inr (Or.inr rfl)), fun j hj => ?_, fun S' hS' => ⟨?_, ?_⟩, ?_, ?_⟩, ?_⟩
        · rw [gI_n _ _ _ _ (by omega), gI_n _ _ _ _ (by omega)]; exact hl j hj
        · rw [gI_n _ _ _ _ (by omega), gI_s, if_neg (by omega)]; exact (hS S' hS').1
        · rw [gI_s, if_neg (by omega), gI_n _ _ _ _ (by omega)]; exact (hS S' hS').2
        · rw [gI_s, if_pos rfl, hmx]
        · left; rw [gI_n _ _ _ _ (by omega), gI_s, if_pos rfl]
        · have hmxI : mxI (mxN f m S i) (grN f m R) = if mxN f m S i < grN f m R then grN f m R else mxN f m S i := rfl
          rw [hmxI]
          rcases tf (mxN f m S i < grN f m R) with k2 | k2
          all_goals
            (refine ⟨1, by decide, fun n => ?_⟩; dsimp only []; rw [lpX8_payments_77 (n), qpX8_payments_77 (n)]; generalize hlK : lX8_payments (n) = K; generalize hqK : qX8_payments (n) = Q; simp (disch := omega) only [tX8_payments_77, uX8_payments_77, zl0, zl1, z_add, z_le, z_lt, z_eq, c_isIn, n3, k1, k2, zx1, cR, ci, cS, vR, vi, vS, hR242, hR243, hli, hG, hsm, gI_n, gI_s, if_neg hRS, forall_eq, bI_T, bI_F, bI_z, Int.natCast_succ, ne_eq, Nat.reduceEqDiff, not_false_eq_true, Int.reduceAdd, Int.reduceSub, Int.reduceMul, Int.reduceNeg, Int.reduceLT, Int.reduceLE, Int.reduceToNat, Int.reduceEq, if_true, if_false, true_and, and_true, not_true, not_false_eq_true, false_implies, true_implies, imp_self, and_self, and_false, false_and, or_true, true_or, or_false, false_or, ite_self, implies_true]; done)
      · have k1 : hasZ S i = False := eq_false (fun hc => hbit (hb.mp hc))
        refine ⟨b, ⟨hf, hl, hS, ?_, ?_⟩, ?_⟩
        · have hmx0 : mxN f m S (i + 1) = mxN f m S i := by
            show (if S.testBit i = true then mxI (mxN f m S i) (grN f m (S ^^^ 2 ^ i)) else mxN f m S i) = _
            rw [if_neg hbit]
          rw [hG, hmx0]
        · rcases hT with hT | ⟨hT1, hT2⟩
          · exact Or.inl hT
          · refine Or.inr ⟨hT1, fun j hj => ?_⟩
            by_cases hji : j = i
            · subst hji; exact Bool.eq_false_iff.mpr hbit
            · exact hT2 j (by omega)
        ·
          (refine ⟨1, by decide, fun n => ?_⟩; dsimp only []; rw [lpX8_payments_77 (n), qpX8_payments_77 (n)]; generalize hlK : lX8_payments (n) = K; generalize hqK : qX8_payments (n) = Q; simp (disch := omega) only [tX8_payments_77, uX8_payments_77, zl0, zl1, z_add, z_le, z_lt, z_eq, c_isIn, n3, k1, bI_T, bI_F, bI_z, Int.natCast_succ, Int.reduceAdd, Int.reduceSub, Int.reduceMul, Int.reduceNeg, Int.reduceLT, Int.reduceLE, Int.reduceToNat, Int.reduceEq, if_true, if_false, true_and, and_true, not_true, not_false_eq_true, false_implies, true_implies, imp_self, and_self, and_false, false_and, or_true, true_or, or_false, false_or, ite_self, implies_true]; done)
      )
    obtain ⟨b, ⟨bf, bl, bS, bG, bT⟩, stb⟩ := up4 m 0 (pI (pI a 242 S (zI 0)) 243 S (zI 0)) (by omega) ⟨Fr_p (Fr_p hf (Or.inr (Or.inl rfl))) (Or.inr (Or.inr rfl)), fun j hj => by rw [gI_n _ _ _ _ (by omega), gI_n _ _ _ _ (by omega)]; exact hl j hj, fun S' hS' => ⟨by rw [gI_n _ _ _ _ (by omega), gI_s, if_neg (by omega)]; exact (hS S' (by omega)).1, by rw [gI_s, if_neg (by omega), gI_n _ _ _ _ (by omega)]; exact (hS S' (by omega)).2⟩, by rw [gI_s, if_pos rfl]; rfl, Or.inr ⟨by rw [gI_n _ _ _ _ (by omega), gI_s, if_pos rfl], fun j hj => by omega⟩⟩
    have bT : gI b 242 S = smN f m S := by
      rcases bT with bT | ⟨_, bT⟩
      · exact bT
      · exfalso
        apply hS0
        refine Nat.eq_of_testBit_eq (fun j => ?_)
        rw [Nat.zero_testBit]
        by_cases hj : j < m
        · exact bT j hj
        · have h2j : 2 ^ m ≤ 2 ^ j := Nat.pow_le_pow_right (by decide) (by omega)
          exact Nat.testBit_lt_two_pow (by omega)
    have hmb := mxN_b f m S m hm9 hS5 hm9
    refine ⟨pI b 243 S (zI (grN f m S)), ⟨Fr_p bf (Or.inr (Or.inr rfl)), fun j hj => by rw [gI_n _ _ _ _ (by omega)]; exact bl j hj, fun S' hS' => ⟨?_, ?_⟩⟩, ?_⟩
    · rw [gI_n _ _ _ _ (by omega)]
      by_cases hq : S' = S
      · subst hq; exact bT
      · exact (bS S' (by omega)).1
    · rw [gI_s]
      by_cases hq : S' = S
      · rw [if_pos hq, hq]
      · rw [if_neg hq]; exact (bS S' (by omega)).2
    · refine ST_mono (ST_trans t1 (ST_trans stb (B2 := 1) ?_)) (by omega)
      rw [grN_s f m S hm9 hS5 hS0]
      rcases tf (smN f m S = zI 0) with k2 | k2
      all_goals
        (refine ⟨1, by decide, fun n => ?_⟩; dsimp only []; rw [lpX8_payments_77 (n), qpX8_payments_77 (n)]; generalize hlK : lX8_payments (n) = K; generalize hqK : qX8_payments (n) = Q; simp (disch := omega) only [tX8_payments_77, uX8_payments_77, zl0, zl1, z_add, z_le, Int.le_refl, k2, cS, vS, bG, bT, forall_eq, Int.natCast_succ, Int.reduceAdd, Int.reduceSub, Int.reduceMul, Int.reduceNeg, Int.reduceLT, Int.reduceLE, Int.reduceToNat, Int.reduceEq, if_true, if_false, true_and, and_true, not_true, not_false_eq_true, false_implies, true_implies, imp_self, and_self, and_false, false_and, or_true, true_or, or_false, false_or, ite_self, implies_true, Int.add_zero]; done)
    )
  obtain ⟨a2, ⟨f2, l2, S2⟩, st3⟩ := up3 (A - 1) 0 a1 (by omega) ⟨f1, l1, fun S hS => by
    obtain rfl : S = 0 := by omega
    exact ⟨by rw [hz0]; exact z1.1, by rw [grN_0]; exact z1.2⟩⟩
  have hA1' : A - 1 + 1 = A := by omega
  rw [hA1'] at S2 st3
  have hG := (S2 (A - 1) (by omega)).2
  have hz2 := S2 0 (by omega)
  rw [hz0, grN_0] at hz2
  simp only [hN] at st1
  have st4 : ST 1 (fun n => (lX8_payments n).2.1 a2 31 5 (zI (m : Int)) (zI (A : Int))) (fun n => (qX8_payments n).2.1 a2 31 5 (zI (m : Int)) (zI (A : Int))) (fun _ => (zI (stlZ g), a2)) (fun _ => True) := by
    have n3 : (zI ((A : Int) - 1)).toNatClampNeg = A - 1 := by rw [z_cl (by omega)]; omega
    have v3 : vp_in (zI ((A : Int) - 1)) 512 := by rw [z_in (by omega)]; omega
    (refine ⟨1, by decide, fun n => ?_⟩; dsimp only []; rw [lpX8_payments_46 (n), qpX8_payments_46 (n)]; generalize hlK : lX8_payments (n) = K; generalize hqK : qX8_payments (n) = Q; simp (disch := omega) only [tX8_payments_46, uX8_payments_46, hsh, zl0, zl1, zl512, z_sub, z_le, Int.le_refl, hG, n3, v3, hstl, hAA, Int.reduceAdd, Int.reduceSub, Int.reduceMul, Int.reduceNeg, Int.reduceLT, Int.reduceLE, Int.reduceToNat, Int.reduceEq, if_true, if_false, true_and, and_true, not_true, not_false_eq_true, false_implies, true_implies, imp_self, and_self, and_false, false_and, or_true, true_or, or_false, false_or, ite_self, implies_true]; done)
  obtain ⟨E, Rr⟩ := ST_fu (ST_trans st1 (ST_trans st2 (ST_trans st3 st4))) (by omega)
  unfold vX11_settled mX11_settled rX11_settled vX8_payments mX8_payments rX8_payments fX8_payments
  have E' : (lX8_payments FU).1 s 31 5 0 0 = (zI (stlZ g), a2) := E
  rw [E']
  exact ⟨rfl, f2, hz2, Rr⟩
end
