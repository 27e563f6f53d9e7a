-- needs: 42.qa 47.qe
theorem sumZ_mono {f f' : Int → Int} (n : Nat) (h : ∀ b : Int, 0 ≤ b → b < n → f b ≤ f' b) : sumZ f n ≤ sumZ f' n := by
  induction n with
  | zero => exact Int.le_refl _
  | succ n ih => simp only [sumZ]; have := ih (fun b h1 h2 => h b h1 (by omega)); have := h n (by omega) (by omega); omega
theorem sumZ_lt {f f' : Int → Int} (n : Nat) (h : ∀ b : Int, 0 ≤ b → b < n → f b ≤ f' b) (k : Int) (k0 : 0 ≤ k) (kn : k < n) (hk : f k < f' k) : sumZ f n < sumZ f' n := by
  induction n with
  | zero => omega
  | succ n ih =>
    simp only [sumZ]
    have h1 := sumZ_mono n (fun b h1 h2 => h b h1 (by omega))
    have h2 := h n (by omega) (by omega)
    by_cases hq : k = n
    · subst hq; omega
    · have := ih (fun b h1 h2 => h b h1 (by omega)) (by omega); omega
def ltS (g : Nat → Int) (R : Nat) (d : Nat) (x : Nat) : Nat := if opZ g d ∧ R.testBit (oZ g d 1).toNat = true then x ||| 2 ^ (oZ g d 0).toNat else x
theorem lt_or (g : Nat → Int) (R n x : Nat) : fold (ltS g R) n x = x ||| fold (ltS g R) n 0 := by
  induction n with
  | zero => show x = x ||| 0; rw [Nat.or_zero]
  | succ n ih =>
    show ltS g R n (fold (ltS g R) n x) = x ||| ltS g R n (fold (ltS g R) n 0)
    rw [ih]
    unfold ltS
    split
    · rw [Nat.or_assoc]
    · rfl
theorem lt_b {g : Nat → Int} (hw : WF g) (R n : Nat) (hn : (n : Int) ≤ g 34) : ∀ j, (fold (ltS g R) n 0).testBit j = true → (j : Int) < g 0 := by
  induction n with
  | zero => intro j hj; rw [show fold (ltS g R) 0 0 = 0 from rfl, Nat.zero_testBit] at hj; exact absurd hj (by decide)
  | succ n ih =>
    intro j hj
    have hj : (ltS g R n (fold (ltS g R) n 0)).testBit j = true := hj
    have hwd := hw.wd (show dlZ g n by omega)
    have ih := ih (by omega)
    generalize fold (ltS g R) n 0 = y at hj ih
    unfold ltS at hj
    split at hj
    · rw [Nat.testBit_or, Nat.testBit_two_pow] at hj
      cases h1 : y.testBit j with
      | true => exact ih j h1
      | false => rw [h1] at hj; simp at hj; omega
    · exact ih j hj
/-- who is reached after i steps -/
def chR (g : Nat → Int) (a : Int) : Nat → Nat
  | 0 => 2 ^ a.toNat
  | i + 1 => chR g a i ||| fold (ltS g (chR g a i)) (g 34).toNat 0
theorem lt512 {x : Nat} {n : Int} (h9 : n ≤ 9) (h : ∀ j, x.testBit j = true → (j : Int) < n) : x < 512 := by
  have : x < 2 ^ 9 := Nat.lt_pow_two_of_testBit x (fun j hj => by
    cases hx : x.testBit j with
    | false => rfl
    | true => have := h j hx; omega)
  exact this
theorem chR_b {g : Nat → Int} (hw : WF g) {a : Int} (ha : bdyZ g a) (i : Nat) : chR g a i < 512 ∧ ∀ j, (chR g a i).testBit j = true → (j : Int) < g 0 := by
  have h0 := hw.w0
  have key : ∀ j, (chR g a i).testBit j = true → (j : Int) < g 0 := by
    induction i with
    | zero => intro j hj; unfold chR at hj; rw [Nat.testBit_two_pow] at hj; simp at hj; omega
    | succ i ih =>
      intro j hj
      unfold chR at hj
      rw [Nat.testBit_or] at hj
      cases h1 : (chR g a i).testBit j with
      | true => exact ih j h1
      | false => rw [h1, Bool.false_or] at hj; exact lt_b hw _ _ (by omega) j hj
  exact ⟨lt512 h0.1.2 key, key⟩
theorem card_g {g : Nat → Int} (hw : WF g) {S : Nat} (h : ∀ j, S.testBit j = true → (j : Int) < g 0) : card S ≤ g 0 := by
  have h0 := hw.w0
  have h1 : card S ≤ sumZ (fun b => if b < g 0 then 1 else 0) 9 := sumZ_mono 9 (fun b hb0 hb => by
    show (if inS S b then (1 : Int) else 0) ≤ if b < g 0 then 1 else 0
    by_cases hs : inS S b
    · have := h b.toNat hs
      rw [if_pos hs, if_pos (by omega)]; exact Int.le_refl _
    · rw [if_neg hs]; split <;> omega)
  have h2 : ∀ G : Int, 0 ≤ G → G ≤ 9 → sumZ (fun b => if b < G then 1 else 0) 9 = G := by
    intro G g0 g9
    rcases (show G = 0 ∨ G = 1 ∨ G = 2 ∨ G = 3 ∨ G = 4 ∨ G = 5 ∨ G = 6 ∨ G = 7 ∨ G = 8 ∨ G = 9 by omega) with rfl | rfl | rfl | rfl | rfl | rfl | rfl | rfl | rfl | rfl <;> rfl
  rw [h2 _ h0.1.1 h0.1.2] at h1
  exact h1
theorem card_or {S x : Nat} (hS : S < 512) (hx : x < 512) (hne : S ||| x ≠ S) : card S < card (S ||| x) := by
  have : ∃ j, x.testBit j = true ∧ S.testBit j = false := by
    apply Classical.byContradiction
    intro hc
    apply hne
    refine Nat.eq_of_testBit_eq (fun j => ?_)
    rw [Nat.testBit_or]
    cases h1 : x.testBit j <;> cases h2 : S.testBit j <;> first | rfl | exact absurd ⟨j, h1, h2⟩ hc
  obtain ⟨j, j1, j2⟩ := this
  have hj : j < 9 := by
    apply Classical.byContradiction
    intro hc
    have h2j : 2 ^ 9 ≤ 2 ^ j := Nat.pow_le_pow_right (by decide) (Nat.le_of_not_lt hc)
    rw [Nat.testBit_lt_two_pow (Nat.lt_of_lt_of_le hx h2j)] at j1
    exact absurd j1 (by decide)
  refine sumZ_lt 9 (fun b hb0 hb => ?_) j (by omega) (by omega) ?_
  · show (if inS S b then (1 : Int) else 0) ≤ if inS (S ||| x) b then 1 else 0
    unfold inS
    rw [Nat.testBit_or]
    cases h1 : S.testBit b.toNat <;> cases h2 : x.testBit b.toNat <;> decide
  · show (if inS S j then (1 : Int) else 0) < if inS (S ||| x) j then 1 else 0
    unfold inS
    rw [Nat.testBit_or, Int.toNat_natCast, j1, j2]
    decide
theorem chR_fix {g : Nat → Int} (hw : WF g) {a : Int} (ha : bdyZ g a) : ∃ m : Nat, (m : Int) < g 0 ∧ chR g a (m + 1) = chR g a m := by
  have h0 := hw.w0
  have key : ∀ i : Nat, ((i : Int) + 1 ≤ card (chR g a i)) ∨ ∃ m : Nat, m < i ∧ chR g a (m + 1) = chR g a m := by
    intro i
    induction i with
    | zero =>
      left
      have : ∀ b ∈ List.range 9, (1 : Int) ≤ card (2 ^ b) := by decide +kernel
      have := this a.toNat (List.mem_range.mpr (by omega))
      show ((0 : Nat) : Int) + 1 ≤ card (2 ^ a.toNat)
      omega
    | succ i ih =>
      rcases ih with ih | ⟨m, h1, h2⟩
      · by_cases hq : chR g a (i + 1) = chR g a i
        · right; exact ⟨i, by omega, hq⟩
        · left
          have hb := chR_b hw ha i
          have hl := lt512 h0.1.2 (lt_b hw (chR g a i) (g 34).toNat (by omega))
          have := card_or hb.1 hl hq
          have e : card (chR g a (i + 1)) = card (chR g a i ||| fold (ltS g (chR g a i)) (g 34).toNat 0) := rfl
          omega
      · right; exact ⟨m, by omega, h2⟩
  rcases key (g 0).toNat with hk | ⟨m, h1, h2⟩
  · have := card_g hw (chR_b hw ha (g 0).toNat).2
    omega
  · exact ⟨m, by omega, h2⟩
theorem chR_st {g : Nat → Int} {a : Int} {m : Nat} (h : chR g a (m + 1) = chR g a m) : ∀ k, chR g a (m + k) = chR g a m := by
  intro k
  induction k with
  | zero => rfl
  | succ k ih => rw [← Nat.add_assoc]; show chR g a (m + k) ||| _ = _; rw [ih]; exact h
/-- the first i below N with p -/
def fst1 (p : Nat → Bool) (i : Nat) (x : Unit) : Int32 ⊕ Unit := if p i = true then .inl (zI (i : Int)) else .inr x
theorem run_first (p : Nat → Bool) : ∀ r i, (∀ j, i ≤ j → j < i + r → p j = false) → run (fst1 p) (fun _ => zI (-1)) r i () = zI (-1) := by
  intro r
  induction r with
  | zero => intro i _; rfl
  | succ r ih =>
    intro i h
    unfold run fst1
    rw [h i (by omega) (by omega), if_neg (by decide)]
    exact ih (i + 1) (fun j h1 h2 => h j (by omega) (by omega))
theorem run_more (p : Nat → Bool) : ∀ r r' i, (∀ j, i + r ≤ j → j < i + r' → p j = true → ∃ k, i ≤ k ∧ k < i + r ∧ p k = true) → r ≤ r' → run (fst1 p) (fun _ => zI (-1)) r i () = run (fst1 p) (fun _ => zI (-1)) r' i () := by
  intro r
  induction r with
  | zero =>
    intro r' i h _
    rw [run_first p r' i (fun j h1 h2 => by
      cases hp : p j with
      | false => rfl
      | true => obtain ⟨k, k1, k2, k3⟩ := h j (by omega) (by omega) hp; omega)]
    rfl
  | succ r ih =>
    intro r' i h hr
    obtain ⟨r2, rfl⟩ : ∃ r2, r' = r2 + 1 := ⟨r' - 1, by omega⟩
    unfold run
    by_cases hp : p i = true
    · have : fst1 p i () = .inl (zI (i : Int)) := by unfold fst1; rw [if_pos hp]
      rw [this]
    · have : fst1 p i () = .inr () := by unfold fst1; rw [if_neg hp]
      rw [this]
      refine ih r2 (i + 1) (fun j h1 h2 h3 => ?_) (by omega)
      obtain ⟨k, k1, k2, k3⟩ := h j (by omega) (by omega) h3
      refine ⟨k, ?_, by omega, k3⟩
      by_cases hk : k = i
      · subst hk; exact absurd k3 hp
      · omega
section
variable {s t : SM} {g : Nat → Int} {L P : Nat}
theorem y_lendersTo (h : LdR s L P g) (hw : WF g) {R : Nat} (hR : R < 512) : vX4_lendersTo s L P (zI (R : Int)) = zI (fold (ltS g R) (g 34).toNat 0 : Nat) ∧ rX4_lendersTo s L P (zI (R : Int)) := by
  have h0 := hw.w0
  have hN : ((g 34).toNat : Int) = g 34 := by omega
  have hit := ST_it0 (B := 1) (g 34).toNat (fun d n => lX4_lendersTo n s L P (zI (R : Int)) (zI (fold (ltS g R) d 0 : Nat)) (zI (d : Int))) (fun d n => qX4_lendersTo n s L P (zI (R : Int)) (zI (fold (ltS g R) d 0 : Nat)) (zI (d : Int))) (by
    intro d hd
    have hdl : dlZ g (d : Int) := by omega
    have hwd := hw.wd hdl
    have hn1 : (g 34 ≤ (d : Int)) = False := eq_false (by omega)
    have hn2 : ((d : Int) < g 34) = True := eq_true (by omega)
    obtain ⟨f0, f1, f2, f3, f4, f5, f6, f7, f8⟩ := n_f h.2 hw hdl
    have c_vp := y_vp hw hdl
    obtain ⟨c_op, cr_op⟩ := y_isOpen (P := P) h.2 hw (d := (d : Int)) (by omega)
    obtain ⟨c_val, cr_val⟩ := y_valueOf h hw hdl
    show ST 1 _ _ (fun n => lX4_lendersTo n s L P (zI (R : Int)) (zI (ltS g R d (fold (ltS g R) d 0) : Nat)) (zI ((d + 1 : Nat) : Int))) (fun n => qX4_lendersTo n s L P (zI (R : Int)) (zI (ltS g R d (fold (ltS g R) d 0) : Nat)) (zI ((d + 1 : Nat) : Int)))
    generalize fold (ltS g R) d 0 = x
    have hb := hasZ_n (x := R) (b := oZ g d 1) (by omega) (by omega) (by omega) (by omega)
    rw [Int.toNat_natCast] at hb
    have hsh := zN_shl (oZ g d 0).toNat (by omega)
    rw [Int.toNat_of_nonneg (by omega)] at hsh
    simp only [zl1] at hsh
    refine ⟨1, by decide, fun n => ?_⟩
    unfold ltS
    simp only [← hb]
    rcases tf (opZ g d) with k0 | k0 <;> rcases tf (hasZ R (oZ g d 1)) with k1 | k1 <;>
      simp (disch := omega) only [lX4_lendersTo, qX4_lendersTo, tX4_lendersTo_4, uX4_lendersTo_4, h.2.1.1, zl0, zl1, z_add, z_le, z_eq, c_op, cr_op, f0, f1, c_vp, c_isIn, hsh, zN_or, k0, k1, hn1, bI_T, bI_F, bI_z, Int.natCast_succ, Int.reduceAdd, Int.reduceSub, Int.reduceMul, Int.reduceNeg, Int.reduceLT, Int.reduceLE, Int.reduceToNat, Int.reduceEq, if_true, if_false, true_and, and_true, not_true, not_false_eq_true, false_implies, true_implies, imp_self, and_self, and_false, false_and, or_true, true_or, or_false, false_or, ite_self, implies_true])
  obtain ⟨e1, r1⟩ := ST_fu (ST_trans hit (ST_1 (F' := fun _ => zI (fold (ltS g R) (g 34).toNat 0 : Nat)) (C' := fun _ => True) (fun n => by
    simp (disch := omega) only [lX4_lendersTo, qX4_lendersTo, tX4_lendersTo_4, uX4_lendersTo_4, h.2.1.1, zl0, zl1, z_le, hN, Int.le_refl, if_true, if_false, true_and, and_true, not_true, not_false_eq_true, false_implies, true_implies, imp_self, and_self, and_false, false_and, or_true, true_or, or_false, false_or, ite_self, implies_true]))) (by omega)
  exact ⟨e1, r1⟩
theorem q_chain (h : LdR s 31 5 g) (h2 : RR s g) (hw : WF g) (a1 a2 : Int32) : rX11_chain s a1 a2 ∧ rX12_chain s a1 a2 ∧ vX11_chain s a1 a2 = vX12_chain s a1 a2 ∧ mX12_chain s a1 a2 = Th s := by
  obtain ⟨a, ha, rfl⟩ := z_ex a1
  obtain ⟨b, hb, rfl⟩ := z_ex a2
  have h3 := Th_R h2
  have h0 := hw.w0
  unfold rX11_chain rX12_chain vX11_chain vX12_chain mX12_chain fX11_chain fX12_chain
  rcases tf (bdyZ g a) with c1 | c1
  · rcases tf (bdyZ g b) with c2 | c2
    · have hab : bdyZ g a := of_eq_true c1
      have hbb : bdyZ g b := of_eq_true c2
      have hha : ∀ i, hasZ (chR g a i) b ↔ (chR g a i).testBit b.toNat = true := fun i => by
        have := hasZ_n (x := chR g a i) (b := b) (by omega) (by have := (chR_b hw hab i).1; omega) (by omega) (by omega)
        rwa [Int.toNat_natCast] at this
      have hs1 := ST_run (B := 1) 9 (fst1 (fun i => (chR g a i).testBit b.toNat)) (fun _ => zI (-1)) (fun v => v) (fun i a' n => lX11_chain n s (zI a) (zI b) (zI (chR g a i : Int)) (zI (i : Int))) (fun i a' n => qX11_chain n s (zI a) (zI b) (zI (chR g a i : Int)) (zI (i : Int))) (by
        intro i a' hi
        obtain ⟨e, r⟩ := y_lendersTo h hw (chR_b hw hab i).1
        have hh := hha i
        have n1 : (9 ≤ (i : Int)) = False := eq_false (by omega)
        unfold fst1
        by_cases hq : (chR g a i).testBit b.toNat = true
        · rw [if_pos hq]
          have k1 : hasZ (chR g a i) b = True := eq_true (hh.mpr hq)
          refine ⟨1, by decide, fun n => ?_⟩
          simp (disch := omega) only [lX11_chain, qX11_chain, tX11_chain_31, uX11_chain_31, zl0, zl1, zl9, z_add, z_le, z_eq, c_isIn, e, r, k1, n1, bI_T, bI_F, bI_z, Int.reduceAdd, Int.reduceSub, Int.reduceMul, Int.reduceNeg, Int.reduceLT, Int.reduceLE, Int.reduceToNat, Int.reduceEq, if_true, if_false, true_and, and_true, not_true, not_false_eq_true, false_implies, true_implies, imp_self, and_self, and_false, false_and, or_true, true_or, or_false, false_or, ite_self, implies_true]
        · rw [if_neg hq]
          have k1 : hasZ (chR g a i) b = False := eq_false (fun hc => hq (hh.mp hc))
          refine ⟨1, by decide, fun n => ?_⟩
          show _ = lX11_chain n s (zI a) (zI b) (zI ((chR g a i ||| fold (ltS g (chR g a i)) (g 34).toNat 0 : Nat) : Int)) (zI ((i + 1 : Nat) : Int)) ∧ (qX11_chain n s (zI a) (zI b) (zI ((chR g a i ||| fold (ltS g (chR g a i)) (g 34).toNat 0 : Nat) : Int)) (zI ((i + 1 : Nat) : Int)) → _)
          simp (disch := omega) only [lX11_chain, qX11_chain, tX11_chain_31, uX11_chain_31, zl0, zl1, zl9, z_add, z_le, z_eq, c_isIn, e, r, k1, n1, zN_or, bI_T, bI_F, bI_z, Int.natCast_succ, Int.reduceAdd, Int.reduceSub, Int.reduceMul, Int.reduceNeg, Int.reduceLT, Int.reduceLE, Int.reduceToNat, Int.reduceEq, if_true, if_false, true_and, and_true, not_true, not_false_eq_true, false_implies, true_implies, imp_self, and_self, and_false, false_and, or_true, true_or, or_false, false_or, ite_self, implies_true]) (by
        intro a'
        refine ⟨1, by decide, fun n => ?_⟩
        simp (disch := omega) only [lX11_chain, qX11_chain, tX11_chain_31, uX11_chain_31, show (((9 : Nat) : Int)) = 9 from rfl, zl0, zl1, zl9, z_neg, z_le, Int.le_refl, Int.reduceAdd, Int.reduceSub, Int.reduceMul, Int.reduceNeg, Int.reduceLT, Int.reduceLE, Int.reduceToNat, Int.reduceEq, if_true, if_false, true_and, and_true, not_true, not_false_eq_true, false_implies, true_implies, imp_self, and_self, and_false, false_and, or_true, true_or, or_false, false_or, ite_self, implies_true]) 9 0 () (by omega)
      have hNb : ((g 0).toNat : Int) = g 0 := by omega
      have n00 : gI (Th s) 250 (zI 0).toNatClampNeg = zI (g 0) := h3 0
      have hN : ((g 34).toNat : Int) = g 34 := by omega
      have hs2 := ST_run (B := 62) ((g 0).toNat + 1) (fst1 (fun i => (chR g a i).testBit b.toNat)) (fun _ => zI (-1)) (fun v => (v, Th s)) (fun i a' n => (lX12_chain n).1 (Th s) (zI a) (zI b) (zI (chR g a i : Int)) (zI (i : Int))) (fun i a' n => (qX12_chain n).1 (Th s) (zI a) (zI b) (zI (chR g a i : Int)) (zI (i : Int))) (by
        intro i a' hi
        have hh := hha i
        have hR := (chR_b hw hab i).1
        have n1 : (g 0 < (i : Int)) = False := eq_false (by omega)
        have hin : ST 60 (fun n => (lX12_chain n).2 (Th s) (zI a) (zI b) (zI (chR g a i : Int)) (zI (i : Int)) (zI (chR g a i : Int)) (zI 0)) (fun n => (qX12_chain n).2 (Th s) (zI a) (zI b) (zI (chR g a i : Int)) (zI (i : Int)) (zI (chR g a i : Int)) (zI 0)) (fun n => (lX12_chain n).2 (Th s) (zI a) (zI b) (zI (chR g a i : Int)) (zI (i : Int)) (zI (chR g a (i + 1) : Int)) (zI (g 34))) (fun n => (qX12_chain n).2 (Th s) (zI a) (zI b) (zI (chR g a i : Int)) (zI (i : Int)) (zI (chR g a (i + 1) : Int)) (zI (g 34))) := by
          have hit := ST_it0 (B := 1) (g 34).toNat (fun d n => (lX12_chain n).2 (Th s) (zI a) (zI b) (zI (chR g a i : Int)) (zI (i : Int)) (zI (fold (ltS g (chR g a i)) d (chR g a i) : Nat)) (zI (d : Int))) (fun d n => (qX12_chain n).2 (Th s) (zI a) (zI b) (zI (chR g a i : Int)) (zI (i : Int)) (zI (fold (ltS g (chR g a i)) d (chR g a i) : Nat)) (zI (d : Int))) (by
            intro d hd
            have h := h3
            have s_ : SM := s
            have hdl : dlZ g (d : Int) := by omega
            have hwd := hw.wd hdl
            have hn1 : (g 34 ≤ (d : Int)) = False := eq_false (by omega)
            have e_op := x_isOpen h3 hw (d := (d : Int)) (by omega)
            have r_op := x_isOpen_r h3 hw (d := (d : Int)) (by omega)
            have o0 := x_of h3 (d := (d : Int)) (w := 0) (by omega) (by omega)
            have o1 := x_of h3 (d := (d : Int)) (w := 1) (by omega) (by omega)
            have p0 := x_of_r (Th s) (d := (d : Int)) (w := 0) (by omega) (by omega)
            have p1 := x_of_r (Th s) (d := (d : Int)) (w := 1) (by omega) (by omega)
            show ST 1 _ _ (fun n => (lX12_chain n).2 (Th s) (zI a) (zI b) (zI (chR g a i : Int)) (zI (i : Int)) (zI (ltS g (chR g a i) d (fold (ltS g (chR g a i)) d (chR g a i)) : Nat)) (zI ((d + 1 : Nat) : Int))) (fun n => (qX12_chain n).2 (Th s) (zI a) (zI b) (zI (chR g a i : Int)) (zI (i : Int)) (zI (ltS g (chR g a i) d (fold (ltS g (chR g a i)) d (chR g a i)) : Nat)) (zI ((d + 1 : Nat) : Int)))
            generalize fold (ltS g (chR g a i)) d (chR g a i) = x
            have hb := hasZ_n (x := chR g a i) (b := oZ g d 1) (by omega) (by omega) (by omega) (by omega)
            rw [Int.toNat_natCast] at hb
            have hsh := zN_shl (oZ g d 0).toNat (by omega)
            rw [Int.toNat_of_nonneg (by omega)] at hsh
            simp only [zl1] at hsh
            unfold ltS
            simp only [← hb]
            rcases tf (opZ g d) with k0 | k0 <;> rcases tf (hasZ (chR g a i) (oZ g d 1)) with k1 | k1
            all_goals
              (refine ⟨1, by decide, fun n => ?_⟩; dsimp only []; rw [lpX12_chain_58 (n), qpX12_chain_58 (n)]; generalize hlK : lX12_chain (n) = K; generalize hqK : qX12_chain (n) = Q; simp (disch := omega) only [tX12_chain_58, uX12_chain_58, x_34 h3, zl0, zl1, z_add, z_le, z_eq, e_op, r_op, o0, o1, p0, p1, x_has, hsh, zN_or, k0, k1, hn1, bI_T, bI_F, bI_z, Int.natCast_succ, Int.reduceAdd, Int.reduceSub, Int.reduceMul, Int.reduceNeg, Int.reduceLT, Int.reduceLE, Int.reduceToNat, Int.reduceEq, if_true, if_false, true_and, and_true, not_true, not_false_eq_true, false_implies, true_implies, imp_self, and_self, and_false, false_and, or_true, true_or, or_false, false_or, ite_self, implies_true]; done)
            )
          simp only [hN] at hit
          rw [show chR g a (i + 1) = fold (ltS g (chR g a i)) (g 34).toNat (chR g a i) from (lt_or g (chR g a i) (g 34).toNat (chR g a i)).symm]
          exact ST_mono hit (by omega)
        unfold fst1
        by_cases hq : (chR g a i).testBit b.toNat = true
        · rw [if_pos hq]
          have k1 : hasZ (chR g a i) b = True := eq_true (hh.mpr hq)
          refine ST_mono (B1 := 1) ?_ (by omega)
          (refine ⟨1, by decide, fun n => ?_⟩; dsimp only []; rw [lpX12_chain_30 (n), qpX12_chain_30 (n)]; generalize hlK : lX12_chain (n) = K; generalize hqK : qX12_chain (n) = Q; simp (disch := omega) only [tX12_chain_30, uX12_chain_30, n00, zl0, zl1, zl9, z_add, z_lt, z_le, z_eq, x_has, k1, n1, bI_T, bI_F, bI_z, Int.reduceAdd, Int.reduceSub, Int.reduceMul, Int.reduceNeg, Int.reduceLT, Int.reduceLE, Int.reduceToNat, Int.reduceEq, if_true, if_false, true_and, and_true, not_true, not_false_eq_true, false_implies, true_implies, imp_self, and_self, and_false, false_and, or_true, true_or, or_false, false_or, ite_self, implies_true]; done)
        · rw [if_neg hq]
          have k1 : hasZ (chR g a i) b = False := eq_false (fun hc => hq (hh.mp hc))
          refine ST_mono (ST_trans (B1 := 1) ?_ (ST_trans hin (B2 := 1) ?_)) (by omega)
          ·
            (refine ⟨1, by decide, fun n => ?_⟩; dsimp only []; rw [lpX12_chain_30 (n), qpX12_chain_30 (n)]; generalize hlK : lX12_chain (n) = K; generalize hqK : qX12_chain (n) = Q; simp (disch := omega) only [tX12_chain_30, uX12_chain_30, n00, zl0, zl1, zl9, z_add, z_lt, z_le, z_eq, x_has, k1, n1, bI_T, bI_F, bI_z, Int.reduceAdd, Int.reduceSub, Int.reduceMul, Int.reduceNeg, Int.reduceLT, Int.reduceLE, Int.reduceToNat, Int.reduceEq, if_true, if_false, true_and, and_true, not_true, not_false_eq_true, false_implies, true_implies, imp_self, and_self, and_false, false_and, or_true, true_or, or_false, false_or, ite_self, implies_true]; done)
          ·
            (refine ⟨1, by decide, fun n => ?_⟩; dsimp only []; rw [lpX12_chain_58 (n), qpX12_chain_58 (n)]; generalize hlK : lX12_chain (n) = K; generalize hqK : qX12_chain (n) = Q; simp (disch := omega) only [tX12_chain_58, uX12_chain_58, x_34 h3, zl0, zl1, z_add, z_le, Int.le_refl, Int.natCast_succ, Int.reduceAdd, Int.reduceSub, Int.reduceMul, Int.reduceNeg, Int.reduceLT, Int.reduceLE, Int.reduceToNat, Int.reduceEq, if_true, if_false, true_and, and_true, not_true, not_false_eq_true, false_implies, true_implies, imp_self, and_self, and_false, false_and, or_true, true_or, or_false, false_or, ite_self, implies_true]; done)
        ) (by
        intro a'
        have n1 : (g 0 < ((((g 0).toNat + 1 : Nat)) : Int)) = True := eq_true (by omega)
        refine ST_mono (B1 := 1) ?_ (by omega)
        (refine ⟨1, by decide, fun n => ?_⟩; dsimp only []; rw [lpX12_chain_30 (n), qpX12_chain_30 (n)]; generalize hlK : lX12_chain (n) = K; generalize hqK : qX12_chain (n) = Q; simp (disch := omega) only [tX12_chain_30, uX12_chain_30, n00, zl0, zl1, zl9, z_neg, z_add, z_lt, z_le, z_eq, n1, Int.reduceAdd, Int.reduceSub, Int.reduceMul, Int.reduceNeg, Int.reduceLT, Int.reduceLE, Int.reduceToNat, Int.reduceEq, if_true, if_false, true_and, and_true, not_true, not_false_eq_true, false_implies, true_implies, imp_self, and_self, and_false, false_and, or_true, true_or, or_false, false_or, ite_self, implies_true]; done)
        ) ((g 0).toNat + 1) 0 () (by omega)
      obtain ⟨e1, r1⟩ := ST_fu hs1 (by omega)
      obtain ⟨e2, r2⟩ := ST_fu hs2 (by omega)
      obtain ⟨m, hm, hfix⟩ := chR_fix hw hab
      have hst := chR_st hfix
      have hmore : ∀ r', (g 0).toNat ≤ r' → run (fst1 (fun i => (chR g a i).testBit b.toNat)) (fun _ => zI (-1)) (g 0).toNat 0 () = run (fst1 (fun i => (chR g a i).testBit b.toNat)) (fun _ => zI (-1)) r' 0 () := fun r' hr => run_more _ _ _ 0 (fun j h1 h2 h3 => ⟨m, by omega, by omega, by
        have := hst (j - m)
        rw [show m + (j - m) = j by omega] at this
        have h3' : (chR g a j).testBit b.toNat = true := h3
        rw [this] at h3'; exact h3'⟩) hr
      rw [← hmore 9 (by omega)] at e1
      rw [← hmore ((g 0).toNat + 1) (by omega)] at e2
      have hsh := zN_shl a.toNat (by omega)
      rw [Int.toNat_of_nonneg hab.1] at hsh
      have hc0 : (chR g a 0 : Int) = ((2 ^ a.toNat : Nat) : Int) := rfl
      simp only [hc0, Int.natCast_zero, Int.ofNat_zero, Int.cast_ofNat_Int] at e1 e2 r1 r2
      simp only [zl1] at hsh
      simp (disch := omega) only [y_hasBody h.1 hw ha, x_isBody h3 hw ha, y_hasBody h.1 hw hb, x_isBody h3 hw hb, c1, c2, zl0, zl1, hsh, bI_T, bI_F, bI_z, z_eq, e1, r1, e2, r2, Int.reduceAdd, Int.reduceSub, Int.reduceMul, Int.reduceNeg, Int.reduceLT, Int.reduceLE, Int.reduceToNat, Int.reduceEq, if_true, if_false, true_and, and_true, not_true, not_false_eq_true, false_implies, true_implies, imp_self, and_self, and_false, false_and, or_true, true_or, or_false, false_or, ite_self, implies_true]
    · simp (disch := omega) only [y_hasBody h.1 hw ha, x_isBody h3 hw ha, y_hasBody h.1 hw hb, x_isBody h3 hw hb, c1, c2, zl0, zl1, z_neg, bI_T, bI_F, bI_z, z_eq, Int.reduceAdd, Int.reduceSub, Int.reduceMul, Int.reduceNeg, Int.reduceLT, Int.reduceLE, Int.reduceToNat, Int.reduceEq, if_true, if_false, true_and, and_true, not_true, not_false_eq_true, false_implies, true_implies, imp_self, and_self, and_false, false_and, or_true, true_or, or_false, false_or, ite_self, implies_true]
  · simp (disch := omega) only [y_hasBody h.1 hw ha, x_isBody h3 hw ha, c1, zl0, zl1, z_neg, bI_F, bI_z, z_eq, Int.reduceAdd, Int.reduceSub, Int.reduceMul, Int.reduceNeg, Int.reduceLT, Int.reduceLE, Int.reduceToNat, Int.reduceEq, if_true, if_false, true_and, and_true, not_true, not_false_eq_true, false_implies, true_implies, imp_self, and_self, and_false, false_and, or_true, true_or, or_false, false_or, ite_self, implies_true]
end
