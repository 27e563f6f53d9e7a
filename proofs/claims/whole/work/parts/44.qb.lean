-- needs: 42.qa
section
variable {s t : SM} {g : Nat → Int} {L P : Nat}
/-! mark -/
abbrev mkP (g : Nat → Int) (b m : Int) : Prop := oZ g (m / 2) (6 + m % 2) = b
theorem mkP0 (g : Nat → Int) (b : Int) (d : Nat) : mkP g b ((2 * d : Nat) : Int) ↔ oZ g d 6 = b := by
  unfold mkP
  rw [show (((2 * d : Nat) : Int) / 2) = d by omega, show (6 + ((2 * d : Nat) : Int) % 2) = 6 by omega]
theorem mkP1 (g : Nat → Int) (b : Int) (d : Nat) : mkP g b ((2 * d + 1 : Nat) : Int) ↔ oZ g d 7 = b := by
  unfold mkP
  rw [show (((2 * d + 1 : Nat) : Int) / 2) = d by omega, show (6 + ((2 * d + 1 : Nat) : Int) % 2) = 7 by omega]
theorem x_mrow (h : RR s g) (hw : WF g) {m : Nat} (hm : (m : Int) < 2 * g 34) : vX12_of s (zI (m : Int) / zI 2) (zI 6 + (zI (m : Int) - zI (m : Int) / zI 2 * zI 2)) = zI (oZ g ((m : Int) / 2) (6 + (m : Int) % 2)) ∧ rX12_of s (zI (m : Int) / zI 2) (zI 6 + (zI (m : Int) - zI (m : Int) / zI 2 * zI 2)) := by
  have h0 := hw.w0
  rw [z_div (by omega) (by omega) (by omega), Int.tdiv_eq_ediv_of_nonneg (by omega), z_mul, z_sub, z_add, show (6 + ((m : Int) - (m : Int) / 2 * 2)) = 6 + (m : Int) % 2 by omega]
  exact ⟨x_of h (by omega) (by omega), x_of_r s (by omega) (by omega)⟩
theorem x_markOf (h : RR s g) (hw : WF g) {b : Int} (hb : IR b) (k : Int32) : vX12_markOf s (zI b) k = run (stK (mkP g b) k (fun m => zI (m : Int))) (fiK k) (2 * (g 34).toNat) 0 0 ∧ rX12_markOf s (zI b) k := by
  have h0 := hw.w0
  have hN : ((g 34).toNat : Int) = g 34 := by omega
  have hM : ((2 * (g 34).toNat : Nat) : Int) = 2 * g 34 := by omega
  have hs := ST_run (B := 1) (2 * (g 34).toNat) (stK (mkP g b) k (fun m => zI (m : Int))) (fiK k) (fun v => v) (fun d a n => lX12_markOf n s (zI b) k (zI (a : Int)) (zI (d : Int))) (fun d a n => qX12_markOf n s (zI b) k (zI (a : Int)) (zI (d : Int))) (by
    intro m a hd
    obtain ⟨e, r⟩ := x_mrow h hw (m := m) (by omega)
    have hn1 : (2 * g 34 ≤ (m : Int)) = False := eq_false (by omega)
    have hwd := hw.wd (show dlZ g ((m : Int) / 2) by omega)
    have hb3 : IR (oZ g ((m : Int) / 2) (6 + (m : Int) % 2)) := by
      rcases (show (m : Int) % 2 = 0 ∨ (m : Int) % 2 = 1 by omega) with q | q <;> rw [q] <;> simp only [Int.reduceAdd, Int.add_zero] <;> omega
    unfold stK mkP
    rcases tf (oZ g ((m : Int) / 2) (6 + (m : Int) % 2) = b) with k1 | k1 <;> rcases tf (zI (a : Int) = k) with k2 | k2 <;>
      simp only [k1, k2, if_true, if_false, true_and, and_true, not_true, not_false_eq_true, false_implies, true_implies, imp_self, and_self] <;>
      refine ⟨1, by decide, fun n => ?_⟩ <;>
      simp (disch := omega) only [lX12_markOf, qX12_markOf, tX12_markOf_5, uX12_markOf_5, x_34 h, zl0, zl1, zl2, zl6, z_le, hn1, z_mul, z_add, Int.mul_comm, e, r, z_eq, k1, k2, Int.natCast_succ, Int.reduceAdd, Int.reduceSub, Int.reduceMul, Int.reduceNeg, Int.reduceLT, Int.reduceLE, Int.reduceToNat, Int.reduceEq, if_true, if_false, true_and, and_true, not_true, not_false_eq_true, false_implies, true_implies, imp_self, and_self, and_false, false_and, or_true, true_or, or_false, false_or, ite_self, implies_true]) (by
    intro a
    refine ⟨1, by decide, fun n => ?_⟩
    rcases tf (k = zI (-1)) with hk | hk <;>
    simp (disch := omega) only [lX12_markOf, qX12_markOf, tX12_markOf_5, uX12_markOf_5, x_34 h, zl0, zl1, zl2, zl6, z_neg, z_mul, z_le, hM, Int.le_refl, fiK, hk, if_true, if_false, true_and, and_true, not_true, not_false_eq_true, false_implies, true_implies, imp_self, and_self, and_false, false_and, or_true, true_or, or_false, false_or, ite_self, implies_true]) (2 * (g 34).toNat) 0 0 (by omega)
  exact ST_fu hs (by omega)
def two {α β : Type} (st : Nat → α → β ⊕ α) (d : Nat) (a : α) : β ⊕ α := match st (2 * d) a with | .inl v => .inl v | .inr a' => st (2 * d + 1) a'
theorem run_tw {α β : Type} (st : Nat → α → β ⊕ α) (fin : α → β) (r d : Nat) (a : α) : run (two st) fin r d a = run st fin (2 * r) (2 * d) a := run_two st fin r d a
theorem y_mark_l (h : LdR s 31 5 g) (hw : WF g) {b : Int} (hb : IR b) (k : Int32) : (lX11_mark FU).1 s (zI b) k (zI 0) (zI 0) = run (stK (mkP g b) k (fun m => zI (m : Int))) (fun _ => zI (-1)) (2 * (g 34).toNat) 0 0 ∧ (qX11_mark FU).1 s (zI b) k (zI 0) (zI 0) := by
  have h0 := hw.w0
  have hN : ((g 34).toNat : Int) = g 34 := by omega
  have e0 := run_tw (stK (mkP g b) k (fun m => zI (m : Int))) (fun _ => zI (-1)) (g 34).toNat 0 0
  rw [Nat.mul_zero] at e0
  rw [← e0]
  have hs := ST_run (B := 4) (g 34).toNat (two (stK (mkP g b) k (fun m => zI (m : Int)))) (fun _ => zI (-1)) (fun v => v) (fun d a n => (lX11_mark n).1 s (zI b) k (zI (a : Int)) (zI (d : Int))) (fun d a n => (qX11_mark n).1 s (zI b) k (zI (a : Int)) (zI (d : Int))) (by
    intro d a hd
    have hdl : dlZ g (d : Int) := by omega
    have hwd := hw.wd hdl
    have hn1 : (g 34 ≤ (d : Int)) = False := eq_false (by omega)
    have hn2 : ((d : Int) < g 34) = True := eq_true (by omega)
    obtain ⟨f0, f1, f2, f3, f4, f5, f6, f7, f8⟩ := n_f h.2 hw hdl
    have c_vp := y_vp hw hdl
    obtain ⟨c_op, cr_op⟩ := y_isOpen (P := 5) h.2 hw (d := (d : Int)) (by omega)
    obtain ⟨c_val, cr_val⟩ := y_valueOf h hw hdl
    simp only [Nat.reduceAdd] at f0 f1 f2 f3 f4 f5 f6 f7 f8
    obtain ⟨e6, r6⟩ := y_bearer (P := 5) h.2 hw hdl (Or.inl rfl : (0 : Int) = 0 ∨ _)
    obtain ⟨e7, r7⟩ := y_bearer (P := 5) h.2 hw hdl (Or.inr rfl : (1 : Int) = 0 ∨ _)
    have m0 := propext (mkP0 g b d)
    have m1 : mkP g b (((2 * d : Nat) : Int) + 1) = (oZ g d 7 = b) := by rw [← Int.natCast_succ]; exact propext (mkP1 g b d)
    have v0 : ((2 * d : Nat) : Int) = 2 * (d : Int) := by omega
    have v1 : ((2 * d + 1 : Nat) : Int) = 2 * (d : Int) + 1 := by omega
    unfold two stK
    rcases tf (oZ g d 6 = b) with k1 | k1 <;> rcases tf (oZ g d 7 = b) with k2 | k2 <;> rcases tf (zI (a : Int) = k) with k3 | k3 <;> rcases tf (zI ((a : Int) + 1) = k) with k4 | k4 <;>
      simp only [m0, m1, Int.natCast_succ, k1, k2, k3, k4, if_true, if_false, true_and, and_true, not_true, not_false_eq_true, false_implies, true_implies, imp_self, and_self]
    all_goals first
      | (refine ⟨2, by decide, fun n => ?_⟩; dsimp only []; rw [show n + 2 = n + 1 + 1 from rfl]; rw [lpX11_mark_34 (n + 1), qpX11_mark_34 (n + 1)]; generalize hlK : lX11_mark (n + 1) = K; generalize hqK : qX11_mark (n + 1) = Q; simp (disch := omega) only [tX11_mark_34, uX11_mark_34, h.2.1.1, zl0, zl1, zl2, z_add, z_mul, z_le, z_lt, z_eq, e6, r6, e7, r7, k1, k2, k3, k4, v0, v1, hn1, Int.natCast_succ, Int.reduceAdd, Int.reduceSub, Int.reduceMul, Int.reduceNeg, Int.reduceLT, Int.reduceLE, Int.reduceToNat, Int.reduceEq, i_a0, i_s0, i_or0, Int.natCast_succ, Int.sub_sub, Int.add_assoc, Int.add_zero, Int.zero_add, Int.sub_zero, if_true, if_false, true_and, and_true, not_true, not_false_eq_true, false_implies, true_implies, imp_self, and_self, and_false, false_and, or_true, true_or, or_false, false_or, ite_self, implies_true]; subst hlK hqK; rw [lpX11_mark_49 (n), qpX11_mark_49 (n)]; generalize hlK : lX11_mark (n) = K; generalize hqK : qX11_mark (n) = Q; simp (disch := omega) only [tX11_mark_49, uX11_mark_49, h.2.1.1, zl0, zl1, zl2, z_add, z_mul, z_le, z_lt, z_eq, e6, r6, e7, r7, k1, k2, k3, k4, v0, v1, hn1, Int.natCast_succ, Int.reduceAdd, Int.reduceSub, Int.reduceMul, Int.reduceNeg, Int.reduceLT, Int.reduceLE, Int.reduceToNat, Int.reduceEq, i_a0, i_s0, i_or0, Int.natCast_succ, Int.sub_sub, Int.add_assoc, Int.add_zero, Int.zero_add, Int.sub_zero, if_true, if_false, true_and, and_true, not_true, not_false_eq_true, false_implies, true_implies, imp_self, and_self, and_false, false_and, or_true, true_or, or_false, false_or, ite_self, implies_true]; done)
      | (refine ⟨3, by decide, fun n => ?_⟩; dsimp only []; rw [show n + 3 = n + 2 + 1 from rfl]; rw [lpX11_mark_34 (n + 2), qpX11_mark_34 (n + 2)]; generalize hlK : lX11_mark (n + 2) = K; generalize hqK : qX11_mark (n + 2) = Q; simp (disch := omega) only [tX11_mark_34, uX11_mark_34, h.2.1.1, zl0, zl1, zl2, z_add, z_mul, z_le, z_lt, z_eq, e6, r6, e7, r7, k1, k2, k3, k4, v0, v1, hn1, Int.natCast_succ, Int.reduceAdd, Int.reduceSub, Int.reduceMul, Int.reduceNeg, Int.reduceLT, Int.reduceLE, Int.reduceToNat, Int.reduceEq, i_a0, i_s0, i_or0, Int.natCast_succ, Int.sub_sub, Int.add_assoc, Int.add_zero, Int.zero_add, Int.sub_zero, if_true, if_false, true_and, and_true, not_true, not_false_eq_true, false_implies, true_implies, imp_self, and_self, and_false, false_and, or_true, true_or, or_false, false_or, ite_self, implies_true]; subst hlK hqK; rw [show n + 2 = n + 1 + 1 from rfl]; rw [lpX11_mark_49 (n + 1), qpX11_mark_49 (n + 1)]; generalize hlK : lX11_mark (n + 1) = K; generalize hqK : qX11_mark (n + 1) = Q; simp (disch := omega) only [tX11_mark_49, uX11_mark_49, h.2.1.1, zl0, zl1, zl2, z_add, z_mul, z_le, z_lt, z_eq, e6, r6, e7, r7, k1, k2, k3, k4, v0, v1, hn1, Int.natCast_succ, Int.reduceAdd, Int.reduceSub, Int.reduceMul, Int.reduceNeg, Int.reduceLT, Int.reduceLE, Int.reduceToNat, Int.reduceEq, i_a0, i_s0, i_or0, Int.natCast_succ, Int.sub_sub, Int.add_assoc, Int.add_zero, Int.zero_add, Int.sub_zero, if_true, if_false, true_and, and_true, not_true, not_false_eq_true, false_implies, true_implies, imp_self, and_self, and_false, false_and, or_true, true_or, or_false, false_or, ite_self, implies_true]; subst hlK hqK; rw [lpX11_mark_49 (n), qpX11_mark_49 (n)]; generalize hlK : lX11_mark (n) = K; generalize hqK : qX11_mark (n) = Q; simp (disch := omega) only [tX11_mark_49, uX11_mark_49, h.2.1.1, zl0, zl1, zl2, z_add, z_mul, z_le, z_lt, z_eq, e6, r6, e7, r7, k1, k2, k3, k4, v0, v1, hn1, Int.natCast_succ, Int.reduceAdd, Int.reduceSub, Int.reduceMul, Int.reduceNeg, Int.reduceLT, Int.reduceLE, Int.reduceToNat, Int.reduceEq, i_a0, i_s0, i_or0, Int.natCast_succ, Int.sub_sub, Int.add_assoc, Int.add_zero, Int.zero_add, Int.sub_zero, if_true, if_false, true_and, and_true, not_true, not_false_eq_true, false_implies, true_implies, imp_self, and_self, and_false, false_and, or_true, true_or, or_false, false_or, ite_self, implies_true]; done)
      | (refine ⟨4, by decide, fun n => ?_⟩; dsimp only []; rw [show n + 4 = n + 3 + 1 from rfl]; rw [lpX11_mark_34 (n + 3), qpX11_mark_34 (n + 3)]; generalize hlK : lX11_mark (n + 3) = K; generalize hqK : qX11_mark (n + 3) = Q; simp (disch := omega) only [tX11_mark_34, uX11_mark_34, h.2.1.1, zl0, zl1, zl2, z_add, z_mul, z_le, z_lt, z_eq, e6, r6, e7, r7, k1, k2, k3, k4, v0, v1, hn1, Int.natCast_succ, Int.reduceAdd, Int.reduceSub, Int.reduceMul, Int.reduceNeg, Int.reduceLT, Int.reduceLE, Int.reduceToNat, Int.reduceEq, i_a0, i_s0, i_or0, Int.natCast_succ, Int.sub_sub, Int.add_assoc, Int.add_zero, Int.zero_add, Int.sub_zero, if_true, if_false, true_and, and_true, not_true, not_false_eq_true, false_implies, true_implies, imp_self, and_self, and_false, false_and, or_true, true_or, or_false, false_or, ite_self, implies_true]; subst hlK hqK; rw [show n + 3 = n + 2 + 1 from rfl]; rw [lpX11_mark_49 (n + 2), qpX11_mark_49 (n + 2)]; generalize hlK : lX11_mark (n + 2) = K; generalize hqK : qX11_mark (n + 2) = Q; simp (disch := omega) only [tX11_mark_49, uX11_mark_49, h.2.1.1, zl0, zl1, zl2, z_add, z_mul, z_le, z_lt, z_eq, e6, r6, e7, r7, k1, k2, k3, k4, v0, v1, hn1, Int.natCast_succ, Int.reduceAdd, Int.reduceSub, Int.reduceMul, Int.reduceNeg, Int.reduceLT, Int.reduceLE, Int.reduceToNat, Int.reduceEq, i_a0, i_s0, i_or0, Int.natCast_succ, Int.sub_sub, Int.add_assoc, Int.add_zero, Int.zero_add, Int.sub_zero, if_true, if_false, true_and, and_true, not_true, not_false_eq_true, false_implies, true_implies, imp_self, and_self, and_false, false_and, or_true, true_or, or_false, false_or, ite_self, implies_true]; subst hlK hqK; rw [show n + 2 = n + 1 + 1 from rfl]; rw [lpX11_mark_49 (n + 1), qpX11_mark_49 (n + 1)]; generalize hlK : lX11_mark (n + 1) = K; generalize hqK : qX11_mark (n + 1) = Q; simp (disch := omega) only [tX11_mark_49, uX11_mark_49, h.2.1.1, zl0, zl1, zl2, z_add, z_mul, z_le, z_lt, z_eq, e6, r6, e7, r7, k1, k2, k3, k4, v0, v1, hn1, Int.natCast_succ, Int.reduceAdd, Int.reduceSub, Int.reduceMul, Int.reduceNeg, Int.reduceLT, Int.reduceLE, Int.reduceToNat, Int.reduceEq, i_a0, i_s0, i_or0, Int.natCast_succ, Int.sub_sub, Int.add_assoc, Int.add_zero, Int.zero_add, Int.sub_zero, if_true, if_false, true_and, and_true, not_true, not_false_eq_true, false_implies, true_implies, imp_self, and_self, and_false, false_and, or_true, true_or, or_false, false_or, ite_self, implies_true]; subst hlK hqK; rw [lpX11_mark_49 (n), qpX11_mark_49 (n)]; generalize hlK : lX11_mark (n) = K; generalize hqK : qX11_mark (n) = Q; simp (disch := omega) only [tX11_mark_49, uX11_mark_49, h.2.1.1, zl0, zl1, zl2, z_add, z_mul, z_le, z_lt, z_eq, e6, r6, e7, r7, k1, k2, k3, k4, v0, v1, hn1, Int.natCast_succ, Int.reduceAdd, Int.reduceSub, Int.reduceMul, Int.reduceNeg, Int.reduceLT, Int.reduceLE, Int.reduceToNat, Int.reduceEq, i_a0, i_s0, i_or0, Int.natCast_succ, Int.sub_sub, Int.add_assoc, Int.add_zero, Int.zero_add, Int.sub_zero, if_true, if_false, true_and, and_true, not_true, not_false_eq_true, false_implies, true_implies, imp_self, and_self, and_false, false_and, or_true, true_or, or_false, false_or, ite_self, implies_true]; done)
    ) (by
    intro a
    refine ⟨1, by decide, fun n => ?_⟩
    simp (disch := omega) only [↓lpX11_mark_34, ↓qpX11_mark_34, tX11_mark_34, uX11_mark_34, h.2.1.1, zl0, zl1, z_neg, z_le, hN, Int.le_refl, if_true, if_false, true_and, and_true, not_true, not_false_eq_true, false_implies, true_implies, imp_self, and_self, and_false, false_and, or_true, true_or, or_false, false_or, ite_self, implies_true]) (g 34).toNat 0 0 (by omega)
  exact ST_fu hs (by omega)
theorem run_fin {α β : Type} (st : Nat → α → β ⊕ α) (f1 f2 : α → β) (h : ∀ a, f1 a = f2 a) : ∀ r d a, run st f1 r d a = run st f2 r d a := by
  intro r
  induction r with
  | zero => intro d a; exact h a
  | succ r ih => intro d a; unfold run; cases st d a with | inl v => rfl | inr a' => exact ih (d + 1) a'
theorem stMO_z (g : Nat → Int) (b y : Int) (d : Nat) (a : Int32) : stMO g b y d a = a + zI (moZ g b y d) := by
  unfold stMO moZ
  by_cases k1 : oZ g d 6 = b <;> by_cases k2 : oZ g d 7 = b <;> by_cases k3 : y < oZ g d 4 <;> have k4 : (oZ g d 4 ≤ y) ↔ ¬ (y < oZ g d 4) := by omega
  all_goals simp only [k1, k2, k3, k4, if_true, if_false, true_and, false_and, not_true, not_false_eq_true, i_a0, Int.add_zero, Int.zero_add, Int.reduceAdd, not_false_eq_true]
  all_goals try (rw [Int32.add_assoc, z_add]; rfl)
theorem mo_mk {g : Nat → Int} (hw : WF g) (b : Int) (n : Nat) (hn : (n : Int) ≤ g 34) : sumZ (fun m => if mkP g b m then 1 else 0) (2 * n) = sumZ (moZ g b 99) n := by
  induction n with
  | zero => rfl
  | succ n ih =>
    have hd := (hw.wd (show dlZ g n by omega)).2.2.2.2.1
    rw [show 2 * (n + 1) = 2 * n + 1 + 1 by omega]
    simp only [sumZ]
    rw [ih (by omega), Int.add_assoc]
    congr 1
    unfold moZ
    have m0 := propext (mkP0 g b n)
    have m1 := propext (mkP1 g b n)
    simp only [m0, m1, hd.2, and_true]
/-- asked for k = NONE there is no k-th, and they are counted -/
theorem run_cnt (p : Int → Prop) [DecidablePred p] (r : Nat → Int32) : ∀ n d m, m + n ≤ 1000 → run (stK p (zI (-1)) r) (fiK (zI (-1))) n d m = zI ((m : Int) + (sumZ (fun e => if p e then 1 else 0) (d + n) - sumZ (fun e => if p e then 1 else 0) d)) := by
  intro n
  induction n with
  | zero => intro d m _; show fiK (zI (-1)) m = _; unfold fiK; rw [if_pos rfl, Nat.add_zero, Int.sub_self, Int.add_zero]
  | succ n ih =>
    intro d m hm
    unfold run stK
    have h3 : ¬ zI (m : Int) = zI (-1) := by rw [z_eq (by omega) (by omega)]; omega
    have e : d + 1 + n = d + (n + 1) := by omega
    by_cases hp : p d
    · simp only [if_pos hp, if_neg h3]; refine (ih (d + 1) (m + 1) (by omega)).trans ?_; rw [e]; simp only [sumZ, if_pos hp]; congr 1; omega
    · simp only [if_neg hp]; refine (ih (d + 1) m (by omega)).trans ?_; rw [e]; simp only [sumZ, if_neg hp]; congr 1; omega
theorem q_mark (h : LdR s 31 5 g) (h2 : RR s g) (hw : WF g) (a1 k : Int32) : rX11_mark s a1 k ∧ rX12_mark s a1 k ∧ vX11_mark s a1 k = vX12_mark s a1 k ∧ mX12_mark s a1 k = Th s := by
  obtain ⟨b, hb, rfl⟩ := z_ex a1
  obtain ⟨kk, hk, rfl⟩ := z_ex k
  have h3 := Th_R h2
  have h0 := hw.w0
  obtain ⟨e1, r1⟩ := x_markOf h3 hw hb (zI kk)
  obtain ⟨e2, r2⟩ := y_mark_l h hw hb (zI kk)
  obtain ⟨e3, r3⟩ := y_marksOn h hw hb (show IR 99 by omega)
  unfold rX11_mark rX12_mark vX11_mark vX12_mark mX12_mark fX11_mark
  rcases tf (bdyZ g b) with c1 | c1
  · by_cases q1 : kk = -1
    · subst q1
      simp (disch := omega) only [y_hasBody h.1 hw hb, x_isBody h3 hw hb, zl0, zl1, zl99, z_neg, z_lt, z_eq, c1, e1, e3, r1, r3, bI_T, bI_F, bI_z, Int.lt_irrefl, Int.reduceAdd, Int.reduceSub, Int.reduceMul, Int.reduceNeg, Int.reduceLT, Int.reduceLE, Int.reduceToNat, Int.reduceEq, if_true, if_false, true_and, and_true, not_true, not_false_eq_true, false_implies, true_implies, imp_self, and_self, and_false, false_and, or_true, true_or, or_false, false_or, ite_self, implies_true]
      have e4 := run_cnt (mkP g b) (fun m => zI (m : Int)) (2 * (g 34).toNat) 0 0 (by omega)
      rw [e4, Nat.zero_add, mo_mk hw b _ (by omega)]
      have e5 : ∀ n, fold (stMO g b 99) n (zI 0) = zI (sumZ (moZ g b 99) n) := by
        intro n
        induction n with
        | zero => rfl
        | succ n ih => show stMO g b 99 n (fold (stMO g b 99) n (zI 0)) = _; rw [stMO_z, ih, z_add]; rfl
      rw [e5]
      simp [sumZ]
    · have q2 : (kk = -1) = False := eq_false q1
      have e5 := run_fin (stK (mkP g b) (zI kk) (fun m => zI (m : Int))) (fiK (zI kk)) (fun _ => zI (-1)) (fun a => by unfold fiK; rw [if_neg (by rw [z_eq (by omega) (by omega)]; omega)]) (2 * (g 34).toNat) 0 0
      rw [← e5] at e2
      rcases tf (kk < -1) with q3 | q3
      · have e6 := run_neg (mkP g b) (fun m => zI (m : Int)) hk (of_eq_true q3) (2 * (g 34).toNat) 0 0 (by omega)
        simp (disch := omega) only [y_hasBody h.1 hw hb, x_isBody h3 hw hb, zl0, zl1, zl99, z_neg, z_lt, z_eq, c1, q2, q3, e2, r2, e6, bI_T, bI_F, bI_z, Int.lt_irrefl, Int.reduceAdd, Int.reduceSub, Int.reduceMul, Int.reduceNeg, Int.reduceLT, Int.reduceLE, Int.reduceToNat, Int.reduceEq, if_true, if_false, true_and, and_true, not_true, not_false_eq_true, false_implies, true_implies, imp_self, and_self, and_false, false_and, or_true, true_or, or_false, false_or, ite_self, implies_true]
      · simp (disch := omega) only [y_hasBody h.1 hw hb, x_isBody h3 hw hb, zl0, zl1, zl99, z_neg, z_lt, z_eq, c1, q2, q3, e1, r1, e2, r2, bI_T, bI_F, bI_z, Int.lt_irrefl, Int.reduceAdd, Int.reduceSub, Int.reduceMul, Int.reduceNeg, Int.reduceLT, Int.reduceLE, Int.reduceToNat, Int.reduceEq, if_true, if_false, true_and, and_true, not_true, not_false_eq_true, false_implies, true_implies, imp_self, and_self, and_false, false_and, or_true, true_or, or_false, false_or, ite_self, implies_true]
  · simp (disch := omega) only [y_hasBody h.1 hw hb, x_isBody h3 hw hb, c1, zl0, zl1, z_neg, bI_F, bI_z, z_eq, Int.reduceAdd, Int.reduceSub, Int.reduceMul, Int.reduceNeg, Int.reduceLT, Int.reduceLE, Int.reduceToNat, Int.reduceEq, if_true, if_false, true_and, and_true, not_true, not_false_eq_true, false_implies, true_implies, imp_self, and_self, and_false, false_and, or_true, true_or, or_false, false_or, ite_self, implies_true]
/-! count -/
theorem q_count (h : LdR s 31 5 g) (h2 : RR s g) (hw : WF g) (hbk : gI s 19 0 = zI (g 586)) (htp : gI s 3 1 = gI s 248 2) (a1 : Int32) : rX11_count s a1 ∧ rX12_count s a1 ∧ vX11_count s a1 = vX12_count s a1 ∧ mX12_count s a1 = Th s := by
  obtain ⟨b, hb, rfl⟩ := z_ex a1
  have h3 := Th_R h2
  have h0 := hw.w0
  have n34 : gI (Th s) 250 (zI 34).toNatClampNeg = zI (g 34) := h3 34
  have n35 : gI (Th s) 250 (zI 35).toNatClampNeg = zI (g 35) := h3 35
  have n586 : gI (Th s) 250 (zI 586).toNatClampNeg = zI (g 586) := h3 586
  have n00 : gI (Th s) 250 (zI 0).toNatClampNeg = zI (g 0) := h3 0
  have n01 : gI (Th s) 250 (zI 1).toNatClampNeg = zI (g 1) := h3 1
  have n02 : gI (Th s) 250 (zI 2).toNatClampNeg = zI (g 2) := h3 2
  have n03 : gI (Th s) 250 (zI 3).toNatClampNeg = zI (g 3) := h3 3
  have n2 : gI (Th s) 248 2 = gI s 248 2 := by rw [gI_pI, if_neg (by omega)]
  obtain ⟨e1, r1⟩ := x_openMany h3 hw
  obtain ⟨e2, r2⟩ := y_openDeals h hw
  have hall : (b = 0 ∨ b = 1 ∨ b = 2 ∨ b = 3 ∨ b = 4 ∨ b = 5 ∨ b = 6 ∨ b = 7 ∨ b = 8) ∨ (b < 0 ∨ 8 < b) := by omega
  unfold rX11_count rX12_count vX11_count vX12_count mX12_count
  rcases hall with hc | hc
  · rcases hc with rfl | rfl | rfl | rfl | rfl | rfl | rfl | rfl | rfl <;>
      simp (disch := omega) only [zl0, zl1, zl2, zl3, zl4, zl5, zl6, zl7, zl8, zl34, zl35, zl586, h.1.1.1, h.1.1.2.1, h.1.1.2.2.1, h.1.1.2.2.2, h.2.1.1, h.2.1.2.1, hbk, htp, n34, n35, n586, n2, e1, e2, r1, r2, x_isIn, n00, n01, n02, n03, z_in, tI_zI, z_eq, bI_z, Int.reduceAdd, Int.reduceSub, Int.reduceMul, Int.reduceNeg, Int.reduceLT, Int.reduceLE, Int.reduceToNat, Int.reduceEq, if_true, if_false, true_and, and_true, not_true, not_false_eq_true, false_implies, true_implies, imp_self, and_self, and_false, false_and, or_true, true_or, or_false, false_or, ite_self, implies_true, ite_self] <;> omega
  · have hf : (0 ≤ b ∧ b ≤ 3) = False := eq_false (by omega)
    have k0 : (b = 0) = False := eq_false (by omega)
    have k1 : (b = 1) = False := eq_false (by omega)
    have k2 : (b = 2) = False := eq_false (by omega)
    have k3 : (b = 3) = False := eq_false (by omega)
    have k4 : (b = 4) = False := eq_false (by omega)
    have k5 : (b = 5) = False := eq_false (by omega)
    have k6 : (b = 6) = False := eq_false (by omega)
    have k7 : (b = 7) = False := eq_false (by omega)
    have k8 : (b = 8) = False := eq_false (by omega)
    simp (disch := omega) only [zl0, zl1, zl2, zl3, zl4, zl5, zl6, zl7, zl8, zl34, zl35, zl586, x_isIn _ hb, z_neg, z_eq, hf, k0, k1, k2, k3, k4, k5, k6, k7, k8, bI_F, bI_z, Int.reduceAdd, Int.reduceSub, Int.reduceMul, Int.reduceNeg, Int.reduceLT, Int.reduceLE, Int.reduceToNat, Int.reduceEq, if_true, if_false, true_and, and_true, not_true, not_false_eq_true, false_implies, true_implies, imp_self, and_self, and_false, false_and, or_true, true_or, or_false, false_or, ite_self, implies_true]
/-! read -/
theorem q_read (h : LdR s 31 5 g) (h2 : RR s g) (hw : WF g) (a1 a2 : Int32) : rX11_read s a1 a2 ∧ rX12_read s a1 a2 ∧ vX11_read s a1 a2 = vX12_read s a1 a2 ∧ mX12_read s a1 a2 = Th s := by
  obtain ⟨d, hd, rfl⟩ := z_ex a1
  obtain ⟨w, hw2, rfl⟩ := z_ex a2
  have h3 := Th_R h2
  have h0 := hw.w0
  unfold rX11_read rX12_read vX11_read vX12_read mX12_read
  rcases tf (dlZ g d) with c1 | c1
  · have hdl : dlZ g d := of_eq_true c1
    by_cases hs : w = 0 ∨ w = 1
    · have c2 : (w = 0 ∨ w = 1) = True := eq_true hs
      have c3 : (0 ≤ w ∧ w ≤ 1) = True := eq_true (by omega)
      have ho := y_oB hw hdl hs
      obtain ⟨e1, r1⟩ := y_bearer (P := 5) h.2 hw hdl hs
      obtain ⟨e2, r2⟩ := y_isReadable h hw hdl hs
      obtain ⟨e3, r3⟩ := x_isRead h3 hw (st := lvS g) hdl hs
      have e4 := x_of h3 (d := d) (w := 6 + w) (by omega) (by omega)
      have r4 := x_of_r (Th s) (d := d) (w := 6 + w) (by omega) (by omega)
      rcases tf (0 ≤ oZ g d (6 + w)) with c4 | c4
      · have c5 : (oZ g d (6 + w) = -1) = False := eq_false (by have := of_eq_true c4; omega)
        simp (disch := omega) only [y_hasDeal h.2 hw hd, x_isDeal h3 hw hd, c_isSide s hw2, x_isIn _ hw2, x_living h3, zl0, zl1, zl6, z_neg, z_add, z_le, z_eq, c1, c2, c3, c4, c5, e1, r1, e2, r2, e3, r3, e4, r4, bI_T, bI_F, bI_z, Int.reduceAdd, Int.reduceSub, Int.reduceMul, Int.reduceNeg, Int.reduceLT, Int.reduceLE, Int.reduceToNat, Int.reduceEq, if_true, if_false, true_and, and_true, not_true, not_false_eq_true, false_implies, true_implies, imp_self, and_self, and_false, false_and, or_true, true_or, or_false, false_or, ite_self, implies_true]
      · have c5 : (oZ g d (6 + w) = -1) = True := eq_true (by have := of_eq_false c4; omega)
        simp (disch := omega) only [y_hasDeal h.2 hw hd, x_isDeal h3 hw hd, c_isSide s hw2, x_isIn _ hw2, x_living h3, zl0, zl1, zl6, z_neg, z_add, z_le, z_eq, c1, c2, c3, c4, c5, e1, r1, e2, r2, e3, r3, e4, r4, bI_T, bI_F, bI_z, Int.reduceAdd, Int.reduceSub, Int.reduceMul, Int.reduceNeg, Int.reduceLT, Int.reduceLE, Int.reduceToNat, Int.reduceEq, if_true, if_false, true_and, and_true, not_true, not_false_eq_true, false_implies, true_implies, imp_self, and_self, and_false, false_and, or_true, true_or, or_false, false_or, ite_self, implies_true]
    · have c2 : (w = 0 ∨ w = 1) = False := eq_false hs
      have c3 : (0 ≤ w ∧ w ≤ 1) = False := eq_false (by omega)
      simp (disch := omega) only [y_hasDeal h.2 hw hd, x_isDeal h3 hw hd, c_isSide s hw2, x_isIn _ hw2, zl0, zl1, zl6, z_neg, c1, c2, c3, bI_T, bI_F, bI_z, Int.reduceAdd, Int.reduceSub, Int.reduceMul, Int.reduceNeg, Int.reduceLT, Int.reduceLE, Int.reduceToNat, Int.reduceEq, if_true, if_false, true_and, and_true, not_true, not_false_eq_true, false_implies, true_implies, imp_self, and_self, and_false, false_and, or_true, true_or, or_false, false_or, ite_self, implies_true]
  · simp (disch := omega) only [y_hasDeal h.2 hw hd, x_isDeal h3 hw hd, c1, zl0, zl1, z_neg, bI_F, bI_z, z_eq, Int.reduceAdd, Int.reduceSub, Int.reduceMul, Int.reduceNeg, Int.reduceLT, Int.reduceLE, Int.reduceToNat, Int.reduceEq, if_true, if_false, true_and, and_true, not_true, not_false_eq_true, false_implies, true_implies, imp_self, and_self, and_false, false_and, or_true, true_or, or_false, false_or, ite_self, implies_true]
end
