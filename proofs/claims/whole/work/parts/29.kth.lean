/-- the k-th of those with p, or how many -/
def stK (p : Int → Prop) [DecidablePred p] (k : Int32) (r : Nat → Int32) (d m : Nat) : Int32 ⊕ Nat := if p d then (if zI (m : Int) = k then .inl (r d) else .inr (m + 1)) else .inr m
def fiK (k : Int32) (m : Nat) : Int32 := if k = zI (-1) then zI (m : Int) else zI (-1)
theorem run_neg (p : Int → Prop) [DecidablePred p] (r : Nat → Int32) {kk : Int} (h1 : IR kk) (h2 : kk < -1) : ∀ n d m, m + n ≤ 1000 → run (stK p (zI kk) r) (fiK (zI kk)) n d m = zI (-1) := by
  intro n
  induction n with
  | zero => intro d m _; show fiK (zI kk) m = _; unfold fiK; rw [if_neg (by rw [z_eq h1 (by omega)]; omega)]
  | succ n ih =>
    intro d m hm
    unfold run stK
    have h3 : ¬ zI (m : Int) = zI kk := by rw [z_eq (by omega) h1]; omega
    by_cases hp : p d
    · simp only [if_pos hp, if_neg h3]; exact ih (d + 1) (m + 1) (by omega)
    · simp only [if_neg hp]; exact ih (d + 1) m (by omega)
theorem run_two {α β : Type} (st : Nat → α → β ⊕ α) (fin : α → β) : ∀ r d a, run (fun d a => match st (2 * d) a with | .inl v => .inl v | .inr a' => st (2 * d + 1) a') fin r d a = run st fin (2 * r) (2 * d) a := by
  intro r
  induction r with
  | zero => intro d a; rfl
  | succ r ih =>
    intro d a
    rw [show 2 * (r + 1) = 2 * r + 1 + 1 by omega]
    show (match (match st (2 * d) a with | .inl v => Sum.inl v | .inr a' => st (2 * d + 1) a') with | .inl v => v | .inr a' => run _ fin r (d + 1) a') = (match st (2 * d) a with | .inl v => v | .inr a' => (match st (2 * d + 1) a' with | .inl v => v | .inr a'' => run st fin (2 * r) (2 * d + 1 + 1) a''))
    cases st (2 * d) a with
    | inl v => rfl
    | inr a' =>
      dsimp only
      cases st (2 * d + 1) a' with
      | inl v => rfl
      | inr a'' => exact ih (d + 1) a''
section
variable {s : SM} {g : Nat → Int} {L P : Nat}
theorem x_lost_l (h : RR s g) (hw : WF g) (k : Int32) : lX12_lostOf FU s k (zI ((0 : Nat) : Int)) (zI 0) = (fun v => v) (run (stK (fun d => loZ g d) k (fun d => zI (d : Int))) (fiK k) (g 34).toNat 0 0) ∧ qX12_lostOf FU s k (zI ((0 : Nat) : Int)) (zI 0) := by
  have h0 := hw.w0
  have hN : ((g 34).toNat : Int) = g 34 := by omega
  skip
  have hs := ST_run (B := 1) (g 34).toNat (stK (fun d => loZ g d) k (fun d => zI (d : Int))) (fiK k) (fun v => v) (fun d a n => lX12_lostOf n s k (zI ((a : Nat) : Int)) (zI (d : Int))) (fun d a n => qX12_lostOf n s k (zI ((a : Nat) : Int)) (zI (d : Int))) (by
    intro d a hd
    have hdl : dlZ g (d : Int) := by omega
    have hwd := hw.wd hdl
    have hn1 : (g 34 ≤ (d : Int)) = False := eq_false (by omega)
    have hn2 : ((d : Int) < g 34) = True := eq_true (by omega)
    have o0 := x_of h (d := (d : Int)) (w := 0) (by omega) (by omega)
    have p0 := x_of_r s (d := (d : Int)) (w := 0) (by omega) (by omega)
    have o1 := x_of h (d := (d : Int)) (w := 1) (by omega) (by omega)
    have p1 := x_of_r s (d := (d : Int)) (w := 1) (by omega) (by omega)
    have o2 := x_of h (d := (d : Int)) (w := 2) (by omega) (by omega)
    have p2 := x_of_r s (d := (d : Int)) (w := 2) (by omega) (by omega)
    have o3 := x_of h (d := (d : Int)) (w := 3) (by omega) (by omega)
    have p3 := x_of_r s (d := (d : Int)) (w := 3) (by omega) (by omega)
    have o4 := x_of h (d := (d : Int)) (w := 4) (by omega) (by omega)
    have p4 := x_of_r s (d := (d : Int)) (w := 4) (by omega) (by omega)
    have o5 := x_of h (d := (d : Int)) (w := 5) (by omega) (by omega)
    have p5 := x_of_r s (d := (d : Int)) (w := 5) (by omega) (by omega)
    have o6 := x_of h (d := (d : Int)) (w := 6) (by omega) (by omega)
    have p6 := x_of_r s (d := (d : Int)) (w := 6) (by omega) (by omega)
    have o7 := x_of h (d := (d : Int)) (w := 7) (by omega) (by omega)
    have p7 := x_of_r s (d := (d : Int)) (w := 7) (by omega) (by omega)
    have o8 := x_of h (d := (d : Int)) (w := 8) (by omega) (by omega)
    have p8 := x_of_r s (d := (d : Int)) (w := 8) (by omega) (by omega)
    obtain ⟨e_siz, r_siz⟩ := x_sizeOf h hw hdl
    obtain ⟨e_sor, r_sor⟩ := x_sortOf h hw hdl
    obtain ⟨e_val, r_val⟩ := x_valueOf h hw hdl
    have e_op := x_isOpen h hw (d := (d : Int)) (by omega)
    have r_op := x_isOpen_r h hw (d := (d : Int)) (by omega)
    obtain ⟨e_lo, r_lo⟩ := x_isLost h hw hdl
    unfold stK
    rcases tf (loZ g d) with hc0 | hc0 <;> rcases tf (zI (a : Int) = k) with hc1 | hc1 <;>
      simp only [hc0, hc1, if_true, if_false, true_and, and_true, not_true, not_false_eq_true, false_implies, true_implies, imp_self, and_self] <;>
      first
      | (refine ⟨1, by decide, fun n => ?_⟩; simp (disch := omega) only [lX12_lostOf, qX12_lostOf, tX12_lostOf_4, uX12_lostOf_4, x_34 h, zl0, zl1, zl2, zl3, zl4, zl5, zl6, zl7, zl8, zl9, Int.reduceAdd, Int.reduceSub, Int.reduceMul, Int.reduceNeg, Int.reduceLT, Int.reduceLE, Int.reduceToNat, Int.reduceEq, z_add, z_sub, z_mul, z_neg, z_le, z_lt, z_eq, z_in, hn1, hn2, bI_F, bI_T, bI_z, bI_o, eq_self, hc0, hc1, e_lo, r_lo, i_a0, i_s0, i_or0, Int.natCast_succ, Int.sub_sub, Int.add_assoc, Int.add_zero, Int.zero_add, Int.sub_zero, if_true, if_false, true_and, and_true, not_true, not_false_eq_true, false_implies, true_implies, imp_self, and_self]; done)) (by
    intro a
    rcases tf (k = zI (-1)) with hk | hk <;>
    first
      | (refine ⟨1, by decide, fun n => ?_⟩; simp (disch := omega) only [lX12_lostOf, qX12_lostOf, tX12_lostOf_4, uX12_lostOf_4, x_34 h, zl0, zl1, zl2, zl3, zl4, zl5, zl6, zl7, zl8, zl9, Int.reduceAdd, Int.reduceSub, Int.reduceMul, Int.reduceNeg, Int.reduceLT, Int.reduceLE, Int.reduceToNat, Int.reduceEq, z_add, z_sub, z_mul, z_neg, z_le, z_lt, z_eq, z_in, hN, Int.le_refl, Int.lt_irrefl, fiK, hk, i_a0, i_s0, i_or0, Int.natCast_succ, Int.sub_sub, Int.add_assoc, Int.add_zero, Int.zero_add, Int.sub_zero, if_true, if_false, true_and, and_true, not_true, not_false_eq_true, false_implies, true_implies, imp_self, and_self]; done)) (g 34).toNat 0 0 (by omega)
  obtain ⟨e1, r1⟩ := ST_fu hs (by omega)
  exact ⟨e1, r1⟩

theorem y_lost_l (h : LdR s 31 5 g) (hw : WF g) (k : Int32) : lX11_lost FU s k (zI ((0 : Nat) : Int)) (zI 0) = (fun v => v) (run (stK (fun d => loZ g d) k (fun d => zI (d : Int))) (fiK k) (g 34).toNat 0 0) ∧ qX11_lost FU s k (zI ((0 : Nat) : Int)) (zI 0) := by
  have h0 := hw.w0
  have hN : ((g 34).toNat : Int) = g 34 := by omega
  skip
  have hs := ST_run (B := 1) (g 34).toNat (stK (fun d => loZ g d) k (fun d => zI (d : Int))) (fiK k) (fun v => v) (fun d a n => lX11_lost n s k (zI ((a : Nat) : Int)) (zI (d : Int))) (fun d a n => qX11_lost n s k (zI ((a : Nat) : Int)) (zI (d : Int))) (by
    intro d a hd
    have hdl : dlZ g (d : Int) := by omega
    have hwd := hw.wd hdl
    have hn1 : (g 34 ≤ (d : Int)) = False := eq_false (by omega)
    have hn2 : ((d : Int) < g 34) = True := eq_true (by omega)
    obtain ⟨f0, f1, f2, f3, f4, f5, f6, f7, f8⟩ := n_f h.2 hw hdl
    have c_vp := y_vp hw hdl
    obtain ⟨c_op, cr_op⟩ := y_isOpen (P := 5) h.2 hw (d := (d : Int)) (by omega)
    obtain ⟨c_val, cr_val⟩ := y_valueOf h hw hdl
    simp only [Nat.reduceAdd] at f0 f1 f2 f3 f4 f5 f6 f7 f8
    obtain ⟨e_lo, r_lo⟩ := y_isLost h hw hdl
    unfold stK
    rcases tf (loZ g d) with hc0 | hc0 <;> rcases tf (zI (a : Int) = k) with hc1 | hc1 <;>
      simp only [hc0, hc1, if_true, if_false, true_and, and_true, not_true, not_false_eq_true, false_implies, true_implies, imp_self, and_self] <;>
      first
      | (refine ⟨1, by decide, fun n => ?_⟩; simp (disch := omega) only [lX11_lost, qX11_lost, tX11_lost_4, uX11_lost_4, h.2.1.1, zl0, zl1, zl2, zl3, zl4, zl5, zl6, zl7, zl8, zl9, Int.reduceAdd, Int.reduceSub, Int.reduceMul, Int.reduceNeg, Int.reduceLT, Int.reduceLE, Int.reduceToNat, Int.reduceEq, z_add, z_sub, z_mul, z_neg, z_le, z_lt, z_eq, z_in, c_vp, hn1, hn2, bI_F, bI_T, bI_z, bI_o, eq_self, hc0, hc1, e_lo, r_lo, i_a0, i_s0, i_or0, Int.natCast_succ, Int.sub_sub, Int.add_assoc, Int.add_zero, Int.zero_add, Int.sub_zero, if_true, if_false, true_and, and_true, not_true, not_false_eq_true, false_implies, true_implies, imp_self, and_self]; done)) (by
    intro a
    rcases tf (k = zI (-1)) with hk | hk <;>
    first
      | (refine ⟨1, by decide, fun n => ?_⟩; simp (disch := omega) only [lX11_lost, qX11_lost, tX11_lost_4, uX11_lost_4, h.2.1.1, zl0, zl1, zl2, zl3, zl4, zl5, zl6, zl7, zl8, zl9, Int.reduceAdd, Int.reduceSub, Int.reduceMul, Int.reduceNeg, Int.reduceLT, Int.reduceLE, Int.reduceToNat, Int.reduceEq, z_add, z_sub, z_mul, z_neg, z_le, z_lt, z_eq, z_in, hN, Int.le_refl, Int.lt_irrefl, fiK, hk, i_a0, i_s0, i_or0, Int.natCast_succ, Int.sub_sub, Int.add_assoc, Int.add_zero, Int.zero_add, Int.sub_zero, if_true, if_false, true_and, and_true, not_true, not_false_eq_true, false_implies, true_implies, imp_self, and_self]; done)) (g 34).toNat 0 0 (by omega)
  obtain ⟨e1, r1⟩ := ST_fu hs (by omega)
  exact ⟨e1, r1⟩

theorem x_between_l (h : RR s g) (hw : WF g) {x y : Int} (hx : IR x) (hy : IR y) (k : Int32) : lX12_between FU s (zI x) (zI y) k (zI ((0 : Nat) : Int)) (zI 0) = (fun v => (v, s)) (run (stK (fun d => opZ g d ∧ oZ g d 0 = x ∧ oZ g d 1 = y) k (fun d => zI (d : Int))) (fiK k) (g 34).toNat 0 0) ∧ qX12_between FU s (zI x) (zI y) k (zI ((0 : Nat) : Int)) (zI 0) := by
  have h0 := hw.w0
  have hN : ((g 34).toNat : Int) = g 34 := by omega
  skip
  have hs := ST_run (B := 1) (g 34).toNat (stK (fun d => opZ g d ∧ oZ g d 0 = x ∧ oZ g d 1 = y) k (fun d => zI (d : Int))) (fiK k) (fun v => (v, s)) (fun d a n => lX12_between n s (zI x) (zI y) k (zI ((a : Nat) : Int)) (zI (d : Int))) (fun d a n => qX12_between n s (zI x) (zI y) k (zI ((a : Nat) : Int)) (zI (d : Int))) (by
    intro d a hd
    have hdl : dlZ g (d : Int) := by omega
    have hwd := hw.wd hdl
    have hn1 : (g 34 ≤ (d : Int)) = False := eq_false (by omega)
    have hn2 : ((d : Int) < g 34) = True := eq_true (by omega)
    have o0 := x_of h (d := (d : Int)) (w := 0) (by omega) (by omega)
    have p0 := x_of_r s (d := (d : Int)) (w := 0) (by omega) (by omega)
    have o1 := x_of h (d := (d : Int)) (w := 1) (by omega) (by omega)
    have p1 := x_of_r s (d := (d : Int)) (w := 1) (by omega) (by omega)
    have o2 := x_of h (d := (d : Int)) (w := 2) (by omega) (by omega)
    have p2 := x_of_r s (d := (d : Int)) (w := 2) (by omega) (by omega)
    have o3 := x_of h (d := (d : Int)) (w := 3) (by omega) (by omega)
    have p3 := x_of_r s (d := (d : Int)) (w := 3) (by omega) (by omega)
    have o4 := x_of h (d := (d : Int)) (w := 4) (by omega) (by omega)
    have p4 := x_of_r s (d := (d : Int)) (w := 4) (by omega) (by omega)
    have o5 := x_of h (d := (d : Int)) (w := 5) (by omega) (by omega)
    have p5 := x_of_r s (d := (d : Int)) (w := 5) (by omega) (by omega)
    have o6 := x_of h (d := (d : Int)) (w := 6) (by omega) (by omega)
    have p6 := x_of_r s (d := (d : Int)) (w := 6) (by omega) (by omega)
    have o7 := x_of h (d := (d : Int)) (w := 7) (by omega) (by omega)
    have p7 := x_of_r s (d := (d : Int)) (w := 7) (by omega) (by omega)
    have o8 := x_of h (d := (d : Int)) (w := 8) (by omega) (by omega)
    have p8 := x_of_r s (d := (d : Int)) (w := 8) (by omega) (by omega)
    obtain ⟨e_siz, r_siz⟩ := x_sizeOf h hw hdl
    obtain ⟨e_sor, r_sor⟩ := x_sortOf h hw hdl
    obtain ⟨e_val, r_val⟩ := x_valueOf h hw hdl
    have e_op := x_isOpen h hw (d := (d : Int)) (by omega)
    have r_op := x_isOpen_r h hw (d := (d : Int)) (by omega)
    skip
    unfold stK
    rcases tf (opZ g d) with hc0 | hc0 <;> rcases tf (oZ g d 0 = x) with hc1 | hc1 <;> rcases tf (oZ g d 1 = y) with hc2 | hc2 <;> rcases tf (zI (a : Int) = k) with hc3 | hc3 <;>
      simp only [hc0, hc1, hc2, hc3, if_true, if_false, true_and, and_true, not_true, not_false_eq_true, false_implies, true_implies, imp_self, and_self] <;>
      first
      | (refine ⟨1, by decide, fun n => ?_⟩; simp (disch := omega) only [lX12_between, qX12_between, tX12_between_34, uX12_between_34, x_34 h, zl0, zl1, zl2, zl3, zl4, zl5, zl6, zl7, zl8, zl9, Int.reduceAdd, Int.reduceSub, Int.reduceMul, Int.reduceNeg, Int.reduceLT, Int.reduceLE, Int.reduceToNat, Int.reduceEq, z_add, z_sub, z_mul, z_neg, z_le, z_lt, z_eq, z_in, e_op, r_op, o0, p0, o1, p1, hn1, hn2, bI_F, bI_T, bI_z, bI_o, eq_self, hc0, hc1, hc2, hc3, i_a0, i_s0, i_or0, Int.natCast_succ, Int.sub_sub, Int.add_assoc, Int.add_zero, Int.zero_add, Int.sub_zero, if_true, if_false, true_and, and_true, not_true, not_false_eq_true, false_implies, true_implies, imp_self, and_self]; done)) (by
    intro a
    rcases tf (k = zI (-1)) with hk | hk <;>
    first
      | (refine ⟨1, by decide, fun n => ?_⟩; simp (disch := omega) only [lX12_between, qX12_between, tX12_between_34, uX12_between_34, x_34 h, zl0, zl1, zl2, zl3, zl4, zl5, zl6, zl7, zl8, zl9, Int.reduceAdd, Int.reduceSub, Int.reduceMul, Int.reduceNeg, Int.reduceLT, Int.reduceLE, Int.reduceToNat, Int.reduceEq, z_add, z_sub, z_mul, z_neg, z_le, z_lt, z_eq, z_in, hN, Int.le_refl, Int.lt_irrefl, fiK, hk, i_a0, i_s0, i_or0, Int.natCast_succ, Int.sub_sub, Int.add_assoc, Int.add_zero, Int.zero_add, Int.sub_zero, if_true, if_false, true_and, and_true, not_true, not_false_eq_true, false_implies, true_implies, imp_self, and_self]; done)) (g 34).toNat 0 0 (by omega)
  obtain ⟨e1, r1⟩ := ST_fu hs (by omega)
  exact ⟨e1, r1⟩

theorem y_between_l (h : LdR s 31 5 g) (hw : WF g) {x y : Int} (hx : IR x) (hy : IR y) (k : Int32) : lX11_between FU s (zI x) (zI y) k (zI ((0 : Nat) : Int)) (zI 0) = (fun v => v) (run (stK (fun d => opZ g d ∧ oZ g d 0 = x ∧ oZ g d 1 = y) k (fun d => zI (d : Int))) (fiK k) (g 34).toNat 0 0) ∧ qX11_between FU s (zI x) (zI y) k (zI ((0 : Nat) : Int)) (zI 0) := by
  have h0 := hw.w0
  have hN : ((g 34).toNat : Int) = g 34 := by omega
  skip
  have hs := ST_run (B := 1) (g 34).toNat (stK (fun d => opZ g d ∧ oZ g d 0 = x ∧ oZ g d 1 = y) k (fun d => zI (d : Int))) (fiK k) (fun v => v) (fun d a n => lX11_between n s (zI x) (zI y) k (zI ((a : Nat) : Int)) (zI (d : Int))) (fun d a n => qX11_between n s (zI x) (zI y) k (zI ((a : Nat) : Int)) (zI (d : Int))) (by
    intro d a hd
    have hdl : dlZ g (d : Int) := by omega
    have hwd := hw.wd hdl
    have hn1 : (g 34 ≤ (d : Int)) = False := eq_false (by omega)
    have hn2 : ((d : Int) < g 34) = True := eq_true (by omega)
    obtain ⟨f0, f1, f2, f3, f4, f5, f6, f7, f8⟩ := n_f h.2 hw hdl
    have c_vp := y_vp hw hdl
    obtain ⟨c_op, cr_op⟩ := y_isOpen (P := 5) h.2 hw (d := (d : Int)) (by omega)
    obtain ⟨c_val, cr_val⟩ := y_valueOf h hw hdl
    simp only [Nat.reduceAdd] at f0 f1 f2 f3 f4 f5 f6 f7 f8
    skip
    unfold stK
    rcases tf (opZ g d) with hc0 | hc0 <;> rcases tf (oZ g d 0 = x) with hc1 | hc1 <;> rcases tf (oZ g d 1 = y) with hc2 | hc2 <;> rcases tf (zI (a : Int) = k) with hc3 | hc3 <;>
      simp only [hc0, hc1, hc2, hc3, if_true, if_false, true_and, and_true, not_true, not_false_eq_true, false_implies, true_implies, imp_self, and_self] <;>
      first
      | (refine ⟨1, by decide, fun n => ?_⟩; simp (disch := omega) only [lX11_between, qX11_between, tX11_between_30, uX11_between_30, h.2.1.1, zl0, zl1, zl2, zl3, zl4, zl5, zl6, zl7, zl8, zl9, Int.reduceAdd, Int.reduceSub, Int.reduceMul, Int.reduceNeg, Int.reduceLT, Int.reduceLE, Int.reduceToNat, Int.reduceEq, z_add, z_sub, z_mul, z_neg, z_le, z_lt, z_eq, z_in, c_op, cr_op, f0, f1, c_vp, hn1, hn2, bI_F, bI_T, bI_z, bI_o, eq_self, hc0, hc1, hc2, hc3, i_a0, i_s0, i_or0, Int.natCast_succ, Int.sub_sub, Int.add_assoc, Int.add_zero, Int.zero_add, Int.sub_zero, if_true, if_false, true_and, and_true, not_true, not_false_eq_true, false_implies, true_implies, imp_self, and_self]; done)) (by
    intro a
    rcases tf (k = zI (-1)) with hk | hk <;>
    first
      | (refine ⟨1, by decide, fun n => ?_⟩; simp (disch := omega) only [lX11_between, qX11_between, tX11_between_30, uX11_between_30, h.2.1.1, zl0, zl1, zl2, zl3, zl4, zl5, zl6, zl7, zl8, zl9, Int.reduceAdd, Int.reduceSub, Int.reduceMul, Int.reduceNeg, Int.reduceLT, Int.reduceLE, Int.reduceToNat, Int.reduceEq, z_add, z_sub, z_mul, z_neg, z_le, z_lt, z_eq, z_in, hN, Int.le_refl, Int.lt_irrefl, fiK, hk, i_a0, i_s0, i_or0, Int.natCast_succ, Int.sub_sub, Int.add_assoc, Int.add_zero, Int.zero_add, Int.sub_zero, if_true, if_false, true_and, and_true, not_true, not_false_eq_true, false_implies, true_implies, imp_self, and_self]; done)) (g 34).toNat 0 0 (by omega)
  obtain ⟨e1, r1⟩ := ST_fu hs (by omega)
  exact ⟨e1, r1⟩

end
