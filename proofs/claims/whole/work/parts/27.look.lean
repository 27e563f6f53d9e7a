section
variable {s : SM} {g : Nat → Int} {L P : Nat}
def stTR (g : Nat → Int) (y w : Int) (d : Nat) (a : Int32) : Int32 := if oZ g d 4 = y then (if w = 0 then a + zI (valZ g d) else if oZ g d 5 = w - 1 then a + zI (valZ g d) else a) else a
def stOW (g : Nat → Int) (b w : Int) (d : Nat) (a : Int32) : Int32 := if opZ g d then (if oZ g d w = b then a ||| ((1 : Int32) <<< (zI (oZ g d (1 - w)) &&& 31)) else a) else a
theorem x_trade_l (h : RR s g) (hw : WF g) {y w : Int} (hy : IR y) (hw3 : 0 ≤ w ∧ w ≤ 3) : lX12_trade FU s (zI y) (zI w) 0 (zI 0) = ((fold (stTR g y w) (g 34).toNat 0), s) ∧ qX12_trade FU s (zI y) (zI w) 0 (zI 0) := by
  have h0 := hw.w0
  have hN : ((g 34).toNat : Int) = g 34 := by omega
  skip
  have hs : ∀ (d : Nat) (a : Int32), d < (g 34).toNat → ST 1 (fun n => lX12_trade n s (zI y) (zI w) a (zI d)) (fun n => qX12_trade n s (zI y) (zI w) a (zI d)) (fun n => lX12_trade n s (zI y) (zI w) ((stTR g y w) d a) (zI ((d + 1 : Nat) : Int))) (fun n => qX12_trade n s (zI y) (zI w) ((stTR g y w) d a) (zI ((d + 1 : Nat) : Int))) := by
    intro d a hd
    have hdl : dlZ g (d : Int) := by omega
    have hwd := hw.wd hdl
    have hn1 : (g 34 ≤ (d : Int)) = False := eq_false (by omega)
    have hn2 : ((d : Int) < g 34) = True := eq_true (by omega)
    have o0 := x_of h (d := (d : Int)) (w := 0) (by omega) (by omega)
    have p0 := x_of_r s (d := (d : Int)) (w := 0) (by omega) (by omega)
    have o1 := x_of h (d := (d : Int)) (w := 1) (by omega) (by omega)
    have p1 := x_of_r s (d := (d : Int)) (w := 1) (by omega) (by omega)
    have o2 := x_of h (d := (d : Int)) (w := 2) (by omega) (by omega)
    have p2 := x_of_r s (d := (d : Int)) (w := 2) (by omega) (by omega)
    have o3 := x_of h (d := (d : Int)) (w := 3) (by omega) (by omega)
    have p3 := x_of_r s (d := (d : Int)) (w := 3) (by omega) (by omega)
    have o4 := x_of h (d := (d : Int)) (w := 4) (by omega) (by omega)
    have p4 := x_of_r s (d := (d : Int)) (w := 4) (by omega) (by omega)
    have o5 := x_of h (d := (d : Int)) (w := 5) (by omega) (by omega)
    have p5 := x_of_r s (d := (d : Int)) (w := 5) (by omega) (by omega)
    have o6 := x_of h (d := (d : Int)) (w := 6) (by omega) (by omega)
    have p6 := x_of_r s (d := (d : Int)) (w := 6) (by omega) (by omega)
    have o7 := x_of h (d := (d : Int)) (w := 7) (by omega) (by omega)
    have p7 := x_of_r s (d := (d : Int)) (w := 7) (by omega) (by omega)
    have o8 := x_of h (d := (d : Int)) (w := 8) (by omega) (by omega)
    have p8 := x_of_r s (d := (d : Int)) (w := 8) (by omega) (by omega)
    obtain ⟨e_siz, r_siz⟩ := x_sizeOf h hw hdl
    obtain ⟨e_sor, r_sor⟩ := x_sortOf h hw hdl
    obtain ⟨e_val, r_val⟩ := x_valueOf h hw hdl
    have e_op := x_isOpen h hw (d := (d : Int)) (by omega)
    have r_op := x_isOpen_r h hw (d := (d : Int)) (by omega)
    skip
    refine ⟨1, Nat.le_refl _, fun n => ?_⟩
    rcases tf (oZ g d 4 = y) with hc0 | hc0 <;> rcases tf (w = 0) with hc1 | hc1 <;> rcases tf (oZ g d 5 = w - 1) with hc2 | hc2 <;>
      simp (disch := omega) only [lX12_trade, qX12_trade, tX12_trade_31, uX12_trade_31, x_34 h, zl0, zl1, zl2, zl3, zl4, zl5, zl6, zl7, zl8, zl9, Int.reduceAdd, Int.reduceSub, Int.reduceMul, Int.reduceNeg, Int.reduceLT, Int.reduceLE, Int.reduceToNat, Int.reduceEq, z_add, z_sub, z_mul, z_neg, z_le, z_lt, z_eq, z_in, o4, p4, o5, p5, e_val, r_val, hn1, hn2, bI_F, bI_T, bI_z, bI_o, eq_self, hc0, hc1, hc2, stTR, i_a0, i_s0, i_or0, Int.natCast_succ, Int.sub_sub, Int.add_assoc, Int.add_zero, Int.zero_add, Int.sub_zero, if_true, if_false, true_and, and_true, not_true, not_false_eq_true, false_implies, true_implies, imp_self, and_self]
  obtain ⟨e1, r1⟩ := ST_fu (ST_trans (ST_fold (g 34).toNat (stTR g y w) _ _ hs 0) (ST_1 (F' := fun _ => ((fold (stTR g y w) (g 34).toNat 0), s)) (C' := fun _ => True) (fun n => by
    skip
    simp (disch := omega) only [lX12_trade, qX12_trade, tX12_trade_31, uX12_trade_31, x_34 h, zl0, zl1, zl2, zl3, zl4, zl5, zl6, zl7, zl8, zl9, Int.reduceAdd, Int.reduceSub, Int.reduceMul, Int.reduceNeg, Int.reduceLT, Int.reduceLE, Int.reduceToNat, Int.reduceEq, z_add, z_sub, z_mul, z_neg, z_le, z_lt, z_eq, z_in, hN, Int.le_refl, Int.lt_irrefl, i_a0, i_s0, i_or0, Int.natCast_succ, Int.sub_sub, Int.add_assoc, Int.add_zero, Int.zero_add, Int.sub_zero, if_true, if_false, true_and, and_true, not_true, not_false_eq_true, false_implies, true_implies, imp_self, and_self]))) (by omega)
  exact ⟨e1, r1⟩

theorem y_trade_l (h : LdR s 31 5 g) (hw : WF g) {y w : Int} (hy : IR y) (hw3 : 0 ≤ w ∧ w ≤ 3) : (lX11_trade FU).1 s (zI y) (zI w) 0 (zI 0) = (fold (stTR g y w) (g 34).toNat 0) ∧ (qX11_trade FU).1 s (zI y) (zI w) 0 (zI 0) := by
  have h0 := hw.w0
  have hN : ((g 34).toNat : Int) = g 34 := by omega
  skip
  have hs : ∀ (d : Nat) (a : Int32), d < (g 34).toNat → ST 2 (fun n => (lX11_trade n).1 s (zI y) (zI w) a (zI d)) (fun n => (qX11_trade n).1 s (zI y) (zI w) a (zI d)) (fun n => (lX11_trade n).1 s (zI y) (zI w) ((stTR g y w) d a) (zI ((d + 1 : Nat) : Int))) (fun n => (qX11_trade n).1 s (zI y) (zI w) ((stTR g y w) d a) (zI ((d + 1 : Nat) : Int))) := by
    intro d a hd
    have hdl : dlZ g (d : Int) := by omega
    have hwd := hw.wd hdl
    have hn1 : (g 34 ≤ (d : Int)) = False := eq_false (by omega)
    have hn2 : ((d : Int) < g 34) = True := eq_true (by omega)
    obtain ⟨f0, f1, f2, f3, f4, f5, f6, f7, f8⟩ := n_f h.2 hw hdl
    have c_vp := y_vp hw hdl
    obtain ⟨c_op, cr_op⟩ := y_isOpen (P := 5) h.2 hw (d := (d : Int)) (by omega)
    obtain ⟨c_val, cr_val⟩ := y_valueOf h hw hdl
    simp only [Nat.reduceAdd] at f0 f1 f2 f3 f4 f5 f6 f7 f8
    skip
    rcases tf (oZ g d 4 = y) with hc0 | hc0 <;> rcases tf (w = 0) with hc1 | hc1 <;> rcases tf (oZ g d 5 = w - 1) with hc2 | hc2 <;>
      first
      | (refine ⟨1, by decide, fun n => ?_⟩; simp (disch := omega) only [↓lpX11_trade_23, ↓lpX11_trade_69, ↓qpX11_trade_23, ↓qpX11_trade_69, tX11_trade_23, tX11_trade_69, uX11_trade_23, uX11_trade_69, h.2.1.1, zl0, zl1, zl2, zl3, zl4, zl5, zl6, zl7, zl8, zl9, Int.reduceAdd, Int.reduceSub, Int.reduceMul, Int.reduceNeg, Int.reduceLT, Int.reduceLE, Int.reduceToNat, Int.reduceEq, z_add, z_sub, z_mul, z_neg, z_le, z_lt, z_eq, z_in, f4, f5, c_val, cr_val, c_vp, hn1, hn2, bI_F, bI_T, bI_z, bI_o, eq_self, hc0, hc1, hc2, stTR, i_a0, i_s0, i_or0, Int.natCast_succ, Int.sub_sub, Int.add_assoc, Int.add_zero, Int.zero_add, Int.sub_zero, if_true, if_false, true_and, and_true, not_true, not_false_eq_true, false_implies, true_implies, imp_self, and_self]; done)
      | (refine ⟨2, by decide, fun n => ?_⟩; simp (disch := omega) only [↓lpX11_trade_23, ↓lpX11_trade_69, ↓qpX11_trade_23, ↓qpX11_trade_69, tX11_trade_23, tX11_trade_69, uX11_trade_23, uX11_trade_69, h.2.1.1, zl0, zl1, zl2, zl3, zl4, zl5, zl6, zl7, zl8, zl9, Int.reduceAdd, Int.reduceSub, Int.reduceMul, Int.reduceNeg, Int.reduceLT, Int.reduceLE, Int.reduceToNat, Int.reduceEq, z_add, z_sub, z_mul, z_neg, z_le, z_lt, z_eq, z_in, f4, f5, c_val, cr_val, c_vp, hn1, hn2, bI_F, bI_T, bI_z, bI_o, eq_self, hc0, hc1, hc2, stTR, i_a0, i_s0, i_or0, Int.natCast_succ, Int.sub_sub, Int.add_assoc, Int.add_zero, Int.zero_add, Int.sub_zero, if_true, if_false, true_and, and_true, not_true, not_false_eq_true, false_implies, true_implies, imp_self, and_self]; done)
  obtain ⟨e1, r1⟩ := ST_fu (ST_trans (ST_fold (g 34).toNat (stTR g y w) _ _ hs 0) (ST_1 (F' := fun _ => (fold (stTR g y w) (g 34).toNat 0)) (C' := fun _ => True) (fun n => by
    skip
    simp (disch := omega) only [↓lpX11_trade_23, ↓lpX11_trade_69, ↓qpX11_trade_23, ↓qpX11_trade_69, tX11_trade_23, tX11_trade_69, uX11_trade_23, uX11_trade_69, h.2.1.1, zl0, zl1, zl2, zl3, zl4, zl5, zl6, zl7, zl8, zl9, Int.reduceAdd, Int.reduceSub, Int.reduceMul, Int.reduceNeg, Int.reduceLT, Int.reduceLE, Int.reduceToNat, Int.reduceEq, z_add, z_sub, z_mul, z_neg, z_le, z_lt, z_eq, z_in, hN, Int.le_refl, Int.lt_irrefl, i_a0, i_s0, i_or0, Int.natCast_succ, Int.sub_sub, Int.add_assoc, Int.add_zero, Int.zero_add, Int.sub_zero, if_true, if_false, true_and, and_true, not_true, not_false_eq_true, false_implies, true_implies, imp_self, and_self]))) (by omega)
  exact ⟨e1, r1⟩

theorem x_owes_l0 (h : RR s g) (hw : WF g) {b : Int} (hb : IR b) : lX12_owes FU s (zI b) (zI 0) 0 (zI 0) = ((fold (stOW g b 0) (g 34).toNat 0), s) ∧ qX12_owes FU s (zI b) (zI 0) 0 (zI 0) := by
  have h0 := hw.w0
  have hN : ((g 34).toNat : Int) = g 34 := by omega
  skip
  have hs : ∀ (d : Nat) (a : Int32), d < (g 34).toNat → ST 1 (fun n => lX12_owes n s (zI b) (zI 0) a (zI d)) (fun n => qX12_owes n s (zI b) (zI 0) a (zI d)) (fun n => lX12_owes n s (zI b) (zI 0) ((stOW g b 0) d a) (zI ((d + 1 : Nat) : Int))) (fun n => qX12_owes n s (zI b) (zI 0) ((stOW g b 0) d a) (zI ((d + 1 : Nat) : Int))) := by
    intro d a hd
    have hdl : dlZ g (d : Int) := by omega
    have hwd := hw.wd hdl
    have hn1 : (g 34 ≤ (d : Int)) = False := eq_false (by omega)
    have hn2 : ((d : Int) < g 34) = True := eq_true (by omega)
    have o0 := x_of h (d := (d : Int)) (w := 0) (by omega) (by omega)
    have p0 := x_of_r s (d := (d : Int)) (w := 0) (by omega) (by omega)
    have o1 := x_of h (d := (d : Int)) (w := 1) (by omega) (by omega)
    have p1 := x_of_r s (d := (d : Int)) (w := 1) (by omega) (by omega)
    have o2 := x_of h (d := (d : Int)) (w := 2) (by omega) (by omega)
    have p2 := x_of_r s (d := (d : Int)) (w := 2) (by omega) (by omega)
    have o3 := x_of h (d := (d : Int)) (w := 3) (by omega) (by omega)
    have p3 := x_of_r s (d := (d : Int)) (w := 3) (by omega) (by omega)
    have o4 := x_of h (d := (d : Int)) (w := 4) (by omega) (by omega)
    have p4 := x_of_r s (d := (d : Int)) (w := 4) (by omega) (by omega)
    have o5 := x_of h (d := (d : Int)) (w := 5) (by omega) (by omega)
    have p5 := x_of_r s (d := (d : Int)) (w := 5) (by omega) (by omega)
    have o6 := x_of h (d := (d : Int)) (w := 6) (by omega) (by omega)
    have p6 := x_of_r s (d := (d : Int)) (w := 6) (by omega) (by omega)
    have o7 := x_of h (d := (d : Int)) (w := 7) (by omega) (by omega)
    have p7 := x_of_r s (d := (d : Int)) (w := 7) (by omega) (by omega)
    have o8 := x_of h (d := (d : Int)) (w := 8) (by omega) (by omega)
    have p8 := x_of_r s (d := (d : Int)) (w := 8) (by omega) (by omega)
    obtain ⟨e_siz, r_siz⟩ := x_sizeOf h hw hdl
    obtain ⟨e_sor, r_sor⟩ := x_sortOf h hw hdl
    obtain ⟨e_val, r_val⟩ := x_valueOf h hw hdl
    have e_op := x_isOpen h hw (d := (d : Int)) (by omega)
    have r_op := x_isOpen_r h hw (d := (d : Int)) (by omega)
    skip
    refine ⟨1, Nat.le_refl _, fun n => ?_⟩
    rcases tf (opZ g d) with hc0 | hc0 <;> rcases tf (oZ g d 0 = b) with hc1 | hc1 <;>
      simp (disch := omega) only [lX12_owes, qX12_owes, tX12_owes_29, uX12_owes_29, x_34 h, zl0, zl1, zl2, zl3, zl4, zl5, zl6, zl7, zl8, zl9, Int.reduceAdd, Int.reduceSub, Int.reduceMul, Int.reduceNeg, Int.reduceLT, Int.reduceLE, Int.reduceToNat, Int.reduceEq, z_add, z_sub, z_mul, z_neg, z_le, z_lt, z_eq, z_in, e_op, r_op, o0, p0, o1, p1, hn1, hn2, bI_F, bI_T, bI_z, bI_o, eq_self, hc0, hc1, stOW, i_a0, i_s0, i_or0, Int.natCast_succ, Int.sub_sub, Int.add_assoc, Int.add_zero, Int.zero_add, Int.sub_zero, if_true, if_false, true_and, and_true, not_true, not_false_eq_true, false_implies, true_implies, imp_self, and_self]
  obtain ⟨e1, r1⟩ := ST_fu (ST_trans (ST_fold (g 34).toNat (stOW g b 0) _ _ hs 0) (ST_1 (F' := fun _ => ((fold (stOW g b 0) (g 34).toNat 0), s)) (C' := fun _ => True) (fun n => by
    skip
    simp (disch := omega) only [lX12_owes, qX12_owes, tX12_owes_29, uX12_owes_29, x_34 h, zl0, zl1, zl2, zl3, zl4, zl5, zl6, zl7, zl8, zl9, Int.reduceAdd, Int.reduceSub, Int.reduceMul, Int.reduceNeg, Int.reduceLT, Int.reduceLE, Int.reduceToNat, Int.reduceEq, z_add, z_sub, z_mul, z_neg, z_le, z_lt, z_eq, z_in, hN, Int.le_refl, Int.lt_irrefl, i_a0, i_s0, i_or0, Int.natCast_succ, Int.sub_sub, Int.add_assoc, Int.add_zero, Int.zero_add, Int.sub_zero, if_true, if_false, true_and, and_true, not_true, not_false_eq_true, false_implies, true_implies, imp_self, and_self]))) (by omega)
  exact ⟨e1, r1⟩

theorem y_owes_l0 (h : LdR s 31 5 g) (hw : WF g) {b : Int} (hb : IR b) : lX11_owes FU s (zI b) (zI 0) 0 (zI 0) = (fold (stOW g b 0) (g 34).toNat 0) ∧ qX11_owes FU s (zI b) (zI 0) 0 (zI 0) := by
  have h0 := hw.w0
  have hN : ((g 34).toNat : Int) = g 34 := by omega
  skip
  have hs : ∀ (d : Nat) (a : Int32), d < (g 34).toNat → ST 1 (fun n => lX11_owes n s (zI b) (zI 0) a (zI d)) (fun n => qX11_owes n s (zI b) (zI 0) a (zI d)) (fun n => lX11_owes n s (zI b) (zI 0) ((stOW g b 0) d a) (zI ((d + 1 : Nat) : Int))) (fun n => qX11_owes n s (zI b) (zI 0) ((stOW g b 0) d a) (zI ((d + 1 : Nat) : Int))) := by
    intro d a hd
    have hdl : dlZ g (d : Int) := by omega
    have hwd := hw.wd hdl
    have hn1 : (g 34 ≤ (d : Int)) = False := eq_false (by omega)
    have hn2 : ((d : Int) < g 34) = True := eq_true (by omega)
    obtain ⟨f0, f1, f2, f3, f4, f5, f6, f7, f8⟩ := n_f h.2 hw hdl
    have c_vp := y_vp hw hdl
    obtain ⟨c_op, cr_op⟩ := y_isOpen (P := 5) h.2 hw (d := (d : Int)) (by omega)
    obtain ⟨c_val, cr_val⟩ := y_valueOf h hw hdl
    simp only [Nat.reduceAdd] at f0 f1 f2 f3 f4 f5 f6 f7 f8
    skip
    refine ⟨1, Nat.le_refl _, fun n => ?_⟩
    rcases tf (opZ g d) with hc0 | hc0 <;> rcases tf (oZ g d 0 = b) with hc1 | hc1 <;>
      simp (disch := omega) only [lX11_owes, qX11_owes, tX11_owes_27, uX11_owes_27, h.2.1.1, zl0, zl1, zl2, zl3, zl4, zl5, zl6, zl7, zl8, zl9, Int.reduceAdd, Int.reduceSub, Int.reduceMul, Int.reduceNeg, Int.reduceLT, Int.reduceLE, Int.reduceToNat, Int.reduceEq, z_add, z_sub, z_mul, z_neg, z_le, z_lt, z_eq, z_in, c_op, cr_op, f0, f1, c_vp, hn1, hn2, bI_F, bI_T, bI_z, bI_o, eq_self, hc0, hc1, stOW, i_a0, i_s0, i_or0, Int.natCast_succ, Int.sub_sub, Int.add_assoc, Int.add_zero, Int.zero_add, Int.sub_zero, if_true, if_false, true_and, and_true, not_true, not_false_eq_true, false_implies, true_implies, imp_self, and_self]
  obtain ⟨e1, r1⟩ := ST_fu (ST_trans (ST_fold (g 34).toNat (stOW g b 0) _ _ hs 0) (ST_1 (F' := fun _ => (fold (stOW g b 0) (g 34).toNat 0)) (C' := fun _ => True) (fun n => by
    skip
    simp (disch := omega) only [lX11_owes, qX11_owes, tX11_owes_27, uX11_owes_27, h.2.1.1, zl0, zl1, zl2, zl3, zl4, zl5, zl6, zl7, zl8, zl9, Int.reduceAdd, Int.reduceSub, Int.reduceMul, Int.reduceNeg, Int.reduceLT, Int.reduceLE, Int.reduceToNat, Int.reduceEq, z_add, z_sub, z_mul, z_neg, z_le, z_lt, z_eq, z_in, hN, Int.le_refl, Int.lt_irrefl, i_a0, i_s0, i_or0, Int.natCast_succ, Int.sub_sub, Int.add_assoc, Int.add_zero, Int.zero_add, Int.sub_zero, if_true, if_false, true_and, and_true, not_true, not_false_eq_true, false_implies, true_implies, imp_self, and_self]))) (by omega)
  exact ⟨e1, r1⟩

theorem x_owes_l1 (h : RR s g) (hw : WF g) {b : Int} (hb : IR b) : lX12_owes FU s (zI b) (zI 1) 0 (zI 0) = ((fold (stOW g b 1) (g 34).toNat 0), s) ∧ qX12_owes FU s (zI b) (zI 1) 0 (zI 0) := by
  have h0 := hw.w0
  have hN : ((g 34).toNat : Int) = g 34 := by omega
  skip
  have hs : ∀ (d : Nat) (a : Int32), d < (g 34).toNat → ST 1 (fun n => lX12_owes n s (zI b) (zI 1) a (zI d)) (fun n => qX12_owes n s (zI b) (zI 1) a (zI d)) (fun n => lX12_owes n s (zI b) (zI 1) ((stOW g b 1) d a) (zI ((d + 1 : Nat) : Int))) (fun n => qX12_owes n s (zI b) (zI 1) ((stOW g b 1) d a) (zI ((d + 1 : Nat) : Int))) := by
    intro d a hd
    have hdl : dlZ g (d : Int) := by omega
    have hwd := hw.wd hdl
    have hn1 : (g 34 ≤ (d : Int)) = False := eq_false (by omega)
    have hn2 : ((d : Int) < g 34) = True := eq_true (by omega)
    have o0 := x_of h (d := (d : Int)) (w := 0) (by omega) (by omega)
    have p0 := x_of_r s (d := (d : Int)) (w := 0) (by omega) (by omega)
    have o1 := x_of h (d := (d : Int)) (w := 1) (by omega) (by omega)
    have p1 := x_of_r s (d := (d : Int)) (w := 1) (by omega) (by omega)
    have o2 := x_of h (d := (d : Int)) (w := 2) (by omega) (by omega)
    have p2 := x_of_r s (d := (d : Int)) (w := 2) (by omega) (by omega)
    have o3 := x_of h (d := (d : Int)) (w := 3) (by omega) (by omega)
    have p3 := x_of_r s (d := (d : Int)) (w := 3) (by omega) (by omega)
    have o4 := x_of h (d := (d : Int)) (w := 4) (by omega) (by omega)
    have p4 := x_of_r s (d := (d : Int)) (w := 4) (by omega) (by omega)
    have o5 := x_of h (d := (d : Int)) (w := 5) (by omega) (by omega)
    have p5 := x_of_r s (d := (d : Int)) (w := 5) (by omega) (by omega)
    have o6 := x_of h (d := (d : Int)) (w := 6) (by omega) (by omega)
    have p6 := x_of_r s (d := (d : Int)) (w := 6) (by omega) (by omega)
    have o7 := x_of h (d := (d : Int)) (w := 7) (by omega) (by omega)
    have p7 := x_of_r s (d := (d : Int)) (w := 7) (by omega) (by omega)
    have o8 := x_of h (d := (d : Int)) (w := 8) (by omega) (by omega)
    have p8 := x_of_r s (d := (d : Int)) (w := 8) (by omega) (by omega)
    obtain ⟨e_siz, r_siz⟩ := x_sizeOf h hw hdl
    obtain ⟨e_sor, r_sor⟩ := x_sortOf h hw hdl
    obtain ⟨e_val, r_val⟩ := x_valueOf h hw hdl
    have e_op := x_isOpen h hw (d := (d : Int)) (by omega)
    have r_op := x_isOpen_r h hw (d := (d : Int)) (by omega)
    skip
    refine ⟨1, Nat.le_refl _, fun n => ?_⟩
    rcases tf (opZ g d) with hc0 | hc0 <;> rcases tf (oZ g d 1 = b) with hc1 | hc1 <;>
      simp (disch := omega) only [lX12_owes, qX12_owes, tX12_owes_29, uX12_owes_29, x_34 h, zl0, zl1, zl2, zl3, zl4, zl5, zl6, zl7, zl8, zl9, Int.reduceAdd, Int.reduceSub, Int.reduceMul, Int.reduceNeg, Int.reduceLT, Int.reduceLE, Int.reduceToNat, Int.reduceEq, z_add, z_sub, z_mul, z_neg, z_le, z_lt, z_eq, z_in, e_op, r_op, o0, p0, o1, p1, hn1, hn2, bI_F, bI_T, bI_z, bI_o, eq_self, hc0, hc1, stOW, i_a0, i_s0, i_or0, Int.natCast_succ, Int.sub_sub, Int.add_assoc, Int.add_zero, Int.zero_add, Int.sub_zero, if_true, if_false, true_and, and_true, not_true, not_false_eq_true, false_implies, true_implies, imp_self, and_self]
  obtain ⟨e1, r1⟩ := ST_fu (ST_trans (ST_fold (g 34).toNat (stOW g b 1) _ _ hs 0) (ST_1 (F' := fun _ => ((fold (stOW g b 1) (g 34).toNat 0), s)) (C' := fun _ => True) (fun n => by
    skip
    simp (disch := omega) only [lX12_owes, qX12_owes, tX12_owes_29, uX12_owes_29, x_34 h, zl0, zl1, zl2, zl3, zl4, zl5, zl6, zl7, zl8, zl9, Int.reduceAdd, Int.reduceSub, Int.reduceMul, Int.reduceNeg, Int.reduceLT, Int.reduceLE, Int.reduceToNat, Int.reduceEq, z_add, z_sub, z_mul, z_neg, z_le, z_lt, z_eq, z_in, hN, Int.le_refl, Int.lt_irrefl, i_a0, i_s0, i_or0, Int.natCast_succ, Int.sub_sub, Int.add_assoc, Int.add_zero, Int.zero_add, Int.sub_zero, if_true, if_false, true_and, and_true, not_true, not_false_eq_true, false_implies, true_implies, imp_self, and_self]))) (by omega)
  exact ⟨e1, r1⟩

theorem y_owes_l1 (h : LdR s 31 5 g) (hw : WF g) {b : Int} (hb : IR b) : lX11_owes FU s (zI b) (zI 1) 0 (zI 0) = (fold (stOW g b 1) (g 34).toNat 0) ∧ qX11_owes FU s (zI b) (zI 1) 0 (zI 0) := by
  have h0 := hw.w0
  have hN : ((g 34).toNat : Int) = g 34 := by omega
  skip
  have hs : ∀ (d : Nat) (a : Int32), d < (g 34).toNat → ST 1 (fun n => lX11_owes n s (zI b) (zI 1) a (zI d)) (fun n => qX11_owes n s (zI b) (zI 1) a (zI d)) (fun n => lX11_owes n s (zI b) (zI 1) ((stOW g b 1) d a) (zI ((d + 1 : Nat) : Int))) (fun n => qX11_owes n s (zI b) (zI 1) ((stOW g b 1) d a) (zI ((d + 1 : Nat) : Int))) := by
    intro d a hd
    have hdl : dlZ g (d : Int) := by omega
    have hwd := hw.wd hdl
    have hn1 : (g 34 ≤ (d : Int)) = False := eq_false (by omega)
    have hn2 : ((d : Int) < g 34) = True := eq_true (by omega)
    obtain ⟨f0, f1, f2, f3, f4, f5, f6, f7, f8⟩ := n_f h.2 hw hdl
    have c_vp := y_vp hw hdl
    obtain ⟨c_op, cr_op⟩ := y_isOpen (P := 5) h.2 hw (d := (d : Int)) (by omega)
    obtain ⟨c_val, cr_val⟩ := y_valueOf h hw hdl
    simp only [Nat.reduceAdd] at f0 f1 f2 f3 f4 f5 f6 f7 f8
    skip
    refine ⟨1, Nat.le_refl _, fun n => ?_⟩
    rcases tf (opZ g d) with hc0 | hc0 <;> rcases tf (oZ g d 1 = b) with hc1 | hc1 <;>
      simp (disch := omega) only [lX11_owes, qX11_owes, tX11_owes_27, uX11_owes_27, h.2.1.1, zl0, zl1, zl2, zl3, zl4, zl5, zl6, zl7, zl8, zl9, Int.reduceAdd, Int.reduceSub, Int.reduceMul, Int.reduceNeg, Int.reduceLT, Int.reduceLE, Int.reduceToNat, Int.reduceEq, z_add, z_sub, z_mul, z_neg, z_le, z_lt, z_eq, z_in, c_op, cr_op, f0, f1, c_vp, hn1, hn2, bI_F, bI_T, bI_z, bI_o, eq_self, hc0, hc1, stOW, i_a0, i_s0, i_or0, Int.natCast_succ, Int.sub_sub, Int.add_assoc, Int.add_zero, Int.zero_add, Int.sub_zero, if_true, if_false, true_and, and_true, not_true, not_false_eq_true, false_implies, true_implies, imp_self, and_self]
  obtain ⟨e1, r1⟩ := ST_fu (ST_trans (ST_fold (g 34).toNat (stOW g b 1) _ _ hs 0) (ST_1 (F' := fun _ => (fold (stOW g b 1) (g 34).toNat 0)) (C' := fun _ => True) (fun n => by
    skip
    simp (disch := omega) only [lX11_owes, qX11_owes, tX11_owes_27, uX11_owes_27, h.2.1.1, zl0, zl1, zl2, zl3, zl4, zl5, zl6, zl7, zl8, zl9, Int.reduceAdd, Int.reduceSub, Int.reduceMul, Int.reduceNeg, Int.reduceLT, Int.reduceLE, Int.reduceToNat, Int.reduceEq, z_add, z_sub, z_mul, z_neg, z_le, z_lt, z_eq, z_in, hN, Int.le_refl, Int.lt_irrefl, i_a0, i_s0, i_or0, Int.natCast_succ, Int.sub_sub, Int.add_assoc, Int.add_zero, Int.zero_add, Int.sub_zero, if_true, if_false, true_and, and_true, not_true, not_false_eq_true, false_implies, true_implies, imp_self, and_self]))) (by omega)
  exact ⟨e1, r1⟩

end
