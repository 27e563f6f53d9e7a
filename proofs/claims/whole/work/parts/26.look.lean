section
variable {s : SM} {g : Nat → Int} {L P : Nat}
def stOM (g : Nat → Int) (d : Nat) (a : Int32) : Int32 := if opZ g d then a + 1 else a + 0
def stNT (g : Nat → Int) (b : Int) (d : Nat) (a : Int32) : Int32 := if opZ g d then a + (if oZ g d 0 = b then zI (valZ g d) else zI 0) - (if oZ g d 1 = b then zI (valZ g d) else zI 0) else a
def stMO (g : Nat → Int) (b y : Int) (d : Nat) (a : Int32) : Int32 := a + (if oZ g d 6 = b then (if y < oZ g d 4 then zI 0 else zI 1) else zI 0) + (if oZ g d 7 = b then (if y < oZ g d 4 then zI 0 else zI 1) else zI 0)
theorem x_openMany_l (h : RR s g) (hw : WF g) : lX12_openMany FU s 0 (zI 0) = (fold (stOM g) (g 34).toNat 0) ∧ qX12_openMany FU s 0 (zI 0) := by
  have h0 := hw.w0
  have hN : ((g 34).toNat : Int) = g 34 := by omega
  skip
  have hs : ∀ (d : Nat) (a : Int32), d < (g 34).toNat → ST 1 (fun n => lX12_openMany n s a (zI d)) (fun n => qX12_openMany n s a (zI d)) (fun n => lX12_openMany n s ((stOM g) d a) (zI ((d + 1 : Nat) : Int))) (fun n => qX12_openMany n s ((stOM g) d a) (zI ((d + 1 : Nat) : Int))) := by
    intro d a hd
    have hdl : dlZ g (d : Int) := by omega
    have hwd := hw.wd hdl
    have hn1 : (g 34 ≤ (d : Int)) = False := eq_false (by omega)
    have hn2 : ((d : Int) < g 34) = True := eq_true (by omega)
    have o0 := x_of h (d := (d : Int)) (w := 0) (by omega) (by omega)
    have p0 := x_of_r s (d := (d : Int)) (w := 0) (by omega) (by omega)
    have o1 := x_of h (d := (d : Int)) (w := 1) (by omega) (by omega)
    have p1 := x_of_r s (d := (d : Int)) (w := 1) (by omega) (by omega)
    have o2 := x_of h (d := (d : Int)) (w := 2) (by omega) (by omega)
    have p2 := x_of_r s (d := (d : Int)) (w := 2) (by omega) (by omega)
    have o3 := x_of h (d := (d : Int)) (w := 3) (by omega) (by omega)
    have p3 := x_of_r s (d := (d : Int)) (w := 3) (by omega) (by omega)
    have o4 := x_of h (d := (d : Int)) (w := 4) (by omega) (by omega)
    have p4 := x_of_r s (d := (d : Int)) (w := 4) (by omega) (by omega)
    have o5 := x_of h (d := (d : Int)) (w := 5) (by omega) (by omega)
    have p5 := x_of_r s (d := (d : Int)) (w := 5) (by omega) (by omega)
    have o6 := x_of h (d := (d : Int)) (w := 6) (by omega) (by omega)
    have p6 := x_of_r s (d := (d : Int)) (w := 6) (by omega) (by omega)
    have o7 := x_of h (d := (d : Int)) (w := 7) (by omega) (by omega)
    have p7 := x_of_r s (d := (d : Int)) (w := 7) (by omega) (by omega)
    have o8 := x_of h (d := (d : Int)) (w := 8) (by omega) (by omega)
    have p8 := x_of_r s (d := (d : Int)) (w := 8) (by omega) (by omega)
    obtain ⟨e_siz, r_siz⟩ := x_sizeOf h hw hdl
    obtain ⟨e_sor, r_sor⟩ := x_sortOf h hw hdl
    obtain ⟨e_val, r_val⟩ := x_valueOf h hw hdl
    have e_op := x_isOpen h hw (d := (d : Int)) (by omega)
    have r_op := x_isOpen_r h hw (d := (d : Int)) (by omega)
    skip
    refine ⟨1, Nat.le_refl _, fun n => ?_⟩
    rcases tf (opZ g d) with hc0 | hc0 <;>
      simp (disch := omega) only [lX12_openMany, qX12_openMany, tX12_openMany_4, uX12_openMany_4, x_34 h, zl0, zl1, zl2, zl3, zl4, zl5, zl6, zl7, zl8, zl9, Int.reduceAdd, Int.reduceSub, Int.reduceMul, Int.reduceNeg, Int.reduceLT, Int.reduceLE, Int.reduceToNat, Int.reduceEq, z_add, z_sub, z_mul, z_neg, z_le, z_lt, z_eq, z_in, e_op, r_op, hn1, hn2, bI_F, bI_T, bI_z, bI_o, eq_self, hc0, stOM, i_a0, i_s0, i_or0, Int.natCast_succ, Int.sub_sub, Int.add_assoc, Int.add_zero, Int.zero_add, Int.sub_zero, if_true, if_false, true_and, and_true, not_true, not_false_eq_true, false_implies, true_implies, imp_self, and_self]
  obtain ⟨e1, r1⟩ := ST_fu (ST_trans (ST_fold (g 34).toNat (stOM g) _ _ hs 0) (ST_1 (F' := fun _ => (fold (stOM g) (g 34).toNat 0)) (C' := fun _ => True) (fun n => by
    skip
    simp (disch := omega) only [lX12_openMany, qX12_openMany, tX12_openMany_4, uX12_openMany_4, x_34 h, zl0, zl1, zl2, zl3, zl4, zl5, zl6, zl7, zl8, zl9, Int.reduceAdd, Int.reduceSub, Int.reduceMul, Int.reduceNeg, Int.reduceLT, Int.reduceLE, Int.reduceToNat, Int.reduceEq, z_add, z_sub, z_mul, z_neg, z_le, z_lt, z_eq, z_in, hN, Int.le_refl, Int.lt_irrefl, i_a0, i_s0, i_or0, Int.natCast_succ, Int.sub_sub, Int.add_assoc, Int.add_zero, Int.zero_add, Int.sub_zero, if_true, if_false, true_and, and_true, not_true, not_false_eq_true, false_implies, true_implies, imp_self, and_self]))) (by omega)
  exact ⟨e1, r1⟩

theorem y_openDeals_l (h : LdR s L P g) (hw : WF g) : lX4_openDeals FU s L P 0 (zI 0) = (fold (stOM g) (g 34).toNat 0) ∧ qX4_openDeals FU s L P 0 (zI 0) := by
  have h0 := hw.w0
  have hN : ((g 34).toNat : Int) = g 34 := by omega
  skip
  have hs : ∀ (d : Nat) (a : Int32), d < (g 34).toNat → ST 1 (fun n => lX4_openDeals n s L P a (zI d)) (fun n => qX4_openDeals n s L P a (zI d)) (fun n => lX4_openDeals n s L P ((stOM g) d a) (zI ((d + 1 : Nat) : Int))) (fun n => qX4_openDeals n s L P ((stOM g) d a) (zI ((d + 1 : Nat) : Int))) := by
    intro d a hd
    have hdl : dlZ g (d : Int) := by omega
    have hwd := hw.wd hdl
    have hn1 : (g 34 ≤ (d : Int)) = False := eq_false (by omega)
    have hn2 : ((d : Int) < g 34) = True := eq_true (by omega)
    obtain ⟨f0, f1, f2, f3, f4, f5, f6, f7, f8⟩ := n_f h.2 hw hdl
    have c_vp := y_vp hw hdl
    obtain ⟨c_op, cr_op⟩ := y_isOpen (P := P) h.2 hw (d := (d : Int)) (by omega)
    obtain ⟨c_val, cr_val⟩ := y_valueOf h hw hdl
    skip
    refine ⟨1, Nat.le_refl _, fun n => ?_⟩
    rcases tf (opZ g d) with hc0 | hc0 <;>
      simp (disch := omega) only [lX4_openDeals, qX4_openDeals, tX4_openDeals_4, uX4_openDeals_4, h.2.1.1, zl0, zl1, zl2, zl3, zl4, zl5, zl6, zl7, zl8, zl9, Int.reduceAdd, Int.reduceSub, Int.reduceMul, Int.reduceNeg, Int.reduceLT, Int.reduceLE, Int.reduceToNat, Int.reduceEq, z_add, z_sub, z_mul, z_neg, z_le, z_lt, z_eq, z_in, c_op, cr_op, c_vp, hn1, hn2, bI_F, bI_T, bI_z, bI_o, eq_self, hc0, stOM, i_a0, i_s0, i_or0, Int.natCast_succ, Int.sub_sub, Int.add_assoc, Int.add_zero, Int.zero_add, Int.sub_zero, if_true, if_false, true_and, and_true, not_true, not_false_eq_true, false_implies, true_implies, imp_self, and_self]
  obtain ⟨e1, r1⟩ := ST_fu (ST_trans (ST_fold (g 34).toNat (stOM g) _ _ hs 0) (ST_1 (F' := fun _ => (fold (stOM g) (g 34).toNat 0)) (C' := fun _ => True) (fun n => by
    skip
    simp (disch := omega) only [lX4_openDeals, qX4_openDeals, tX4_openDeals_4, uX4_openDeals_4, h.2.1.1, zl0, zl1, zl2, zl3, zl4, zl5, zl6, zl7, zl8, zl9, Int.reduceAdd, Int.reduceSub, Int.reduceMul, Int.reduceNeg, Int.reduceLT, Int.reduceLE, Int.reduceToNat, Int.reduceEq, z_add, z_sub, z_mul, z_neg, z_le, z_lt, z_eq, z_in, hN, Int.le_refl, Int.lt_irrefl, i_a0, i_s0, i_or0, Int.natCast_succ, Int.sub_sub, Int.add_assoc, Int.add_zero, Int.zero_add, Int.sub_zero, if_true, if_false, true_and, and_true, not_true, not_false_eq_true, false_implies, true_implies, imp_self, and_self]))) (by omega)
  exact ⟨e1, r1⟩

theorem x_netOf_l (h : RR s g) (hw : WF g) {b : Int} (hb : IR b) : lX12_netOf FU s (zI b) 0 (zI 0) = (fold (stNT g b) (g 34).toNat 0) ∧ qX12_netOf FU s (zI b) 0 (zI 0) := by
  have h0 := hw.w0
  have hN : ((g 34).toNat : Int) = g 34 := by omega
  skip
  have hs : ∀ (d : Nat) (a : Int32), d < (g 34).toNat → ST 1 (fun n => lX12_netOf n s (zI b) a (zI d)) (fun n => qX12_netOf n s (zI b) a (zI d)) (fun n => lX12_netOf n s (zI b) ((stNT g b) d a) (zI ((d + 1 : Nat) : Int))) (fun n => qX12_netOf n s (zI b) ((stNT g b) d a) (zI ((d + 1 : Nat) : Int))) := by
    intro d a hd
    have hdl : dlZ g (d : Int) := by omega
    have hwd := hw.wd hdl
    have hn1 : (g 34 ≤ (d : Int)) = False := eq_false (by omega)
    have hn2 : ((d : Int) < g 34) = True := eq_true (by omega)
    have o0 := x_of h (d := (d : Int)) (w := 0) (by omega) (by omega)
    have p0 := x_of_r s (d := (d : Int)) (w := 0) (by omega) (by omega)
    have o1 := x_of h (d := (d : Int)) (w := 1) (by omega) (by omega)
    have p1 := x_of_r s (d := (d : Int)) (w := 1) (by omega) (by omega)
    have o2 := x_of h (d := (d : Int)) (w := 2) (by omega) (by omega)
    have p2 := x_of_r s (d := (d : Int)) (w := 2) (by omega) (by omega)
    have o3 := x_of h (d := (d : Int)) (w := 3) (by omega) (by omega)
    have p3 := x_of_r s (d := (d : Int)) (w := 3) (by omega) (by omega)
    have o4 := x_of h (d := (d : Int)) (w := 4) (by omega) (by omega)
    have p4 := x_of_r s (d := (d : Int)) (w := 4) (by omega) (by omega)
    have o5 := x_of h (d := (d : Int)) (w := 5) (by omega) (by omega)
    have p5 := x_of_r s (d := (d : Int)) (w := 5) (by omega) (by omega)
    have o6 := x_of h (d := (d : Int)) (w := 6) (by omega) (by omega)
    have p6 := x_of_r s (d := (d : Int)) (w := 6) (by omega) (by omega)
    have o7 := x_of h (d := (d : Int)) (w := 7) (by omega) (by omega)
    have p7 := x_of_r s (d := (d : Int)) (w := 7) (by omega) (by omega)
    have o8 := x_of h (d := (d : Int)) (w := 8) (by omega) (by omega)
    have p8 := x_of_r s (d := (d : Int)) (w := 8) (by omega) (by omega)
    obtain ⟨e_siz, r_siz⟩ := x_sizeOf h hw hdl
    obtain ⟨e_sor, r_sor⟩ := x_sortOf h hw hdl
    obtain ⟨e_val, r_val⟩ := x_valueOf h hw hdl
    have e_op := x_isOpen h hw (d := (d : Int)) (by omega)
    have r_op := x_isOpen_r h hw (d := (d : Int)) (by omega)
    skip
    refine ⟨1, Nat.le_refl _, fun n => ?_⟩
    rcases tf (opZ g d) with hc0 | hc0 <;> rcases tf (oZ g d 0 = b) with hc1 | hc1 <;> rcases tf (oZ g d 1 = b) with hc2 | hc2 <;>
      simp (disch := omega) only [lX12_netOf, qX12_netOf, tX12_netOf_4, uX12_netOf_4, x_34 h, zl0, zl1, zl2, zl3, zl4, zl5, zl6, zl7, zl8, zl9, Int.reduceAdd, Int.reduceSub, Int.reduceMul, Int.reduceNeg, Int.reduceLT, Int.reduceLE, Int.reduceToNat, Int.reduceEq, z_add, z_sub, z_mul, z_neg, z_le, z_lt, z_eq, z_in, e_op, r_op, e_val, r_val, o0, p0, o1, p1, hn1, hn2, bI_F, bI_T, bI_z, bI_o, eq_self, hc0, hc1, hc2, stNT, i_a0, i_s0, i_or0, Int.natCast_succ, Int.sub_sub, Int.add_assoc, Int.add_zero, Int.zero_add, Int.sub_zero, if_true, if_false, true_and, and_true, not_true, not_false_eq_true, false_implies, true_implies, imp_self, and_self]
  obtain ⟨e1, r1⟩ := ST_fu (ST_trans (ST_fold (g 34).toNat (stNT g b) _ _ hs 0) (ST_1 (F' := fun _ => (fold (stNT g b) (g 34).toNat 0)) (C' := fun _ => True) (fun n => by
    skip
    simp (disch := omega) only [lX12_netOf, qX12_netOf, tX12_netOf_4, uX12_netOf_4, x_34 h, zl0, zl1, zl2, zl3, zl4, zl5, zl6, zl7, zl8, zl9, Int.reduceAdd, Int.reduceSub, Int.reduceMul, Int.reduceNeg, Int.reduceLT, Int.reduceLE, Int.reduceToNat, Int.reduceEq, z_add, z_sub, z_mul, z_neg, z_le, z_lt, z_eq, z_in, hN, Int.le_refl, Int.lt_irrefl, i_a0, i_s0, i_or0, Int.natCast_succ, Int.sub_sub, Int.add_assoc, Int.add_zero, Int.zero_add, Int.sub_zero, if_true, if_false, true_and, and_true, not_true, not_false_eq_true, false_implies, true_implies, imp_self, and_self]))) (by omega)
  exact ⟨e1, r1⟩

theorem y_netOf_l (h : LdR s L P g) (hw : WF g) {b : Int} (hb : IR b) : lX4_netOf FU s L P (zI b) 0 (zI 0) = (fold (stNT g b) (g 34).toNat 0) ∧ qX4_netOf FU s L P (zI b) 0 (zI 0) := by
  have h0 := hw.w0
  have hN : ((g 34).toNat : Int) = g 34 := by omega
  skip
  have hs : ∀ (d : Nat) (a : Int32), d < (g 34).toNat → ST 1 (fun n => lX4_netOf n s L P (zI b) a (zI d)) (fun n => qX4_netOf n s L P (zI b) a (zI d)) (fun n => lX4_netOf n s L P (zI b) ((stNT g b) d a) (zI ((d + 1 : Nat) : Int))) (fun n => qX4_netOf n s L P (zI b) ((stNT g b) d a) (zI ((d + 1 : Nat) : Int))) := by
    intro d a hd
    have hdl : dlZ g (d : Int) := by omega
    have hwd := hw.wd hdl
    have hn1 : (g 34 ≤ (d : Int)) = False := eq_false (by omega)
    have hn2 : ((d : Int) < g 34) = True := eq_true (by omega)
    obtain ⟨f0, f1, f2, f3, f4, f5, f6, f7, f8⟩ := n_f h.2 hw hdl
    have c_vp := y_vp hw hdl
    obtain ⟨c_op, cr_op⟩ := y_isOpen (P := P) h.2 hw (d := (d : Int)) (by omega)
    obtain ⟨c_val, cr_val⟩ := y_valueOf h hw hdl
    skip
    refine ⟨1, Nat.le_refl _, fun n => ?_⟩
    rcases tf (opZ g d) with hc0 | hc0 <;> rcases tf (oZ g d 0 = b) with hc1 | hc1 <;> rcases tf (oZ g d 1 = b) with hc2 | hc2 <;>
      simp (disch := omega) only [lX4_netOf, qX4_netOf, tX4_netOf_4, uX4_netOf_4, h.2.1.1, zl0, zl1, zl2, zl3, zl4, zl5, zl6, zl7, zl8, zl9, Int.reduceAdd, Int.reduceSub, Int.reduceMul, Int.reduceNeg, Int.reduceLT, Int.reduceLE, Int.reduceToNat, Int.reduceEq, z_add, z_sub, z_mul, z_neg, z_le, z_lt, z_eq, z_in, c_op, cr_op, c_val, cr_val, f0, f1, c_vp, hn1, hn2, bI_F, bI_T, bI_z, bI_o, eq_self, hc0, hc1, hc2, stNT, i_a0, i_s0, i_or0, Int.natCast_succ, Int.sub_sub, Int.add_assoc, Int.add_zero, Int.zero_add, Int.sub_zero, if_true, if_false, true_and, and_true, not_true, not_false_eq_true, false_implies, true_implies, imp_self, and_self]
  obtain ⟨e1, r1⟩ := ST_fu (ST_trans (ST_fold (g 34).toNat (stNT g b) _ _ hs 0) (ST_1 (F' := fun _ => (fold (stNT g b) (g 34).toNat 0)) (C' := fun _ => True) (fun n => by
    skip
    simp (disch := omega) only [lX4_netOf, qX4_netOf, tX4_netOf_4, uX4_netOf_4, h.2.1.1, zl0, zl1, zl2, zl3, zl4, zl5, zl6, zl7, zl8, zl9, Int.reduceAdd, Int.reduceSub, Int.reduceMul, Int.reduceNeg, Int.reduceLT, Int.reduceLE, Int.reduceToNat, Int.reduceEq, z_add, z_sub, z_mul, z_neg, z_le, z_lt, z_eq, z_in, hN, Int.le_refl, Int.lt_irrefl, i_a0, i_s0, i_or0, Int.natCast_succ, Int.sub_sub, Int.add_assoc, Int.add_zero, Int.zero_add, Int.sub_zero, if_true, if_false, true_and, and_true, not_true, not_false_eq_true, false_implies, true_implies, imp_self, and_self]))) (by omega)
  exact ⟨e1, r1⟩

theorem x_marksOn_l (h : RR s g) (hw : WF g) {b y : Int} (hb : IR b) (hy : IR y) : (lX12_marksOn FU).1 s (zI b) (zI y) 0 (zI 0) = (fold (stMO g b y) (g 34).toNat 0) ∧ (qX12_marksOn FU).1 s (zI b) (zI y) 0 (zI 0) := by
  have h0 := hw.w0
  have hN : ((g 34).toNat : Int) = g 34 := by omega
  skip
  have hs : ∀ (d : Nat) (a : Int32), d < (g 34).toNat → ST 4 (fun n => (lX12_marksOn n).1 s (zI b) (zI y) a (zI d)) (fun n => (qX12_marksOn n).1 s (zI b) (zI y) a (zI d)) (fun n => (lX12_marksOn n).1 s (zI b) (zI y) ((stMO g b y) d a) (zI ((d + 1 : Nat) : Int))) (fun n => (qX12_marksOn n).1 s (zI b) (zI y) ((stMO g b y) d a) (zI ((d + 1 : Nat) : Int))) := by
    intro d a hd
    have hdl : dlZ g (d : Int) := by omega
    have hwd := hw.wd hdl
    have hn1 : (g 34 ≤ (d : Int)) = False := eq_false (by omega)
    have hn2 : ((d : Int) < g 34) = True := eq_true (by omega)
    have o0 := x_of h (d := (d : Int)) (w := 0) (by omega) (by omega)
    have p0 := x_of_r s (d := (d : Int)) (w := 0) (by omega) (by omega)
    have o1 := x_of h (d := (d : Int)) (w := 1) (by omega) (by omega)
    have p1 := x_of_r s (d := (d : Int)) (w := 1) (by omega) (by omega)
    have o2 := x_of h (d := (d : Int)) (w := 2) (by omega) (by omega)
    have p2 := x_of_r s (d := (d : Int)) (w := 2) (by omega) (by omega)
    have o3 := x_of h (d := (d : Int)) (w := 3) (by omega) (by omega)
    have p3 := x_of_r s (d := (d : Int)) (w := 3) (by omega) (by omega)
    have o4 := x_of h (d := (d : Int)) (w := 4) (by omega) (by omega)
    have p4 := x_of_r s (d := (d : Int)) (w := 4) (by omega) (by omega)
    have o5 := x_of h (d := (d : Int)) (w := 5) (by omega) (by omega)
    have p5 := x_of_r s (d := (d : Int)) (w := 5) (by omega) (by omega)
    have o6 := x_of h (d := (d : Int)) (w := 6) (by omega) (by omega)
    have p6 := x_of_r s (d := (d : Int)) (w := 6) (by omega) (by omega)
    have o7 := x_of h (d := (d : Int)) (w := 7) (by omega) (by omega)
    have p7 := x_of_r s (d := (d : Int)) (w := 7) (by omega) (by omega)
    have o8 := x_of h (d := (d : Int)) (w := 8) (by omega) (by omega)
    have p8 := x_of_r s (d := (d : Int)) (w := 8) (by omega) (by omega)
    obtain ⟨e_siz, r_siz⟩ := x_sizeOf h hw hdl
    obtain ⟨e_sor, r_sor⟩ := x_sortOf h hw hdl
    obtain ⟨e_val, r_val⟩ := x_valueOf h hw hdl
    have e_op := x_isOpen h hw (d := (d : Int)) (by omega)
    have r_op := x_isOpen_r h hw (d := (d : Int)) (by omega)
    skip
    refine ⟨4, Nat.le_refl _, fun n => ?_⟩
    rcases tf (oZ g d 6 = b) with hc0 | hc0 <;> rcases tf (oZ g d 7 = b) with hc1 | hc1 <;> rcases tf (y < oZ g d 4) with hc2 | hc2 <;>
      simp (disch := omega) only [↓lpX12_marksOn_5, ↓lpX12_marksOn_20, ↓qpX12_marksOn_5, ↓qpX12_marksOn_20, tX12_marksOn_5, tX12_marksOn_20, uX12_marksOn_5, uX12_marksOn_20, x_34 h, zl0, zl1, zl2, zl3, zl4, zl5, zl6, zl7, zl8, zl9, Int.reduceAdd, Int.reduceSub, Int.reduceMul, Int.reduceNeg, Int.reduceLT, Int.reduceLE, Int.reduceToNat, Int.reduceEq, z_add, z_sub, z_mul, z_neg, z_le, z_lt, z_eq, z_in, o6, p6, o7, p7, o4, p4, hn1, hn2, bI_F, bI_T, bI_z, bI_o, eq_self, hc0, hc1, hc2, stMO, i_a0, i_s0, i_or0, Int.natCast_succ, Int.sub_sub, Int.add_assoc, Int.add_zero, Int.zero_add, Int.sub_zero, if_true, if_false, true_and, and_true, not_true, not_false_eq_true, false_implies, true_implies, imp_self, and_self]
  obtain ⟨e1, r1⟩ := ST_fu (ST_trans (ST_fold (g 34).toNat (stMO g b y) _ _ hs 0) (ST_1 (F' := fun _ => (fold (stMO g b y) (g 34).toNat 0)) (C' := fun _ => True) (fun n => by
    skip
    simp (disch := omega) only [↓lpX12_marksOn_5, ↓lpX12_marksOn_20, ↓qpX12_marksOn_5, ↓qpX12_marksOn_20, tX12_marksOn_5, tX12_marksOn_20, uX12_marksOn_5, uX12_marksOn_20, x_34 h, zl0, zl1, zl2, zl3, zl4, zl5, zl6, zl7, zl8, zl9, Int.reduceAdd, Int.reduceSub, Int.reduceMul, Int.reduceNeg, Int.reduceLT, Int.reduceLE, Int.reduceToNat, Int.reduceEq, z_add, z_sub, z_mul, z_neg, z_le, z_lt, z_eq, z_in, hN, Int.le_refl, Int.lt_irrefl, i_a0, i_s0, i_or0, Int.natCast_succ, Int.sub_sub, Int.add_assoc, Int.add_zero, Int.zero_add, Int.sub_zero, if_true, if_false, true_and, and_true, not_true, not_false_eq_true, false_implies, true_implies, imp_self, and_self]))) (by omega)
  exact ⟨e1, r1⟩

theorem y_marksOn_l (h : LdR s L P g) (hw : WF g) {b y : Int} (hb : IR b) (hy : IR y) : lX4_marksOn FU s L P (zI b) (zI y) 0 (zI 0) = (fold (stMO g b y) (g 34).toNat 0) ∧ qX4_marksOn FU s L P (zI b) (zI y) 0 (zI 0) := by
  have h0 := hw.w0
  have hN : ((g 34).toNat : Int) = g 34 := by omega
  skip
  have hs : ∀ (d : Nat) (a : Int32), d < (g 34).toNat → ST 1 (fun n => lX4_marksOn n s L P (zI b) (zI y) a (zI d)) (fun n => qX4_marksOn n s L P (zI b) (zI y) a (zI d)) (fun n => lX4_marksOn n s L P (zI b) (zI y) ((stMO g b y) d a) (zI ((d + 1 : Nat) : Int))) (fun n => qX4_marksOn n s L P (zI b) (zI y) ((stMO g b y) d a) (zI ((d + 1 : Nat) : Int))) := by
    intro d a hd
    have hdl : dlZ g (d : Int) := by omega
    have hwd := hw.wd hdl
    have hn1 : (g 34 ≤ (d : Int)) = False := eq_false (by omega)
    have hn2 : ((d : Int) < g 34) = True := eq_true (by omega)
    obtain ⟨f0, f1, f2, f3, f4, f5, f6, f7, f8⟩ := n_f h.2 hw hdl
    have c_vp := y_vp hw hdl
    obtain ⟨c_op, cr_op⟩ := y_isOpen (P := P) h.2 hw (d := (d : Int)) (by omega)
    obtain ⟨c_val, cr_val⟩ := y_valueOf h hw hdl
    skip
    refine ⟨1, Nat.le_refl _, fun n => ?_⟩
    rcases tf (oZ g d 6 = b) with hc0 | hc0 <;> rcases tf (oZ g d 7 = b) with hc1 | hc1 <;> rcases tf (y < oZ g d 4) with hc2 | hc2 <;>
      simp (disch := omega) only [lX4_marksOn, qX4_marksOn, tX4_marksOn_5, uX4_marksOn_5, h.2.1.1, zl0, zl1, zl2, zl3, zl4, zl5, zl6, zl7, zl8, zl9, Int.reduceAdd, Int.reduceSub, Int.reduceMul, Int.reduceNeg, Int.reduceLT, Int.reduceLE, Int.reduceToNat, Int.reduceEq, z_add, z_sub, z_mul, z_neg, z_le, z_lt, z_eq, z_in, f6, f7, f4, c_vp, hn1, hn2, bI_F, bI_T, bI_z, bI_o, eq_self, hc0, hc1, hc2, stMO, i_a0, i_s0, i_or0, Int.natCast_succ, Int.sub_sub, Int.add_assoc, Int.add_zero, Int.zero_add, Int.sub_zero, if_true, if_false, true_and, and_true, not_true, not_false_eq_true, false_implies, true_implies, imp_self, and_self]
  obtain ⟨e1, r1⟩ := ST_fu (ST_trans (ST_fold (g 34).toNat (stMO g b y) _ _ hs 0) (ST_1 (F' := fun _ => (fold (stMO g b y) (g 34).toNat 0)) (C' := fun _ => True) (fun n => by
    skip
    simp (disch := omega) only [lX4_marksOn, qX4_marksOn, tX4_marksOn_5, uX4_marksOn_5, h.2.1.1, zl0, zl1, zl2, zl3, zl4, zl5, zl6, zl7, zl8, zl9, Int.reduceAdd, Int.reduceSub, Int.reduceMul, Int.reduceNeg, Int.reduceLT, Int.reduceLE, Int.reduceToNat, Int.reduceEq, z_add, z_sub, z_mul, z_neg, z_le, z_lt, z_eq, z_in, hN, Int.le_refl, Int.lt_irrefl, i_a0, i_s0, i_or0, Int.natCast_succ, Int.sub_sub, Int.add_assoc, Int.add_zero, Int.zero_add, Int.sub_zero, if_true, if_false, true_and, and_true, not_true, not_false_eq_true, false_implies, true_implies, imp_self, and_self]))) (by omega)
  exact ⟨e1, r1⟩

end
