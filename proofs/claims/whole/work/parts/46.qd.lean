-- needs: 42.qa 43.owed
section
variable {s t : SM} {g : Nat → Int} {L P : Nat}
theorem val_b (hw : WF g) {d : Int} (hd : dlZ g d) : 0 ≤ valZ g d ∧ valZ g d ≤ 198 := by
  have h2 := hw.wd hd
  have h3 : (oZ g d 2).tdiv 2 = oZ g d 2 / 2 := Int.tdiv_eq_ediv_of_nonneg h2.2.2.1.1
  unfold valZ vbZ
  rw [h3]
  split
  · omega
  · split
    · omega
    · split <;> omega
def ahZ (g : Nat → Int) (d e : Int) : Int := if opZ g e then (if valZ g d < valZ g e then 1 else (if valZ g e = valZ g d then (if d ≤ e then 0 else 1) else 0)) else 0
theorem ah_b (g : Nat → Int) (d : Int) (n : Nat) : 0 ≤ sumZ (ahZ g d) n ∧ sumZ (ahZ g d) n ≤ n := by
  have h1 := @sumZ_ge (ahZ g d) n 0 (fun e _ _ => by unfold ahZ; split <;> (try split) <;> (try split) <;> (try split) <;> omega)
  have h2 := @sumZ_le (ahZ g d) n 1 (fun e _ _ => by unfold ahZ; split <;> (try split) <;> (try split) <;> (try split) <;> omega)
  omega
theorem y_openAhead (h : LdR s L P g) (hw : WF g) {d : Int} (hdd : dlZ g d) : vX4_openAhead s L P (zI d) = zI (sumZ (ahZ g d) (g 34).toNat) ∧ rX4_openAhead s L P (zI d) := by
  have h0 := hw.w0
  have hN : ((g 34).toNat : Int) = g 34 := by omega
  obtain ⟨cD, crD⟩ := y_valueOf h hw hdd
  have vD := val_b hw hdd
  have hs : ∀ (e : Nat) (a : Int32), e < (g 34).toNat → ST 1 (fun n => lX4_openAhead n s L P (zI d) a (zI e)) (fun n => qX4_openAhead n s L P (zI d) a (zI e)) (fun n => lX4_openAhead n s L P (zI d) (stS (ahZ g d) e a) (zI ((e + 1 : Nat) : Int))) (fun n => qX4_openAhead n s L P (zI d) (stS (ahZ g d) e a) (zI ((e + 1 : Nat) : Int))) := by
    intro e a hd
    have hdl : dlZ g (e : Int) := by omega
    have hwd := hw.wd hdl
    have hn1 : (g 34 ≤ (e : Int)) = False := eq_false (by omega)
    have hn2 : ((e : Int) < g 34) = True := eq_true (by omega)
    obtain ⟨f0, f1, f2, f3, f4, f5, f6, f7, f8⟩ := n_f h.2 hw hdl
    have c_vp := y_vp hw hdl
    obtain ⟨c_op, cr_op⟩ := y_isOpen (P := P) h.2 hw (d := (e : Int)) (by omega)
    obtain ⟨c_val, cr_val⟩ := y_valueOf h hw hdl
    have vE := val_b hw hdl
    refine ⟨1, Nat.le_refl _, fun n => ?_⟩
    rcases tf (opZ g e) with k0 | k0 <;> rcases tf (valZ g d < valZ g e) with k1 | k1 <;> rcases tf (valZ g e = valZ g d) with k2 | k2 <;> rcases tf (d ≤ e) with k3 | k3 <;>
      simp (disch := omega) only [lX4_openAhead, qX4_openAhead, tX4_openAhead_4, uX4_openAhead_4, h.2.1.1, zl0, zl1, z_add, z_lt, z_le, z_eq, cD, crD, c_op, cr_op, c_val, cr_val, k0, k1, k2, k3, stS, ahZ, hn1, hn2, bI_T, bI_F, bI_z, Int.reduceAdd, Int.reduceSub, Int.reduceMul, Int.reduceNeg, Int.reduceLT, Int.reduceLE, Int.reduceToNat, Int.reduceEq, i_a0, i_s0, i_or0, Int.natCast_succ, Int.sub_sub, Int.add_assoc, Int.add_zero, Int.zero_add, Int.sub_zero, if_true, if_false, true_and, and_true, not_true, not_false_eq_true, false_implies, true_implies, imp_self, and_self, and_false, false_and, or_true, true_or, or_false, false_or, ite_self, implies_true]
  obtain ⟨e1, r1⟩ := ST_fu (ST_trans (ST_fold (g 34).toNat (stS (ahZ g d)) _ _ hs 0) (ST_1 (F' := fun _ => fold (stS (ahZ g d)) (g 34).toNat 0) (C' := fun _ => True) (fun n => by
    simp (disch := omega) only [lX4_openAhead, qX4_openAhead, tX4_openAhead_4, uX4_openAhead_4, h.2.1.1, zl0, zl1, z_le, hN, Int.le_refl, if_true, if_false, true_and, and_true, not_true, not_false_eq_true, false_implies, true_implies, imp_self, and_self]))) (by omega)
  refine ⟨e1.trans ?_, r1⟩
  rw [zl0, fold_S, Int.zero_add]
def stGR (g : Nat → Int) (k : Int) (d : Nat) (a : Unit) : Int32 ⊕ Unit := if opZ g d then (if sumZ (ahZ g d) (g 34).toNat = k then .inl (zI (d : Int)) else .inr a) else .inr a
theorem y_gr_l (h : LdR s 31 5 g) (hw : WF g) {k : Int} (hk : IR k) : lX11_greatest FU s (zI k) (zI 0) = run (stGR g k) (fun _ => zI (-1)) (g 34).toNat 0 () ∧ qX11_greatest FU s (zI k) (zI 0) := by
  have h0 := hw.w0
  have hN : ((g 34).toNat : Int) = g 34 := by omega
  have hs := ST_run (B := 1) (g 34).toNat (stGR g k) (fun _ => zI (-1)) (fun v => v) (fun d a n => lX11_greatest n s (zI k) (zI (d : Int))) (fun d a n => qX11_greatest n s (zI k) (zI (d : Int))) (by
    intro d a hd
    have hdl : dlZ g (d : Int) := by omega
    have hwd := hw.wd hdl
    have hn1 : (g 34 ≤ (d : Int)) = False := eq_false (by omega)
    have hn2 : ((d : Int) < g 34) = True := eq_true (by omega)
    obtain ⟨f0, f1, f2, f3, f4, f5, f6, f7, f8⟩ := n_f h.2 hw hdl
    have c_vp := y_vp hw hdl
    obtain ⟨c_op, cr_op⟩ := y_isOpen (P := 5) h.2 hw (d := (d : Int)) (by omega)
    obtain ⟨c_val, cr_val⟩ := y_valueOf h hw hdl
    simp only [Nat.reduceAdd] at f0 f1 f2 f3 f4 f5 f6 f7 f8
    obtain ⟨e, r⟩ := y_openAhead h hw hdl
    have hb := ah_b g d (g 34).toNat
    unfold stGR
    rcases tf (opZ g d) with k0 | k0 <;> rcases tf (sumZ (ahZ g d) (g 34).toNat = k) with k1 | k1 <;>
      simp only [k0, k1, if_true, if_false, true_and, and_true, not_true, not_false_eq_true, false_implies, true_implies, imp_self, and_self] <;>
      refine ⟨1, by decide, fun n => ?_⟩ <;>
      simp (disch := omega) only [lX11_greatest, qX11_greatest, tX11_greatest_8, uX11_greatest_8, h.2.1.1, zl0, zl1, z_add, z_le, z_eq, c_op, cr_op, e, r, k0, k1, hn1, bI_T, bI_F, bI_z, Int.reduceAdd, Int.reduceSub, Int.reduceMul, Int.reduceNeg, Int.reduceLT, Int.reduceLE, Int.reduceToNat, Int.reduceEq, i_a0, i_s0, i_or0, Int.natCast_succ, Int.sub_sub, Int.add_assoc, Int.add_zero, Int.zero_add, Int.sub_zero, if_true, if_false, true_and, and_true, not_true, not_false_eq_true, false_implies, true_implies, imp_self, and_self, and_false, false_and, or_true, true_or, or_false, false_or, ite_self, implies_true]) (by
    intro a
    refine ⟨1, by decide, fun n => ?_⟩
    simp (disch := omega) only [lX11_greatest, qX11_greatest, tX11_greatest_8, uX11_greatest_8, h.2.1.1, zl0, zl1, z_neg, z_le, hN, Int.le_refl, if_true, if_false, true_and, and_true, not_true, not_false_eq_true, false_implies, true_implies, imp_self, and_self, and_false, false_and, or_true, true_or, or_false, false_or, ite_self, implies_true]) (g 34).toNat 0 () (by omega)
  exact ST_fu hs (by omega)
theorem x_gr_in (h : RR s g) (hw : WF g) (k : Int32) {d : Int} (hdd : dlZ g d) : ST 61 (fun n => (lX12_greatest n).2 s k (zI d) (zI 0) (zI 0)) (fun n => (qX12_greatest n).2 s k (zI d) (zI 0) (zI 0)) (fun n => (lX12_greatest n).2 s k (zI d) (zI (sumZ (ahZ g d) (g 34).toNat)) (zI (g 34))) (fun n => (qX12_greatest n).2 s k (zI d) (zI (sumZ (ahZ g d) (g 34).toNat)) (zI (g 34))) := by
  have h0 := hw.w0
  have hN : ((g 34).toNat : Int) = g 34 := by omega
  obtain ⟨cD, crD⟩ := x_valueOf h hw hdd
  have vD := val_b hw hdd
  have hs : ∀ (e : Nat) (a : Int32), e < (g 34).toNat → ST 1 (fun n => (lX12_greatest n).2 s k (zI d) a (zI e)) (fun n => (qX12_greatest n).2 s k (zI d) a (zI e)) (fun n => (lX12_greatest n).2 s k (zI d) (stS (ahZ g d) e a) (zI ((e + 1 : Nat) : Int))) (fun n => (qX12_greatest n).2 s k (zI d) (stS (ahZ g d) e a) (zI ((e + 1 : Nat) : Int))) := by
    intro e a hd
    have hdl : dlZ g (e : Int) := by omega
    have hwd := hw.wd hdl
    have hn1 : (g 34 ≤ (e : Int)) = False := eq_false (by omega)
    have hn2 : ((e : Int) < g 34) = True := eq_true (by omega)
    have o0 := x_of h (d := (e : Int)) (w := 0) (by omega) (by omega)
    have p0 := x_of_r s (d := (e : Int)) (w := 0) (by omega) (by omega)
    have o1 := x_of h (d := (e : Int)) (w := 1) (by omega) (by omega)
    have p1 := x_of_r s (d := (e : Int)) (w := 1) (by omega) (by omega)
    have o2 := x_of h (d := (e : Int)) (w := 2) (by omega) (by omega)
    have p2 := x_of_r s (d := (e : Int)) (w := 2) (by omega) (by omega)
    have o3 := x_of h (d := (e : Int)) (w := 3) (by omega) (by omega)
    have p3 := x_of_r s (d := (e : Int)) (w := 3) (by omega) (by omega)
    have o4 := x_of h (d := (e : Int)) (w := 4) (by omega) (by omega)
    have p4 := x_of_r s (d := (e : Int)) (w := 4) (by omega) (by omega)
    have o5 := x_of h (d := (e : Int)) (w := 5) (by omega) (by omega)
    have p5 := x_of_r s (d := (e : Int)) (w := 5) (by omega) (by omega)
    have o6 := x_of h (d := (e : Int)) (w := 6) (by omega) (by omega)
    have p6 := x_of_r s (d := (e : Int)) (w := 6) (by omega) (by omega)
    have o7 := x_of h (d := (e : Int)) (w := 7) (by omega) (by omega)
    have p7 := x_of_r s (d := (e : Int)) (w := 7) (by omega) (by omega)
    have o8 := x_of h (d := (e : Int)) (w := 8) (by omega) (by omega)
    have p8 := x_of_r s (d := (e : Int)) (w := 8) (by omega) (by omega)
    obtain ⟨e_siz, r_siz⟩ := x_sizeOf h hw hdl
    obtain ⟨e_sor, r_sor⟩ := x_sortOf h hw hdl
    obtain ⟨e_val, r_val⟩ := x_valueOf h hw hdl
    have e_op := x_isOpen h hw (d := (e : Int)) (by omega)
    have r_op := x_isOpen_r h hw (d := (e : Int)) (by omega)
    have vE := val_b hw hdl
    rcases tf (opZ g e) with k0 | k0 <;> rcases tf (valZ g d < valZ g e) with k1 | k1 <;> rcases tf (valZ g e = valZ g d) with k2 | k2 <;> rcases tf (d ≤ e) with k3 | k3
    all_goals
      (refine ⟨1, by decide, fun n => ?_⟩; dsimp only []; rw [lpX12_greatest_34 (n), qpX12_greatest_34 (n)]; generalize hlK : lX12_greatest (n) = K; generalize hqK : qX12_greatest (n) = Q; simp (disch := omega) only [tX12_greatest_34, uX12_greatest_34, x_34 h, zl0, zl1, zl2, zl3, zl4, zl5, zl6, zl7, zl8, zl9, Int.reduceAdd, Int.reduceSub, Int.reduceMul, Int.reduceNeg, Int.reduceLT, Int.reduceLE, Int.reduceToNat, Int.reduceEq, z_add, z_sub, z_mul, z_neg, z_le, z_lt, z_eq, z_in, e_op, r_op, e_val, r_val, hn1, hn2, bI_F, bI_T, bI_z, bI_o, eq_self, z_lt, cD, crD, k0, k1, k2, k3, stS, ahZ, or_true, i_a0, i_s0, i_or0, Int.natCast_succ, Int.sub_sub, Int.add_assoc, Int.add_zero, Int.zero_add, Int.sub_zero, if_true, if_false, true_and, and_true, not_true, not_false_eq_true, false_implies, true_implies, imp_self, and_self]; done)
  have := ST_fold (g 34).toNat (stS (ahZ g d)) _ _ hs (zI 0)
  rw [fold_S, Int.zero_add] at this
  simp only [hN] at this
  exact ST_mono this (by omega)
theorem x_gr_l (h : RR s g) (hw : WF g) {k : Int} (hk : IR k) : (lX12_greatest FU).1 s (zI k) (zI 0) = (run (stGR g k) (fun _ => zI (-1)) (g 34).toNat 0 (), s) ∧ (qX12_greatest FU).1 s (zI k) (zI 0) := by
  have h0 := hw.w0
  have hN : ((g 34).toNat : Int) = g 34 := by omega
  have hs := ST_run (B := 63) (g 34).toNat (stGR g k) (fun _ => zI (-1)) (fun v => (v, s)) (fun d a n => (lX12_greatest n).1 s (zI k) (zI (d : Int))) (fun d a n => (qX12_greatest n).1 s (zI k) (zI (d : Int))) (by
    intro d a hd
    have hdl : dlZ g (d : Int) := by omega
    have hwd := hw.wd hdl
    have hn1 : (g 34 ≤ (d : Int)) = False := eq_false (by omega)
    have hn2 : ((d : Int) < g 34) = True := eq_true (by omega)
    have o0 := x_of h (d := (d : Int)) (w := 0) (by omega) (by omega)
    have p0 := x_of_r s (d := (d : Int)) (w := 0) (by omega) (by omega)
    have o1 := x_of h (d := (d : Int)) (w := 1) (by omega) (by omega)
    have p1 := x_of_r s (d := (d : Int)) (w := 1) (by omega) (by omega)
    have o2 := x_of h (d := (d : Int)) (w := 2) (by omega) (by omega)
    have p2 := x_of_r s (d := (d : Int)) (w := 2) (by omega) (by omega)
    have o3 := x_of h (d := (d : Int)) (w := 3) (by omega) (by omega)
    have p3 := x_of_r s (d := (d : Int)) (w := 3) (by omega) (by omega)
    have o4 := x_of h (d := (d : Int)) (w := 4) (by omega) (by omega)
    have p4 := x_of_r s (d := (d : Int)) (w := 4) (by omega) (by omega)
    have o5 := x_of h (d := (d : Int)) (w := 5) (by omega) (by omega)
    have p5 := x_of_r s (d := (d : Int)) (w := 5) (by omega) (by omega)
    have o6 := x_of h (d := (d : Int)) (w := 6) (by omega) (by omega)
    have p6 := x_of_r s (d := (d : Int)) (w := 6) (by omega) (by omega)
    have o7 := x_of h (d := (d : Int)) (w := 7) (by omega) (by omega)
    have p7 := x_of_r s (d := (d : Int)) (w := 7) (by omega) (by omega)
    have o8 := x_of h (d := (d : Int)) (w := 8) (by omega) (by omega)
    have p8 := x_of_r s (d := (d : Int)) (w := 8) (by omega) (by omega)
    obtain ⟨e_siz, r_siz⟩ := x_sizeOf h hw hdl
    obtain ⟨e_sor, r_sor⟩ := x_sortOf h hw hdl
    obtain ⟨e_val, r_val⟩ := x_valueOf h hw hdl
    have e_op := x_isOpen h hw (d := (d : Int)) (by omega)
    have r_op := x_isOpen_r h hw (d := (d : Int)) (by omega)
    have hb := ah_b g d (g 34).toNat
    have hmid := x_gr_in h hw (zI k) hdl
    have t1 : opZ g d → ST 1 (fun n => (lX12_greatest n).1 s (zI k) (zI (d : Int))) (fun n => (qX12_greatest n).1 s (zI k) (zI (d : Int))) (fun n => (lX12_greatest n).2 s (zI k) (zI d) (zI 0) (zI 0)) (fun n => (qX12_greatest n).2 s (zI k) (zI d) (zI 0) (zI 0)) := by
      intro ho
      have k0 : opZ g d = True := eq_true ho
      (refine ⟨1, by decide, fun n => ?_⟩; dsimp only []; rw [lpX12_greatest_7 (n), qpX12_greatest_7 (n)]; generalize hlK : lX12_greatest (n) = K; generalize hqK : qX12_greatest (n) = Q; simp (disch := omega) only [tX12_greatest_7, uX12_greatest_7, x_34 h, zl0, zl1, zl2, zl3, zl4, zl5, zl6, zl7, zl8, zl9, Int.reduceAdd, Int.reduceSub, Int.reduceMul, Int.reduceNeg, Int.reduceLT, Int.reduceLE, Int.reduceToNat, Int.reduceEq, z_add, z_sub, z_mul, z_neg, z_le, z_lt, z_eq, z_in, e_op, r_op, hn1, hn2, bI_F, bI_T, bI_z, bI_o, eq_self, k0, i_a0, i_s0, i_or0, Int.natCast_succ, Int.sub_sub, Int.add_assoc, Int.add_zero, Int.zero_add, Int.sub_zero, if_true, if_false, true_and, and_true, not_true, not_false_eq_true, false_implies, true_implies, imp_self, and_self]; done)
    unfold stGR
    rcases tf (opZ g d) with k0 | k0
    · rcases tf (sumZ (ahZ g d) (g 34).toNat = k) with k1 | k1 <;>
        simp only [k0, k1, if_true, if_false, true_and, and_true, not_true, not_false_eq_true, false_implies, true_implies, imp_self, and_self] <;>
        refine ST_mono (ST_trans (t1 (of_eq_true k0)) (ST_trans hmid (B2 := 1) ?_)) (by omega)
      all_goals
        (refine ⟨1, by decide, fun n => ?_⟩; dsimp only []; rw [lpX12_greatest_34 (n), qpX12_greatest_34 (n)]; generalize hlK : lX12_greatest (n) = K; generalize hqK : qX12_greatest (n) = Q; simp (disch := omega) only [tX12_greatest_34, uX12_greatest_34, x_34 h, zl0, zl1, zl2, zl3, zl4, zl5, zl6, zl7, zl8, zl9, Int.reduceAdd, Int.reduceSub, Int.reduceMul, Int.reduceNeg, Int.reduceLT, Int.reduceLE, Int.reduceToNat, Int.reduceEq, z_add, z_sub, z_mul, z_neg, z_le, z_lt, z_eq, z_in, hn1, hn2, bI_F, bI_T, bI_z, bI_o, eq_self, k0, k1, Int.le_refl, Int.lt_irrefl, i_a0, i_s0, i_or0, Int.natCast_succ, Int.sub_sub, Int.add_assoc, Int.add_zero, Int.zero_add, Int.sub_zero, if_true, if_false, true_and, and_true, not_true, not_false_eq_true, false_implies, true_implies, imp_self, and_self]; done)
    · simp only [k0, if_true, if_false, true_and, and_true, not_true, not_false_eq_true, false_implies, true_implies, imp_self, and_self]
      refine ST_mono (B1 := 1) ?_ (by omega)
      (refine ⟨1, by decide, fun n => ?_⟩; dsimp only []; rw [lpX12_greatest_7 (n), qpX12_greatest_7 (n)]; generalize hlK : lX12_greatest (n) = K; generalize hqK : qX12_greatest (n) = Q; simp (disch := omega) only [tX12_greatest_7, uX12_greatest_7, x_34 h, zl0, zl1, zl2, zl3, zl4, zl5, zl6, zl7, zl8, zl9, Int.reduceAdd, Int.reduceSub, Int.reduceMul, Int.reduceNeg, Int.reduceLT, Int.reduceLE, Int.reduceToNat, Int.reduceEq, z_add, z_sub, z_mul, z_neg, z_le, z_lt, z_eq, z_in, e_op, r_op, hn1, hn2, bI_F, bI_T, bI_z, bI_o, eq_self, k0, i_a0, i_s0, i_or0, Int.natCast_succ, Int.sub_sub, Int.add_assoc, Int.add_zero, Int.zero_add, Int.sub_zero, if_true, if_false, true_and, and_true, not_true, not_false_eq_true, false_implies, true_implies, imp_self, and_self]; done)
    ) (by
    intro a
    refine ST_mono (B1 := 1) (ST_1 fun n => ?_) (by omega)
    simp (disch := omega) only [↓lpX12_greatest_7, ↓qpX12_greatest_7, tX12_greatest_7, uX12_greatest_7, x_34 h, zl0, zl1, z_neg, z_le, hN, Int.le_refl, if_true, if_false, true_and, and_true, not_true, not_false_eq_true, false_implies, true_implies, imp_self, and_self, and_false, false_and, or_true, true_or, or_false, false_or, ite_self, implies_true]) (g 34).toNat 0 () (by omega)
  exact ST_fu hs (by omega)
theorem gr_neg (g : Nat → Int) {k : Int} (hk : k < 0) : ∀ r d, run (stGR g k) (fun _ => zI (-1)) r d () = zI (-1) := by
  intro r
  induction r with
  | zero => intro d; rfl
  | succ r ih =>
    intro d
    have hb := ah_b g d (g 34).toNat
    have h1 : stGR g k d () = .inr () := by
      unfold stGR
      split
      · rw [if_neg (by omega)]
      · rfl
    unfold run
    rw [h1]
    exact ih (d + 1)
theorem q_greatest (h : LdR s 31 5 g) (h2 : RR s g) (hw : WF g) (a1 : Int32) : rX11_greatest s a1 ∧ rX12_greatest s a1 ∧ vX11_greatest s a1 = vX12_greatest s a1 ∧ mX12_greatest s a1 = Th s := by
  obtain ⟨k, hk, rfl⟩ := z_ex a1
  have h3 := Th_R h2
  obtain ⟨e1, r1⟩ := x_gr_l h3 hw hk
  obtain ⟨e2, r2⟩ := y_gr_l h hw hk
  unfold rX11_greatest rX12_greatest vX11_greatest vX12_greatest mX12_greatest fX11_greatest fX12_greatest
  rcases tf (0 ≤ k) with c1 | c1
  · simp (disch := omega) only [zl0, zl1, z_neg, z_le, c1, e1, r1, e2, r2, Int.reduceAdd, Int.reduceSub, Int.reduceMul, Int.reduceNeg, Int.reduceLT, Int.reduceLE, Int.reduceToNat, Int.reduceEq, if_true, if_false, true_and, and_true, not_true, not_false_eq_true, false_implies, true_implies, imp_self, and_self, and_false, false_and, or_true, true_or, or_false, false_or, ite_self, implies_true]
  · have e3 := gr_neg g (k := k) (by have := of_eq_false c1; omega) (g 34).toNat 0
    simp (disch := omega) only [zl0, zl1, z_neg, z_le, c1, e1, r1, e3, Int.reduceAdd, Int.reduceSub, Int.reduceMul, Int.reduceNeg, Int.reduceLT, Int.reduceLE, Int.reduceToNat, Int.reduceEq, if_true, if_false, true_and, and_true, not_true, not_false_eq_true, false_implies, true_implies, imp_self, and_self, and_false, false_and, or_true, true_or, or_false, false_or, ite_self, implies_true]
end
