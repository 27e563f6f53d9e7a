-- needs: 42.qa
theorem fold_sum (f : Int → Int) (n : Nat) (x : Int) : fold (fun d a => a + zI (f (d : Int))) n (zI x) = zI (x + sumZ f n) := by
  induction n with
  | zero => show zI x = zI (x + 0); rw [Int.add_zero]
  | succ n ih => show fold _ n (zI x) + zI (f n) = _; rw [ih, z_add]; simp only [sumZ]; rw [Int.add_assoc]
def stS (f : Int → Int) (d : Nat) (a : Int32) : Int32 := a + zI (f (d : Int))
theorem fold_S (f : Int → Int) (n : Nat) (x : Int) : fold (stS f) n (zI x) = zI (x + sumZ f n) := fold_sum f n x
abbrev onX (g : Nat → Int) (d w st : Int) : Prop := 0 ≤ oZ g d (6 + w) ∧ hasZ st (oZ g d (6 + w))
abbrev onZ (g : Nat → Int) (d st : Int) : Prop := onX g d 0 st ∨ onX g d 1 st
def swZ (g : Nat → Int) (b st d : Int) : Int := if opZ g d then (if oZ g d 0 = b then (if knZ g d st then valZ g d else 0) else 0) else 0
def amZ (g : Nat → Int) (b st d : Int) : Int := if opZ g d then (if oZ g d 0 = b then (if knZ g d st then 0 else (if onZ g d st then vbZ 99 (sorZ g d) else 0)) else 0) else 0
def obZ (g : Nat → Int) (fl b st d : Int) : Int := if opZ g d then (if oZ g d 0 = b then (if knZ g d st then valZ g d else (if fl = 1 then 0 else (if onZ g d st then vbZ 99 (sorZ g d) else 0))) else 0) else 0
section
variable {s : SM} {g : Nat → Int} {L P : Nat}
theorem y_vo (h : LdR s L P g) (hw : WF g) {d x : Int} (hd : dlZ g d) (hx : 0 ≤ x ∧ x ≤ 1000) : vX6_valueOf s P (zI (oZ g d 3)) (zI x) = zI (vbZ x (sorZ g d)) ∧ rX6_valueOf s P (zI (oZ g d 3)) (zI x) := by
  have h0 := hw.w0
  have h2 := hw.wd hd
  have h4 := h.1.2.2 (oZ g d 3) h2.2.2.2.1
  have h5 := hw.siz hd
  unfold vX6_valueOf rX6_valueOf vbZ
  unfold sorZ at h5 ⊢
  rw [z_cl (by omega), h4.2, z_in (by omega)]
  refine ⟨?_, by omega⟩
  simp (disch := omega) only [zl0, zl1, zl2, zl3, z_eq, z_mul, z_div]
  split
  · rfl
  · split
    · rfl
    · split <;> rfl
theorem y_isOnAny (h : LdR s L P g) (hw : WF g) {d st : Int} (hd : dlZ g d) : vX4_isOnAny s L P (zI d) (zI st) = bI (onZ g d st) ∧ rX4_isOnAny s L P (zI d) (zI st) := by
  have hdl := hd
  have h0 := hw.w0
  have hwd := hw.wd hd
  obtain ⟨f0, f1, f2, f3, f4, f5, f6, f7, f8⟩ := n_f h.2 hw hdl
  have c_vp := y_vp hw hdl
  obtain ⟨n, hn⟩ := FUk 2 (by omega)
  unfold vX4_isOnAny rX4_isOnAny fX4_isOnAny
  rw [hn]
  have e6 : (oZ g d 6 = -1) = ¬ (0 ≤ oZ g d 6) := propext ⟨fun h => by omega, fun h => by omega⟩
  have e7 : (oZ g d 7 = -1) = ¬ (0 ≤ oZ g d 7) := propext ⟨fun h => by omega, fun h => by omega⟩
  rcases tf (0 ≤ oZ g d 6) with k2 | k2 <;> rcases tf (hasZ st (oZ g d 6)) with k3 | k3 <;> rcases tf (0 ≤ oZ g d 7) with k4 | k4 <;> rcases tf (hasZ st (oZ g d 7)) with k5 | k5 <;>
    simp (disch := omega) only [↓lpX4_isOnAny_27, ↓lpX4_isOnAny_56, ↓qpX4_isOnAny_27, ↓qpX4_isOnAny_56, tX4_isOnAny_27, tX4_isOnAny_56, uX4_isOnAny_27, uX4_isOnAny_56, f6, f7, c_vp, zl0, zl1, z_neg, z_eq, c_isIn, onZ, onX, e6, e7, k2, k3, k4, k5, bI_T, bI_F, bI_z, Int.reduceAdd, Int.reduceSub, Int.reduceMul, Int.reduceNeg, Int.reduceLT, Int.reduceLE, Int.reduceToNat, Int.reduceEq, if_true, if_false, true_and, and_true, not_true, not_false_eq_true, false_implies, true_implies, imp_self, and_self, and_false, false_and, or_true, true_or, or_false, false_or, ite_self, implies_true, zl0, zl1]
theorem y_owedSurely_l (h : LdR s L P g) (hw : WF g) {b : Int} (hb : IR b) (st : Int) : lX4_owedSurely FU s L P (zI b) (zI st) 0 (zI 0) = fold (stS (swZ g b st)) (g 34).toNat 0 ∧ qX4_owedSurely FU s L P (zI b) (zI st) 0 (zI 0) := by
  have h0 := hw.w0
  have hN : ((g 34).toNat : Int) = g 34 := by omega
  have hs : ∀ (d : Nat) (a : Int32), d < (g 34).toNat → ST 1 (fun n => lX4_owedSurely n s L P (zI b) (zI st) a (zI d)) (fun n => qX4_owedSurely n s L P (zI b) (zI st) a (zI d)) (fun n => lX4_owedSurely n s L P (zI b) (zI st) (stS (swZ g b st) d a) (zI ((d + 1 : Nat) : Int))) (fun n => qX4_owedSurely n s L P (zI b) (zI st) (stS (swZ g b st) d a) (zI ((d + 1 : Nat) : Int))) := by
    intro d a hd
    have hdl : dlZ g (d : Int) := by omega
    have hwd := hw.wd hdl
    have hn1 : (g 34 ≤ (d : Int)) = False := eq_false (by omega)
    have hn2 : ((d : Int) < g 34) = True := eq_true (by omega)
    obtain ⟨f0, f1, f2, f3, f4, f5, f6, f7, f8⟩ := n_f h.2 hw hdl
    have c_vp := y_vp hw hdl
    obtain ⟨c_op, cr_op⟩ := y_isOpen (P := P) h.2 hw (d := (d : Int)) (by omega)
    obtain ⟨c_val, cr_val⟩ := y_valueOf h hw hdl
    obtain ⟨c_kb, cr_kb⟩ := y_isKnownBy h hw (st := st) hdl
    refine ⟨1, Nat.le_refl _, fun n => ?_⟩
    rcases tf (opZ g d) with k0 | k0 <;> rcases tf (oZ g d 0 = b) with k1 | k1 <;> rcases tf (knZ g d st) with k2 | k2 <;>
      simp (disch := omega) only [lX4_owedSurely, qX4_owedSurely, tX4_owedSurely_5, uX4_owedSurely_5, h.2.1.1, zl0, zl1, z_add, z_eq, z_le, c_op, cr_op, f0, c_vp, c_val, cr_val, c_kb, cr_kb, k0, k1, k2, stS, swZ, hn1, hn2, bI_T, bI_F, bI_z, Int.reduceAdd, Int.reduceSub, Int.reduceMul, Int.reduceNeg, Int.reduceLT, Int.reduceLE, Int.reduceToNat, Int.reduceEq, i_a0, i_s0, i_or0, Int.natCast_succ, Int.sub_sub, Int.add_assoc, Int.add_zero, Int.zero_add, Int.sub_zero, if_true, if_false, true_and, and_true, not_true, not_false_eq_true, false_implies, true_implies, imp_self, and_self, and_false, false_and, or_true, true_or, or_false, false_or, ite_self, implies_true]
  obtain ⟨e1, r1⟩ := ST_fu (ST_trans (ST_fold (g 34).toNat (stS (swZ g b st)) _ _ hs 0) (ST_1 (F' := fun _ => fold (stS (swZ g b st)) (g 34).toNat 0) (C' := fun _ => True) (fun n => by
    simp (disch := omega) only [lX4_owedSurely, qX4_owedSurely, tX4_owedSurely_5, uX4_owedSurely_5, h.2.1.1, zl0, zl1, z_le, hN, Int.le_refl, Int.lt_irrefl, if_true, if_false, true_and, and_true, not_true, not_false_eq_true, false_implies, true_implies, imp_self, and_self]))) (by omega)
  exact ⟨e1, r1⟩
theorem y_owedSurely (h : LdR s L P g) (hw : WF g) {b : Int} (hb : IR b) (st : Int) : vX4_owedSurely s L P (zI b) (zI st) = zI (sumZ (swZ g b st) (g 34).toNat) ∧ rX4_owedSurely s L P (zI b) (zI st) := by
  obtain ⟨e, r⟩ := y_owedSurely_l h hw hb st
  refine ⟨e.trans ?_, r⟩
  rw [zl0, fold_S, Int.zero_add]
theorem y_owedAtMost (h : LdR s L P g) (hw : WF g) {b : Int} (hb : IR b) (st : Int) : vX4_owedAtMost s L P (zI b) (zI st) = zI (sumZ (swZ g b st) (g 34).toNat + sumZ (amZ g b st) (g 34).toNat) ∧ rX4_owedAtMost s L P (zI b) (zI st) := by
  have h0 := hw.w0
  have hN : ((g 34).toNat : Int) = g 34 := by omega
  obtain ⟨eS, rS⟩ := y_owedSurely h hw hb st
  have hs : ∀ (d : Nat) (a : Int32), d < (g 34).toNat → ST 1 (fun n => lX4_owedAtMost n s L P (zI b) (zI st) a (zI d)) (fun n => qX4_owedAtMost n s L P (zI b) (zI st) a (zI d)) (fun n => lX4_owedAtMost n s L P (zI b) (zI st) (stS (amZ g b st) d a) (zI ((d + 1 : Nat) : Int))) (fun n => qX4_owedAtMost n s L P (zI b) (zI st) (stS (amZ g b st) d a) (zI ((d + 1 : Nat) : Int))) := by
    intro d a hd
    have hdl : dlZ g (d : Int) := by omega
    have hwd := hw.wd hdl
    have hn1 : (g 34 ≤ (d : Int)) = False := eq_false (by omega)
    have hn2 : ((d : Int) < g 34) = True := eq_true (by omega)
    obtain ⟨f0, f1, f2, f3, f4, f5, f6, f7, f8⟩ := n_f h.2 hw hdl
    have c_vp := y_vp hw hdl
    obtain ⟨c_op, cr_op⟩ := y_isOpen (P := P) h.2 hw (d := (d : Int)) (by omega)
    obtain ⟨c_val, cr_val⟩ := y_valueOf h hw hdl
    obtain ⟨c_kb, cr_kb⟩ := y_isKnownBy h hw (st := st) hdl
    obtain ⟨c_oa, cr_oa⟩ := y_isOnAny h hw (st := st) hdl
    obtain ⟨c_vo, cr_vo⟩ := y_vo h hw (x := 99) hdl (by omega)
    refine ⟨1, Nat.le_refl _, fun n => ?_⟩
    rcases tf (opZ g d) with k0 | k0 <;> rcases tf (oZ g d 0 = b) with k1 | k1 <;> rcases tf (knZ g d st) with k2 | k2 <;> rcases tf (onZ g d st) with k3 | k3 <;>
      simp (disch := omega) only [lX4_owedAtMost, qX4_owedAtMost, tX4_owedAtMost_10, uX4_owedAtMost_10, h.2.1.1, zl0, zl1, zl99, z_add, z_eq, z_le, c_op, cr_op, f0, f3, c_vp, c_vo, cr_vo, c_kb, cr_kb, c_oa, cr_oa, k0, k1, k2, k3, stS, amZ, hn1, hn2, bI_T, bI_F, bI_z, Int.reduceAdd, Int.reduceSub, Int.reduceMul, Int.reduceNeg, Int.reduceLT, Int.reduceLE, Int.reduceToNat, Int.reduceEq, i_a0, i_s0, i_or0, Int.natCast_succ, Int.sub_sub, Int.add_assoc, Int.add_zero, Int.zero_add, Int.sub_zero, if_true, if_false, true_and, and_true, not_true, not_false_eq_true, false_implies, true_implies, imp_self, and_self, and_false, false_and, or_true, true_or, or_false, false_or, ite_self, implies_true]
  obtain ⟨e1, r1⟩ := ST_fu (ST_trans (ST_fold (g 34).toNat (stS (amZ g b st)) _ _ hs (zI (sumZ (swZ g b st) (g 34).toNat))) (ST_1 (F' := fun _ => fold (stS (amZ g b st)) (g 34).toNat (zI (sumZ (swZ g b st) (g 34).toNat))) (C' := fun _ => True) (fun n => by
    simp (disch := omega) only [lX4_owedAtMost, qX4_owedAtMost, tX4_owedAtMost_10, uX4_owedAtMost_10, h.2.1.1, zl0, zl1, z_le, hN, Int.le_refl, Int.lt_irrefl, if_true, if_false, true_and, and_true, not_true, not_false_eq_true, false_implies, true_implies, imp_self, and_self]))) (by omega)
  unfold vX4_owedAtMost rX4_owedAtMost fX4_owedAtMost
  rw [eS]
  exact ⟨e1.trans (fold_S _ _ _), rS, r1⟩
theorem x_owedBy (h : RR s g) (hw : WF g) {b fl : Int} (hb : IR b) (hf : fl = 0 ∨ fl = 1) (st : Int) : vX12_owedBy s (zI b) (zI st) (zI fl) = zI (sumZ (obZ g fl b st) (g 34).toNat) ∧ rX12_owedBy s (zI b) (zI st) (zI fl) := by
  have h0 := hw.w0
  have hN : ((g 34).toNat : Int) = g 34 := by omega
  have hs : ∀ (d : Nat) (a : Int32), d < (g 34).toNat → ST 3 (fun n => (lX12_owedBy n).1 s (zI b) (zI st) (zI fl) a (zI d)) (fun n => (qX12_owedBy n).1 s (zI b) (zI st) (zI fl) a (zI d)) (fun n => (lX12_owedBy n).1 s (zI b) (zI st) (zI fl) (stS (obZ g fl b st) d a) (zI ((d + 1 : Nat) : Int))) (fun n => (qX12_owedBy n).1 s (zI b) (zI st) (zI fl) (stS (obZ g fl b st) d a) (zI ((d + 1 : Nat) : Int))) := by
    intro d a hd
    have hdl : dlZ g (d : Int) := by omega
    have hwd := hw.wd hdl
    have hn1 : (g 34 ≤ (d : Int)) = False := eq_false (by omega)
    have hn2 : ((d : Int) < g 34) = True := eq_true (by omega)
    have o0 := x_of h (d := (d : Int)) (w := 0) (by omega) (by omega)
    have p0 := x_of_r s (d := (d : Int)) (w := 0) (by omega) (by omega)
    have o1 := x_of h (d := (d : Int)) (w := 1) (by omega) (by omega)
    have p1 := x_of_r s (d := (d : Int)) (w := 1) (by omega) (by omega)
    have o2 := x_of h (d := (d : Int)) (w := 2) (by omega) (by omega)
    have p2 := x_of_r s (d := (d : Int)) (w := 2) (by omega) (by omega)
    have o3 := x_of h (d := (d : Int)) (w := 3) (by omega) (by omega)
    have p3 := x_of_r s (d := (d : Int)) (w := 3) (by omega) (by omega)
    have o4 := x_of h (d := (d : Int)) (w := 4) (by omega) (by omega)
    have p4 := x_of_r s (d := (d : Int)) (w := 4) (by omega) (by omega)
    have o5 := x_of h (d := (d : Int)) (w := 5) (by omega) (by omega)
    have p5 := x_of_r s (d := (d : Int)) (w := 5) (by omega) (by omega)
    have o6 := x_of h (d := (d : Int)) (w := 6) (by omega) (by omega)
    have p6 := x_of_r s (d := (d : Int)) (w := 6) (by omega) (by omega)
    have o7 := x_of h (d := (d : Int)) (w := 7) (by omega) (by omega)
    have p7 := x_of_r s (d := (d : Int)) (w := 7) (by omega) (by omega)
    have o8 := x_of h (d := (d : Int)) (w := 8) (by omega) (by omega)
    have p8 := x_of_r s (d := (d : Int)) (w := 8) (by omega) (by omega)
    obtain ⟨e_siz, r_siz⟩ := x_sizeOf h hw hdl
    obtain ⟨e_sor, r_sor⟩ := x_sortOf h hw hdl
    obtain ⟨e_val, r_val⟩ := x_valueOf h hw hdl
    have e_op := x_isOpen h hw (d := (d : Int)) (by omega)
    have r_op := x_isOpen_r h hw (d := (d : Int)) (by omega)
    obtain ⟨e_kn, r_kn⟩ := x_isKnown h hw (st := st) hdl
    have hsz := hw.siz hdl
    have e_vb := x_valueBy s (a := 99) (b := sorZ g d) (by omega) (by omega)
    have q1 : (0 ≤ oZ g d 6) = ¬ (oZ g d 6 < 0) := propext ⟨fun h => by omega, fun h => by omega⟩
    have q2 : (0 ≤ oZ g d 7) = ¬ (oZ g d 7 < 0) := propext ⟨fun h => by omega, fun h => by omega⟩
    have hstS : ∀ x : Int, obZ g fl b st d = x → stS (obZ g fl b st) d a = a + zI x := fun x hx => by unfold stS; rw [hx]
    rcases tf (opZ g d) with k0 | k0
    · rcases tf (oZ g d 0 = b) with k1 | k1
      · rcases tf (oZ g d 6 < 0) with k2 | k2 <;> rcases tf (hasZ st (oZ g d 6)) with k3 | k3 <;> rcases tf (oZ g d 7 < 0) with k4 | k4 <;> rcases tf (hasZ st (oZ g d 7)) with k5 | k5 <;> rcases tf (knZ g d st) with k6 | k6 <;> rcases tf (fl = 1) with k7 | k7 <;>
          have k8 : (fl = 0) = ¬ (fl = 1) := propext ⟨fun h => by omega, fun h => by omega⟩
        all_goals rw [hstS _ (by simp only [obZ, onZ, onX, Int.reduceAdd, q1, q2, k0, k1, k2, k3, k4, k5, k6, k7, if_true, if_false, true_and, and_true, not_true, not_false_eq_true, false_implies, true_implies, imp_self, and_self, and_false, false_and, or_true, true_or, or_false, false_or, ite_self, implies_true]; rfl)]
        all_goals first
          | (refine ⟨2, by decide, fun n => ?_⟩; dsimp only []; rw [show n + 2 = n + 1 + 1 from rfl]; rw [lpX12_owedBy_6 (n + 1), qpX12_owedBy_6 (n + 1)]; generalize hlK : lX12_owedBy (n + 1) = K; generalize hqK : qX12_owedBy (n + 1) = Q; simp (disch := omega) only [tX12_owedBy_6, uX12_owedBy_6, x_34 h, zl0, zl1, zl2, zl3, zl4, zl5, zl6, zl7, zl8, zl9, Int.reduceAdd, Int.reduceSub, Int.reduceMul, Int.reduceNeg, Int.reduceLT, Int.reduceLE, Int.reduceToNat, Int.reduceEq, z_add, z_sub, z_mul, z_neg, z_le, z_lt, z_eq, z_in, e_op, r_op, e_val, r_val, e_sor, r_sor, o0, p0, o6, p6, o7, p7, hn1, hn2, bI_F, bI_T, bI_z, bI_o, eq_self, k0, k1, k2, k3, k4, k5, k6, k7, k8, e_kn, r_kn, e_vb, x_has, zl99, and_false, false_and, i_a0, i_s0, i_or0, Int.natCast_succ, Int.sub_sub, Int.add_assoc, Int.add_zero, Int.zero_add, Int.sub_zero, if_true, if_false, true_and, and_true, not_true, not_false_eq_true, false_implies, true_implies, imp_self, and_self]; subst hlK hqK; rw [lpX12_owedBy_93 (n), qpX12_owedBy_93 (n)]; generalize hlK : lX12_owedBy (n) = K; generalize hqK : qX12_owedBy (n) = Q; simp (disch := omega) only [tX12_owedBy_93, uX12_owedBy_93, x_34 h, zl0, zl1, zl2, zl3, zl4, zl5, zl6, zl7, zl8, zl9, Int.reduceAdd, Int.reduceSub, Int.reduceMul, Int.reduceNeg, Int.reduceLT, Int.reduceLE, Int.reduceToNat, Int.reduceEq, z_add, z_sub, z_mul, z_neg, z_le, z_lt, z_eq, z_in, e_op, r_op, e_val, r_val, e_sor, r_sor, o0, p0, o6, p6, o7, p7, hn1, hn2, bI_F, bI_T, bI_z, bI_o, eq_self, k0, k1, k2, k3, k4, k5, k6, k7, k8, e_kn, r_kn, e_vb, x_has, zl99, and_false, false_and, i_a0, i_s0, i_or0, Int.natCast_succ, Int.sub_sub, Int.add_assoc, Int.add_zero, Int.zero_add, Int.sub_zero, if_true, if_false, true_and, and_true, not_true, not_false_eq_true, false_implies, true_implies, imp_self, and_self]; done)
          | (refine ⟨3, by decide, fun n => ?_⟩; dsimp only []; rw [show n + 3 = n + 2 + 1 from rfl]; rw [lpX12_owedBy_6 (n + 2), qpX12_owedBy_6 (n + 2)]; generalize hlK : lX12_owedBy (n + 2) = K; generalize hqK : qX12_owedBy (n + 2) = Q; simp (disch := omega) only [tX12_owedBy_6, uX12_owedBy_6, x_34 h, zl0, zl1, zl2, zl3, zl4, zl5, zl6, zl7, zl8, zl9, Int.reduceAdd, Int.reduceSub, Int.reduceMul, Int.reduceNeg, Int.reduceLT, Int.reduceLE, Int.reduceToNat, Int.reduceEq, z_add, z_sub, z_mul, z_neg, z_le, z_lt, z_eq, z_in, e_op, r_op, e_val, r_val, e_sor, r_sor, o0, p0, o6, p6, o7, p7, hn1, hn2, bI_F, bI_T, bI_z, bI_o, eq_self, k0, k1, k2, k3, k4, k5, k6, k7, k8, e_kn, r_kn, e_vb, x_has, zl99, and_false, false_and, i_a0, i_s0, i_or0, Int.natCast_succ, Int.sub_sub, Int.add_assoc, Int.add_zero, Int.zero_add, Int.sub_zero, if_true, if_false, true_and, and_true, not_true, not_false_eq_true, false_implies, true_implies, imp_self, and_self]; subst hlK hqK; rw [show n + 2 = n + 1 + 1 from rfl]; rw [lpX12_owedBy_67 (n + 1), qpX12_owedBy_67 (n + 1)]; generalize hlK : lX12_owedBy (n + 1) = K; generalize hqK : qX12_owedBy (n + 1) = Q; simp (disch := omega) only [tX12_owedBy_67, uX12_owedBy_67, x_34 h, zl0, zl1, zl2, zl3, zl4, zl5, zl6, zl7, zl8, zl9, Int.reduceAdd, Int.reduceSub, Int.reduceMul, Int.reduceNeg, Int.reduceLT, Int.reduceLE, Int.reduceToNat, Int.reduceEq, z_add, z_sub, z_mul, z_neg, z_le, z_lt, z_eq, z_in, e_op, r_op, e_val, r_val, e_sor, r_sor, o0, p0, o6, p6, o7, p7, hn1, hn2, bI_F, bI_T, bI_z, bI_o, eq_self, k0, k1, k2, k3, k4, k5, k6, k7, k8, e_kn, r_kn, e_vb, x_has, zl99, and_false, false_and, i_a0, i_s0, i_or0, Int.natCast_succ, Int.sub_sub, Int.add_assoc, Int.add_zero, Int.zero_add, Int.sub_zero, if_true, if_false, true_and, and_true, not_true, not_false_eq_true, false_implies, true_implies, imp_self, and_self]; subst hlK hqK; rw [lpX12_owedBy_93 (n), qpX12_owedBy_93 (n)]; generalize hlK : lX12_owedBy (n) = K; generalize hqK : qX12_owedBy (n) = Q; simp (disch := omega) only [tX12_owedBy_93, uX12_owedBy_93, x_34 h, zl0, zl1, zl2, zl3, zl4, zl5, zl6, zl7, zl8, zl9, Int.reduceAdd, Int.reduceSub, Int.reduceMul, Int.reduceNeg, Int.reduceLT, Int.reduceLE, Int.reduceToNat, Int.reduceEq, z_add, z_sub, z_mul, z_neg, z_le, z_lt, z_eq, z_in, e_op, r_op, e_val, r_val, e_sor, r_sor, o0, p0, o6, p6, o7, p7, hn1, hn2, bI_F, bI_T, bI_z, bI_o, eq_self, k0, k1, k2, k3, k4, k5, k6, k7, k8, e_kn, r_kn, e_vb, x_has, zl99, and_false, false_and, i_a0, i_s0, i_or0, Int.natCast_succ, Int.sub_sub, Int.add_assoc, Int.add_zero, Int.zero_add, Int.sub_zero, if_true, if_false, true_and, and_true, not_true, not_false_eq_true, false_implies, true_implies, imp_self, and_self]; done)
          | (refine ⟨3, by decide, fun n => ?_⟩; dsimp only []; rw [show n + 3 = n + 2 + 1 from rfl]; rw [lpX12_owedBy_6 (n + 2), qpX12_owedBy_6 (n + 2)]; generalize hlK : lX12_owedBy (n + 2) = K; generalize hqK : qX12_owedBy (n + 2) = Q; simp (disch := omega) only [tX12_owedBy_6, uX12_owedBy_6, x_34 h, zl0, zl1, zl2, zl3, zl4, zl5, zl6, zl7, zl8, zl9, Int.reduceAdd, Int.reduceSub, Int.reduceMul, Int.reduceNeg, Int.reduceLT, Int.reduceLE, Int.reduceToNat, Int.reduceEq, z_add, z_sub, z_mul, z_neg, z_le, z_lt, z_eq, z_in, e_op, r_op, e_val, r_val, e_sor, r_sor, o0, p0, o6, p6, o7, p7, hn1, hn2, bI_F, bI_T, bI_z, bI_o, eq_self, k0, k1, k2, k3, k4, k5, k6, k7, k8, e_kn, r_kn, e_vb, x_has, zl99, and_false, false_and, i_a0, i_s0, i_or0, Int.natCast_succ, Int.sub_sub, Int.add_assoc, Int.add_zero, Int.zero_add, Int.sub_zero, if_true, if_false, true_and, and_true, not_true, not_false_eq_true, false_implies, true_implies, imp_self, and_self]; subst hlK hqK; rw [show n + 2 = n + 1 + 1 from rfl]; rw [lpX12_owedBy_67 (n + 1), qpX12_owedBy_67 (n + 1)]; generalize hlK : lX12_owedBy (n + 1) = K; generalize hqK : qX12_owedBy (n + 1) = Q; simp (disch := omega) only [tX12_owedBy_67, uX12_owedBy_67, x_34 h, zl0, zl1, zl2, zl3, zl4, zl5, zl6, zl7, zl8, zl9, Int.reduceAdd, Int.reduceSub, Int.reduceMul, Int.reduceNeg, Int.reduceLT, Int.reduceLE, Int.reduceToNat, Int.reduceEq, z_add, z_sub, z_mul, z_neg, z_le, z_lt, z_eq, z_in, e_op, r_op, e_val, r_val, e_sor, r_sor, o0, p0, o6, p6, o7, p7, hn1, hn2, bI_F, bI_T, bI_z, bI_o, eq_self, k0, k1, k2, k3, k4, k5, k6, k7, k8, e_kn, r_kn, e_vb, x_has, zl99, and_false, false_and, i_a0, i_s0, i_or0, Int.natCast_succ, Int.sub_sub, Int.add_assoc, Int.add_zero, Int.zero_add, Int.sub_zero, if_true, if_false, true_and, and_true, not_true, not_false_eq_true, false_implies, true_implies, imp_self, and_self]; subst hlK hqK; rw [lpX12_owedBy_97 (n), qpX12_owedBy_97 (n)]; generalize hlK : lX12_owedBy (n) = K; generalize hqK : qX12_owedBy (n) = Q; simp (disch := omega) only [tX12_owedBy_97, uX12_owedBy_97, x_34 h, zl0, zl1, zl2, zl3, zl4, zl5, zl6, zl7, zl8, zl9, Int.reduceAdd, Int.reduceSub, Int.reduceMul, Int.reduceNeg, Int.reduceLT, Int.reduceLE, Int.reduceToNat, Int.reduceEq, z_add, z_sub, z_mul, z_neg, z_le, z_lt, z_eq, z_in, e_op, r_op, e_val, r_val, e_sor, r_sor, o0, p0, o6, p6, o7, p7, hn1, hn2, bI_F, bI_T, bI_z, bI_o, eq_self, k0, k1, k2, k3, k4, k5, k6, k7, k8, e_kn, r_kn, e_vb, x_has, zl99, and_false, false_and, i_a0, i_s0, i_or0, Int.natCast_succ, Int.sub_sub, Int.add_assoc, Int.add_zero, Int.zero_add, Int.sub_zero, if_true, if_false, true_and, and_true, not_true, not_false_eq_true, false_implies, true_implies, imp_self, and_self]; done)
      · rw [hstS 0 (by simp only [obZ, k0, k1, if_true, if_false, true_and, and_true, not_true, not_false_eq_true, false_implies, true_implies, imp_self, and_self, and_false, false_and, or_true, true_or, or_false, false_or, ite_self, implies_true])]
        (refine ⟨1, by decide, fun n => ?_⟩; dsimp only []; rw [lpX12_owedBy_6 (n), qpX12_owedBy_6 (n)]; generalize hlK : lX12_owedBy (n) = K; generalize hqK : qX12_owedBy (n) = Q; simp (disch := omega) only [tX12_owedBy_6, uX12_owedBy_6, x_34 h, zl0, zl1, zl2, zl3, zl4, zl5, zl6, zl7, zl8, zl9, Int.reduceAdd, Int.reduceSub, Int.reduceMul, Int.reduceNeg, Int.reduceLT, Int.reduceLE, Int.reduceToNat, Int.reduceEq, z_add, z_sub, z_mul, z_neg, z_le, z_lt, z_eq, z_in, e_op, r_op, o0, p0, hn1, hn2, bI_F, bI_T, bI_z, bI_o, eq_self, k0, k1, x_has, i_a0, i_s0, i_or0, Int.natCast_succ, Int.sub_sub, Int.add_assoc, Int.add_zero, Int.zero_add, Int.sub_zero, if_true, if_false, true_and, and_true, not_true, not_false_eq_true, false_implies, true_implies, imp_self, and_self]; done)
    · rw [hstS 0 (by simp only [obZ, k0, if_true, if_false, true_and, and_true, not_true, not_false_eq_true, false_implies, true_implies, imp_self, and_self, and_false, false_and, or_true, true_or, or_false, false_or, ite_self, implies_true])]
      (refine ⟨1, by decide, fun n => ?_⟩; dsimp only []; rw [lpX12_owedBy_6 (n), qpX12_owedBy_6 (n)]; generalize hlK : lX12_owedBy (n) = K; generalize hqK : qX12_owedBy (n) = Q; simp (disch := omega) only [tX12_owedBy_6, uX12_owedBy_6, x_34 h, zl0, zl1, zl2, zl3, zl4, zl5, zl6, zl7, zl8, zl9, Int.reduceAdd, Int.reduceSub, Int.reduceMul, Int.reduceNeg, Int.reduceLT, Int.reduceLE, Int.reduceToNat, Int.reduceEq, z_add, z_sub, z_mul, z_neg, z_le, z_lt, z_eq, z_in, e_op, r_op, o0, p0, hn1, hn2, bI_F, bI_T, bI_z, bI_o, eq_self, k0, x_has, i_a0, i_s0, i_or0, Int.natCast_succ, Int.sub_sub, Int.add_assoc, Int.add_zero, Int.zero_add, Int.sub_zero, if_true, if_false, true_and, and_true, not_true, not_false_eq_true, false_implies, true_implies, imp_self, and_self]; done)
  obtain ⟨e1, r1⟩ := ST_fu (ST_trans (ST_fold (g 34).toNat (stS (obZ g fl b st)) _ _ hs 0) (ST_1 (F' := fun _ => fold (stS (obZ g fl b st)) (g 34).toNat 0) (C' := fun _ => True) (fun n => by
    simp (disch := omega) only [↓lpX12_owedBy_6, ↓qpX12_owedBy_6, tX12_owedBy_6, uX12_owedBy_6, x_34 h, zl0, zl1, z_le, hN, Int.le_refl, Int.lt_irrefl, if_true, if_false, true_and, and_true, not_true, not_false_eq_true, false_implies, true_implies, imp_self, and_self]))) (by omega)
  refine ⟨e1.trans ?_, r1⟩
  rw [zl0, fold_S, Int.zero_add]
theorem ob_1 (g : Nat → Int) (b st : Int) (n : Nat) : sumZ (obZ g 1 b st) n = sumZ (swZ g b st) n := sumZ_c n (fun d _ _ => by
  unfold obZ swZ; rw [if_pos (show (1 : Int) = 1 from rfl)])
theorem ob_0 (g : Nat → Int) (b st : Int) (n : Nat) : sumZ (obZ g 0 b st) n = sumZ (swZ g b st) n + sumZ (amZ g b st) n := by
  rw [← sumZ_add]
  refine sumZ_c n (fun d _ _ => ?_)
  unfold obZ swZ amZ
  rw [if_neg (show ¬ (0 : Int) = 1 by omega)]
  split
  · split
    · split
      · rw [Int.add_zero]
      · rw [Int.zero_add]
    · rfl
  · rfl
theorem shl9 {n : Int} (h0 : 0 ≤ n) (h9 : n ≤ 9) : ((1 : Int32) <<< (zI n &&& 31)) = zI ((2 ^ n.toNat : Nat) : Int) ∧ (1 : Int) ≤ ((2 ^ n.toNat : Nat) : Int) ∧ ((2 ^ n.toNat : Nat) : Int) ≤ 512 := by
  have h := zN_shl n.toNat (by omega)
  rw [show ((n.toNat : Nat) : Int) = n by omega] at h
  refine ⟨h, ?_, ?_⟩
  · have := Nat.one_le_two_pow (n := n.toNat); omega
  · have : 2 ^ n.toNat ≤ 2 ^ 9 := Nat.pow_le_pow_right (by omega) (by omega)
    omega
theorem q_owed (h : LdR s 31 5 g) (h2 : RR s g) (hw : WF g) (a1 a2 a3 : Int32) : rX11_owed s a1 a2 a3 ∧ rX12_owed s a1 a2 a3 ∧ vX11_owed s a1 a2 a3 = vX12_owed s a1 a2 a3 ∧ mX12_owed s a1 a2 a3 = Th s := by
  obtain ⟨b, hb, rfl⟩ := z_ex a1
  obtain ⟨y, hy, rfl⟩ := z_ex a2
  obtain ⟨w, hw2, rfl⟩ := z_ex a3
  have h3 := Th_R h2
  have h0 := hw.w0
  obtain ⟨p1, p2, p3⟩ := shl9 (n := g 0) (by omega) (by omega)
  have x0 : gI (pI s 248 0 (zI 0)) 250 (zI 0).toNatClampNeg = zI (g 0) := h3 0
  generalize hM : ((2 ^ (g 0).toNat : Nat) : Int) = M at *
  obtain ⟨e1, r1⟩ := y_owedSurely h hw hb y
  obtain ⟨e2, r2⟩ := y_owedAtMost h hw hb y
  obtain ⟨e3, r3⟩ := x_owedBy h3 hw hb (Or.inl rfl : (0 : Int) = 0 ∨ _) y
  obtain ⟨e4, r4⟩ := x_owedBy h3 hw hb (Or.inr rfl : (1 : Int) = 0 ∨ _) y
  rw [ob_0] at e3
  rw [ob_1] at e4
  simp only [zl1] at p1
  unfold rX11_owed rX12_owed vX11_owed vX12_owed mX12_owed vX12_isFound
  simp (disch := omega) only [y_hasBody h.1 hw hb, x_isBody h3 hw hb, h.1.1.1, x0, zl0, zl1, p1, z_neg, z_sub, z_lt, z_le, z_eq, x_isIn _ hy, x_isIn _ hw2]
  rcases tf (bdyZ g b) with c1 | c1
  · by_cases c2 : 0 ≤ y ∧ y ≤ M - 1
    · have c3 : (y < 0) = False := eq_false (by omega)
      have c4 : (M ≤ y) = False := eq_false (by omega)
      have c2' : (0 ≤ y ∧ y ≤ M - 1) = True := eq_true c2
      by_cases q0 : w = 0
      · subst q0
        simp (disch := omega) only [c1, c2', c3, c4, e1, e2, e3, e4, r1, r2, r3, r4, bI_T, bI_F, bI_z, z_eq, z_lt, z_le, zif, Int.le_refl, Int.lt_irrefl, Int.reduceAdd, Int.reduceSub, Int.reduceMul, Int.reduceNeg, Int.reduceLT, Int.reduceLE, Int.reduceToNat, Int.reduceEq, if_true, if_false, true_and, and_true, not_true, not_false_eq_true, false_implies, true_implies, imp_self, and_self, and_false, false_and, or_true, true_or, or_false, false_or, ite_self, implies_true]
      · by_cases q1 : w = 1
        · subst q1
          simp (disch := omega) only [c1, c2', c3, c4, e1, e2, e3, e4, r1, r2, r3, r4, bI_T, bI_F, bI_z, z_eq, z_lt, z_le, zif, Int.le_refl, Int.lt_irrefl, Int.reduceAdd, Int.reduceSub, Int.reduceMul, Int.reduceNeg, Int.reduceLT, Int.reduceLE, Int.reduceToNat, Int.reduceEq, if_true, if_false, true_and, and_true, not_true, not_false_eq_true, false_implies, true_implies, imp_self, and_self, and_false, false_and, or_true, true_or, or_false, false_or, ite_self, implies_true]
        · have d1 : (0 ≤ w ∧ w ≤ 1) = False := eq_false (by omega)
          rcases tf (w < 0) with d2 | d2
          · simp (disch := omega) only [c1, c2', c3, c4, d1, d2, bI_T, bI_F, bI_z, z_eq, z_lt, z_le, Int.reduceAdd, Int.reduceSub, Int.reduceMul, Int.reduceNeg, Int.reduceLT, Int.reduceLE, Int.reduceToNat, Int.reduceEq, if_true, if_false, true_and, and_true, not_true, not_false_eq_true, false_implies, true_implies, imp_self, and_self, and_false, false_and, or_true, true_or, or_false, false_or, ite_self, implies_true]
          · have d3 : (w ≤ 1) = False := eq_false (by have := of_eq_false d2; omega)
            simp (disch := omega) only [c1, c2', c3, c4, d1, d2, d3, bI_T, bI_F, bI_z, z_eq, z_lt, z_le, Int.reduceAdd, Int.reduceSub, Int.reduceMul, Int.reduceNeg, Int.reduceLT, Int.reduceLE, Int.reduceToNat, Int.reduceEq, if_true, if_false, true_and, and_true, not_true, not_false_eq_true, false_implies, true_implies, imp_self, and_self, and_false, false_and, or_true, true_or, or_false, false_or, ite_self, implies_true]
    · have c2' : (0 ≤ y ∧ y ≤ M - 1) = False := eq_false c2
      rcases tf (y < 0) with c3 | c3
      · simp (disch := omega) only [c1, c2', c3, bI_T, bI_F, bI_z, z_eq, z_lt, z_le, Int.reduceAdd, Int.reduceSub, Int.reduceMul, Int.reduceNeg, Int.reduceLT, Int.reduceLE, Int.reduceToNat, Int.reduceEq, if_true, if_false, true_and, and_true, not_true, not_false_eq_true, false_implies, true_implies, imp_self, and_self, and_false, false_and, or_true, true_or, or_false, false_or, ite_self, implies_true]
      · have c4 : (M ≤ y) = True := eq_true (by have := of_eq_false c3; omega)
        simp (disch := omega) only [c1, c2', c3, c4, bI_T, bI_F, bI_z, z_eq, z_lt, z_le, Int.reduceAdd, Int.reduceSub, Int.reduceMul, Int.reduceNeg, Int.reduceLT, Int.reduceLE, Int.reduceToNat, Int.reduceEq, if_true, if_false, true_and, and_true, not_true, not_false_eq_true, false_implies, true_implies, imp_self, and_self, and_false, false_and, or_true, true_or, or_false, false_or, ite_self, implies_true]
  · simp (disch := omega) only [c1, bI_F, bI_z, z_eq, Int.reduceAdd, Int.reduceSub, Int.reduceMul, Int.reduceNeg, Int.reduceLT, Int.reduceLE, Int.reduceToNat, Int.reduceEq, if_true, if_false, true_and, and_true, not_true, not_false_eq_true, false_implies, true_implies, imp_self, and_self, and_false, false_and, or_true, true_or, or_false, false_or, ite_self, implies_true]
end
