-- needs:
section
variable {s : SM} {g : Nat → Int} {L P : Nat}
abbrev Th (s : SM) : SM := pI s 248 0 (zI 0)
theorem Th_R (h : RR s g) : RR (Th s) g := RR_p h (by decide) 0 _
theorem c_isIn (s : SM) (a b : Int) : vX11_isIn s (zI a) (zI b) = bI (hasZ b a) := rfl
theorem c_isYear (s : SM) {a : Int} (ha : IR a) : vX11_isYear s (zI a) = bI (0 ≤ a ∧ a ≤ 99) := by
  unfold vX11_isYear bI
  simp (disch := omega) only [zl0, zl99, z_lt]
  by_cases h1 : a < 0
  · rw [if_pos h1, if_neg (by omega)]
  · by_cases h2 : 99 < a
    · rw [if_neg h1, if_pos h2, if_neg (by omega)]
    · rw [if_neg h1, if_neg h2, if_pos (by omega)]
theorem c_isSide (s : SM) {a : Int} (ha : IR a) : vX11_isSide s (zI a) = bI (a = 0 ∨ a = 1) := by
  unfold vX11_isSide bI
  simp (disch := omega) only [zl0, zl1, z_eq]
  by_cases h1 : a = 0
  · rw [if_pos h1, if_pos (Or.inl h1)]
  · by_cases h2 : a = 1
    · rw [if_neg h1, if_pos h2, if_pos (Or.inr h2)]
    · rw [if_neg h1, if_neg h2, if_neg (by omega)]
theorem x_sIn (s : SM) {a : Int} (ha : IR a) (hi : Nat) (hh : hi ≤ 1000) : vX12_isIn s (zI a) (zI 0) (zI hi) = bI (0 ≤ a ∧ a ≤ hi) := x_isIn s ha (by omega) (by omega)
theorem x_marksOn (h : RR s g) (hw : WF g) {b y : Int} (hb : IR b) (hy : IR y) : vX12_marksOn s (zI b) (zI y) = fold (stMO g b y) (g 34).toNat (zI 0) ∧ rX12_marksOn s (zI b) (zI y) := x_marksOn_l h hw hb hy
theorem y_marksOn (h : LdR s L P g) (hw : WF g) {b y : Int} (hb : IR b) (hy : IR y) : vX4_marksOn s L P (zI b) (zI y) = fold (stMO g b y) (g 34).toNat (zI 0) ∧ rX4_marksOn s L P (zI b) (zI y) := y_marksOn_l h hw hb hy
theorem x_netOf (h : RR s g) (hw : WF g) {b : Int} (hb : IR b) : vX12_netOf s (zI b) = fold (stNT g b) (g 34).toNat (zI 0) ∧ rX12_netOf s (zI b) := x_netOf_l h hw hb
theorem y_netOf (h : LdR s L P g) (hw : WF g) {b : Int} (hb : IR b) : vX4_netOf s L P (zI b) = fold (stNT g b) (g 34).toNat (zI 0) ∧ rX4_netOf s L P (zI b) := y_netOf_l h hw hb
theorem x_openMany (h : RR s g) (hw : WF g) : vX12_openMany s = fold (stOM g) (g 34).toNat (zI 0) ∧ rX12_openMany s := x_openMany_l h hw
theorem y_openDeals (h : LdR s L P g) (hw : WF g) : vX4_openDeals s L P = fold (stOM g) (g 34).toNat (zI 0) ∧ rX4_openDeals s L P := y_openDeals_l h hw

theorem q_aged (h : LdR s 31 5 g) (h2 : RR s g) (hw : WF g) (a1 a2 : Int32) : rX11_aged s a1 a2 ∧ rX12_aged s a1 a2 ∧ vX11_aged s a1 a2 = vX12_aged s a1 a2 ∧ mX12_aged s a1 a2 = Th s := by
  obtain ⟨b, hb, rfl⟩ := z_ex a1
  obtain ⟨y, hy, rfl⟩ := z_ex a2
  have h3 := Th_R h2
  obtain ⟨e1, r1⟩ := x_marksOn h3 hw hb hy
  obtain ⟨e2, r2⟩ := y_marksOn h hw hb hy
  unfold rX11_aged rX12_aged vX11_aged vX12_aged mX12_aged
  rcases tf (bdyZ g b) with c1 | c1 <;> rcases tf (0 ≤ y ∧ y ≤ 99) with c2 | c2 <;>
    simp (disch := omega) only [y_hasBody h.1 hw hb, x_isBody h3 hw hb, c_isYear s hy, zl0, zl1, zl99, z_neg, x_isIn _ hy, c1, c2, e1, e2, r1, r2, bI_T, bI_F, bI_z, z_eq, Int.reduceAdd, Int.reduceSub, Int.reduceMul, Int.reduceNeg, Int.reduceLT, Int.reduceLE, Int.reduceToNat, Int.reduceEq, if_true, if_false, true_and, and_true, not_true, not_false_eq_true, false_implies, true_implies, imp_self, and_self, and_false, false_and, or_true, true_or, or_false, false_or, ite_self, implies_true]
theorem q_owes (h : LdR s 31 5 g) (h2 : RR s g) (hw : WF g) (a1 a2 : Int32) : rX11_owes s a1 a2 ∧ rX12_owes s a1 a2 ∧ vX11_owes s a1 a2 = vX12_owes s a1 a2 ∧ mX12_owes s a1 a2 = Th s := by
  obtain ⟨b, hb, rfl⟩ := z_ex a1
  obtain ⟨y, hy, rfl⟩ := z_ex a2
  have h3 := Th_R h2
  obtain ⟨e10, r10⟩ := x_owes_l0 h3 hw hb
  obtain ⟨e20, r20⟩ := y_owes_l0 h hw hb
  obtain ⟨e11, r11⟩ := x_owes_l1 h3 hw hb
  obtain ⟨e21, r21⟩ := y_owes_l1 h hw hb
  simp only [zl0] at e10 r10 e20 r20 e11 r11 e21 r21
  unfold rX11_owes rX12_owes vX11_owes vX12_owes mX12_owes fX11_owes fX12_owes
  rcases tf (bdyZ g b) with c1 | c1
  · by_cases q0 : y = 0
    · subst q0
      simp (disch := omega) only [y_hasBody h.1 hw hb, x_isBody h3 hw hb, zl0, zl1, z_neg, x_isIn _ hy, c1, e10, e20, r10, r20, bI_T, bI_F, bI_z, z_eq, z_lt, z_le, Int.le_refl, Int.lt_irrefl, Int.reduceAdd, Int.reduceSub, Int.reduceMul, Int.reduceNeg, Int.reduceLT, Int.reduceLE, Int.reduceToNat, Int.reduceEq, if_true, if_false, true_and, and_true, not_true, not_false_eq_true, false_implies, true_implies, imp_self, and_self, and_false, false_and, or_true, true_or, or_false, false_or, ite_self, implies_true]
    · by_cases q1 : y = 1
      · subst q1
        simp (disch := omega) only [y_hasBody h.1 hw hb, x_isBody h3 hw hb, zl0, zl1, z_neg, x_isIn _ hy, c1, e11, e21, r11, r21, bI_T, bI_F, bI_z, z_eq, z_lt, z_le, Int.le_refl, Int.lt_irrefl, Int.reduceAdd, Int.reduceSub, Int.reduceMul, Int.reduceNeg, Int.reduceLT, Int.reduceLE, Int.reduceToNat, Int.reduceEq, if_true, if_false, true_and, and_true, not_true, not_false_eq_true, false_implies, true_implies, imp_self, and_self, and_false, false_and, or_true, true_or, or_false, false_or, ite_self, implies_true]
      · have c3 : (0 ≤ y ∧ y ≤ 1) = False := eq_false (by omega)
        rcases tf (y < 0) with c4 | c4
        · simp (disch := omega) only [y_hasBody h.1 hw hb, x_isBody h3 hw hb, zl0, zl1, z_neg, x_isIn _ hy, c1, c3, c4, bI_T, bI_F, bI_z, z_eq, z_lt, z_le, Int.reduceAdd, Int.reduceSub, Int.reduceMul, Int.reduceNeg, Int.reduceLT, Int.reduceLE, Int.reduceToNat, Int.reduceEq, if_true, if_false, true_and, and_true, not_true, not_false_eq_true, false_implies, true_implies, imp_self, and_self, and_false, false_and, or_true, true_or, or_false, false_or, ite_self, implies_true]
        · have c5 : (y ≤ 1) = False := eq_false (by have := of_eq_false c4; omega)
          simp (disch := omega) only [y_hasBody h.1 hw hb, x_isBody h3 hw hb, zl0, zl1, z_neg, x_isIn _ hy, c1, c3, c4, c5, bI_T, bI_F, bI_z, z_eq, z_lt, z_le, Int.reduceAdd, Int.reduceSub, Int.reduceMul, Int.reduceNeg, Int.reduceLT, Int.reduceLE, Int.reduceToNat, Int.reduceEq, if_true, if_false, true_and, and_true, not_true, not_false_eq_true, false_implies, true_implies, imp_self, and_self, and_false, false_and, or_true, true_or, or_false, false_or, ite_self, implies_true]
  · simp (disch := omega) only [y_hasBody h.1 hw hb, x_isBody h3 hw hb, c1, zl0, zl1, bI_F, bI_z, z_eq, Int.reduceAdd, Int.reduceSub, Int.reduceMul, Int.reduceNeg, Int.reduceLT, Int.reduceLE, Int.reduceToNat, Int.reduceEq, if_true, if_false, true_and, and_true, not_true, not_false_eq_true, false_implies, true_implies, imp_self, and_self, and_false, false_and, or_true, true_or, or_false, false_or, ite_self, implies_true]
theorem q_trade (h : LdR s 31 5 g) (h2 : RR s g) (hw : WF g) (a1 a2 : Int32) : rX11_trade s a1 a2 ∧ rX12_trade s a1 a2 ∧ vX11_trade s a1 a2 = vX12_trade s a1 a2 ∧ mX12_trade s a1 a2 = Th s := by
  obtain ⟨b, hb, rfl⟩ := z_ex a1
  obtain ⟨y, hy, rfl⟩ := z_ex a2
  have h3 := Th_R h2
  unfold rX11_trade rX12_trade vX11_trade vX12_trade mX12_trade fX11_trade fX12_trade
  rcases tf (0 ≤ b ∧ b ≤ 99) with c1 | c1
  · by_cases q0 : 0 ≤ y ∧ y ≤ 3
    · obtain ⟨e10, r10⟩ := x_trade_l h3 hw hb q0
      obtain ⟨e20, r20⟩ := y_trade_l h hw hb q0
      simp only [zl0] at e10 r10 e20 r20
      have c3 : (0 ≤ y ∧ y ≤ 3) = True := eq_true q0
      have c4 : (y < 0) = False := eq_false (by omega)
      have c5 : (y ≤ 3) = True := eq_true q0.2
      have c6 : (0 ≤ y) = True := eq_true q0.1
      simp (disch := omega) only [c_isYear s hb, zl0, zl1, zl3, zl99, z_neg, x_isIn _ hb, x_isIn _ hy, c1, c3, c4, c5, c6, e10, e20, r10, r20, bI_T, bI_F, bI_z, z_eq, z_lt, z_le, Int.reduceAdd, Int.reduceSub, Int.reduceMul, Int.reduceNeg, Int.reduceLT, Int.reduceLE, Int.reduceToNat, Int.reduceEq, if_true, if_false, true_and, and_true, not_true, not_false_eq_true, false_implies, true_implies, imp_self, and_self, and_false, false_and, or_true, true_or, or_false, false_or, ite_self, implies_true]
    · have c3 : (0 ≤ y ∧ y ≤ 3) = False := eq_false q0
      rcases tf (y < 0) with c4 | c4
      · simp (disch := omega) only [c_isYear s hb, zl0, zl1, zl3, zl99, z_neg, x_isIn _ hb, x_isIn _ hy, c1, c3, c4, bI_T, bI_F, bI_z, z_eq, z_lt, z_le, Int.reduceAdd, Int.reduceSub, Int.reduceMul, Int.reduceNeg, Int.reduceLT, Int.reduceLE, Int.reduceToNat, Int.reduceEq, if_true, if_false, true_and, and_true, not_true, not_false_eq_true, false_implies, true_implies, imp_self, and_self, and_false, false_and, or_true, true_or, or_false, false_or, ite_self, implies_true]
      · have c5 : (y ≤ 3) = False := eq_false (by have := of_eq_false c4; omega)
        simp (disch := omega) only [c_isYear s hb, zl0, zl1, zl3, zl99, z_neg, x_isIn _ hb, x_isIn _ hy, c1, c3, c4, c5, bI_T, bI_F, bI_z, z_eq, z_lt, z_le, Int.reduceAdd, Int.reduceSub, Int.reduceMul, Int.reduceNeg, Int.reduceLT, Int.reduceLE, Int.reduceToNat, Int.reduceEq, if_true, if_false, true_and, and_true, not_true, not_false_eq_true, false_implies, true_implies, imp_self, and_self, and_false, false_and, or_true, true_or, or_false, false_or, ite_self, implies_true]
  · simp (disch := omega) only [c_isYear s hb, zl0, zl1, zl3, zl99, z_neg, x_isIn _ hb, c1, bI_F, bI_z, z_eq, Int.reduceAdd, Int.reduceSub, Int.reduceMul, Int.reduceNeg, Int.reduceLT, Int.reduceLE, Int.reduceToNat, Int.reduceEq, if_true, if_false, true_and, and_true, not_true, not_false_eq_true, false_implies, true_implies, imp_self, and_self, and_false, false_and, or_true, true_or, or_false, false_or, ite_self, implies_true]
theorem q_between (h : LdR s 31 5 g) (h2 : RR s g) (hw : WF g) (a1 a2 k : Int32) : rX11_between s a1 a2 k ∧ rX12_between s a1 a2 k ∧ vX11_between s a1 a2 k = vX12_between s a1 a2 k ∧ mX12_between s a1 a2 k = Th s := by
  obtain ⟨b, hb, rfl⟩ := z_ex a1
  obtain ⟨y, hy, rfl⟩ := z_ex a2
  obtain ⟨kk, hk, rfl⟩ := z_ex k
  have h3 := Th_R h2
  have h0 := hw.w0
  obtain ⟨e1, r1⟩ := x_between_l h3 hw hb hy (zI kk)
  obtain ⟨e2, r2⟩ := y_between_l h hw hb hy (zI kk)
  have e3 : kk < -1 → run (stK (fun d => opZ g d ∧ oZ g d 0 = b ∧ oZ g d 1 = y) (zI kk) fun d => zI (d : Int)) (fiK (zI kk)) (g 34).toNat 0 0 = zI (-1) := fun hn => run_neg _ _ hk hn _ _ _ (by omega)
  simp only [zl0, Int.natCast_zero] at e1 e2 r1 r2
  unfold rX11_between rX12_between vX11_between vX12_between mX12_between fX11_between fX12_between
  rcases tf (bdyZ g b) with c1 | c1 <;> rcases tf (bdyZ g y) with c2 | c2 <;> rcases tf (-1 ≤ kk) with c3 | c3
  all_goals first
    | (simp (disch := omega) only [y_hasBody h.1 hw hb, x_isBody h3 hw hb, y_hasBody h.1 hw hy, x_isBody h3 hw hy, zl0, zl1, z_neg, z_le, c1, c2, c3, e1, e2, r1, r2, bI_T, bI_F, bI_z, z_eq, Int.reduceAdd, Int.reduceSub, Int.reduceMul, Int.reduceNeg, Int.reduceLT, Int.reduceLE, Int.reduceToNat, Int.reduceEq, if_true, if_false, true_and, and_true, not_true, not_false_eq_true, false_implies, true_implies, imp_self, and_self, and_false, false_and, or_true, true_or, or_false, false_or, ite_self, implies_true]; done)
    | (simp (disch := omega) only [y_hasBody h.1 hw hb, x_isBody h3 hw hb, y_hasBody h.1 hw hy, x_isBody h3 hw hy, zl0, zl1, z_neg, z_le, c1, c2, c3, e1, e2, r1, r2, e3 (by have := of_eq_false c3; omega), bI_T, bI_F, bI_z, z_eq, Int.reduceAdd, Int.reduceSub, Int.reduceMul, Int.reduceNeg, Int.reduceLT, Int.reduceLE, Int.reduceToNat, Int.reduceEq, if_true, if_false, true_and, and_true, not_true, not_false_eq_true, false_implies, true_implies, imp_self, and_self, and_false, false_and, or_true, true_or, or_false, false_or, ite_self, implies_true])
theorem q_lost (h : LdR s 31 5 g) (h2 : RR s g) (hw : WF g) (k : Int32) : rX11_lost s k ∧ rX12_lost s k ∧ vX11_lost s k = vX12_lost s k ∧ mX12_lost s k = Th s := by
  obtain ⟨kk, hk, rfl⟩ := z_ex k
  have h3 := Th_R h2
  have h0 := hw.w0
  obtain ⟨e1, r1⟩ := x_lost_l h3 hw (zI kk)
  obtain ⟨e2, r2⟩ := y_lost_l h hw (zI kk)
  have e3 : kk < -1 → run (stK (fun d => loZ g d) (zI kk) fun d => zI (d : Int)) (fiK (zI kk)) (g 34).toNat 0 0 = zI (-1) := fun hn => run_neg _ _ hk hn _ _ _ (by omega)
  unfold rX11_lost rX12_lost vX11_lost vX12_lost mX12_lost rX12_lostOf vX12_lostOf fX11_lost fX12_lostOf
  refine ⟨r2, fun _ => r1, ?_, rfl⟩
  rw [show lX11_lost FU s (zI kk) 0 0 = _ from e2, show lX12_lostOf FU (pI s 248 0 0) (zI kk) 0 0 = _ from e1]
  by_cases c3 : -1 ≤ kk
  · rw [if_pos (by simp (disch := omega) only [zl1, z_neg, z_le]; exact c3)]
  · rw [if_neg (by simp (disch := omega) only [zl1, z_neg, z_le]; exact c3), e3 (by omega)]; rfl
end
