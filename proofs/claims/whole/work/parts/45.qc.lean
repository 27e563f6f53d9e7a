-- needs: 42.qa 44.qb
section
variable {s t : SM} {g : Nat → Int} {L P : Nat}
theorem t_R (h : RR s g) (x : Int32) : RR (pI s 248 0 x) g := RR_p h (by decide) 0 _
theorem x_row (h : RR s g) (k : Nat) (hk : k ≤ 100) {b : Int} (hb : 0 ≤ b ∧ b ≤ 100) : gI s 250 (zI (k : Int) + zI b).toNatClampNeg = zI (g ((k : Int) + b).toNat) ∧ vp_in (zI (k : Int) + zI b) 787 := by
  rw [z_add, z_cl (by omega), z_in (by omega)]
  exact ⟨h _, by omega, by omega⟩
theorem f7 {b : Int} (h : ¬ (0 ≤ b ∧ b ≤ 6)) : ((b = 0) = False ∧ (b = 1) = False ∧ (b = 2) = False ∧ (b = 3) = False ∧ (b = 4) = False ∧ (b = 5) = False ∧ (b = 6) = False) := by
  refine ⟨?_, ?_, ?_, ?_, ?_, ?_, ?_⟩ <;> exact eq_false (by omega)
theorem q_body (h : LdR s 31 5 g) (h2 : RR t g) (hw : WF g) (a1 a2 : Int32) : rX11_body s a1 a2 ∧ rX12_body t a1 a2 ∧ mX12_body t a1 a2 = pI t 248 0 (match vX11_body s a1 a2 with | none => 1 | some _ => 0) ∧ ∀ v, vX11_body s a1 a2 = some v → vX12_body t a1 a2 = v := by
  obtain ⟨b, hb, rfl⟩ := z_ex a1
  obtain ⟨w, hw2, rfl⟩ := z_ex a2
  have h3 := t_R h2 (zI 0)
  have h0 := hw.w0
  unfold rX11_body rX12_body vX11_body vX12_body mX12_body rX12_throwsIf vX12_throwsIf mX12_throwsIf
  rcases tf (bdyZ g b) with c1 | c1
  · have hbd : bdyZ g b := of_eq_true c1
    have hp := h.1.2.1 b hbd
    have hl := h.2.2.1 b hbd
    have p0 : gI s 7 (zI b).toNatClampNeg = zI (rmZ g b) := by rw [z_cl hb]; exact hp.1
    have p1 : gI s 8 (zI b).toNatClampNeg = zI (kiZ g b) := by rw [z_cl hb]; exact hp.2
    have p3 : gI s 38 (zI b).toNatClampNeg = zI (lefZ g b) := by rw [z_cl hb]; exact hl.1
    have p6 : gI s 39 (zI b).toNatClampNeg = zI (exZ g b) := by rw [z_cl hb]; exact hl.2
    have v9 := y_vb hw hbd
    obtain ⟨m0, n0⟩ := x_row h3 4 (by omega) (b := b) (by omega)
    obtain ⟨m1, n1⟩ := x_row h3 13 (by omega) (b := b) (by omega)
    obtain ⟨m6, n6⟩ := x_row h3 37 (by omega) (b := b) (by omega)
    have m0 : gI (pI t 248 0 (zI 0)) 250 (zI 4 + zI b).toNatClampNeg = zI (rmZ g b) := m0
    have m1 : gI (pI t 248 0 (zI 0)) 250 (zI 13 + zI b).toNatClampNeg = zI (kiZ g b) := m1
    have m6 : gI (pI t 248 0 (zI 0)) 250 (zI 37 + zI b).toNatClampNeg = zI (exZ g b) := m6
    have n0 : vp_in (zI 4 + zI b) 787 := n0
    have n1 : vp_in (zI 13 + zI b) 787 := n1
    have n6 : vp_in (zI 37 + zI b) 787 := n6
    obtain ⟨e3, r3⟩ := x_leftOf h3 hw hbd
    obtain ⟨e4, r4⟩ := x_netOf h3 hw hb
    obtain ⟨d4, q4⟩ := y_netOf h hw hb
    obtain ⟨e5, r5⟩ := x_marksOn h3 hw hb (show IR 99 by omega)
    obtain ⟨d5, q5⟩ := y_marksOn h hw hb (show IR 99 by omega)
    have l1 := y_lives (P := 5) h.2 b
    have l2 := x_isLiving h3 b
    by_cases hc : 0 ≤ w ∧ w ≤ 6
    · rcases (show w = 0 ∨ w = 1 ∨ w = 2 ∨ w = 3 ∨ w = 4 ∨ w = 5 ∨ w = 6 by omega) with rfl | rfl | rfl | rfl | rfl | rfl | rfl <;>
        simp (disch := omega) only [y_hasBody h.1 hw hb, x_isBody h2 hw hb, zl0, zl1, zl2, zl3, zl4, zl5, zl6, zl13, zl37, zl99, x_isIn, z_eq, c1, bI_T, bI_F, bI_z, p0, p1, p3, p6, v9, m0, m1, m6, n0, n1, n6, e3, r3, e4, r4, d4, q4, e5, r5, d5, q5, l1, l2, Option.some.injEq, forall_eq, forall_eq', tI_zI, Int.le_refl, Int.lt_irrefl, Int.reduceAdd, Int.reduceSub, Int.reduceMul, Int.reduceNeg, Int.reduceLT, Int.reduceLE, Int.reduceToNat, Int.reduceEq, if_true, if_false, true_and, and_true, not_true, not_false_eq_true, false_implies, true_implies, imp_self, and_self, and_false, false_and, or_true, true_or, or_false, false_or, ite_self, implies_true]
    · obtain ⟨j0, j1, j2, j3, j4, j5, j6⟩ := f7 hc
      have j7 : (0 ≤ w ∧ w ≤ 6) = False := eq_false hc
      simp (disch := omega) only [y_hasBody h.1 hw hb, x_isBody h2 hw hb, zl0, zl1, zl2, zl3, zl4, zl5, zl6, zl13, zl37, zl99, x_isIn, z_eq, c1, bI_T, bI_F, bI_z, j0, j1, j2, j3, j4, j5, j6, j7, reduceCtorEq, Int.reduceAdd, Int.reduceSub, Int.reduceMul, Int.reduceNeg, Int.reduceLT, Int.reduceLE, Int.reduceToNat, Int.reduceEq, if_true, if_false, true_and, and_true, not_true, not_false_eq_true, false_implies, true_implies, imp_self, and_self, and_false, false_and, or_true, true_or, or_false, false_or, ite_self, implies_true]
  · simp (disch := omega) only [y_hasBody h.1 hw hb, x_isBody h2 hw hb, c1, zl0, zl1, z_neg, bI_F, bI_z, z_eq, reduceCtorEq, ite_self, Int.reduceAdd, Int.reduceSub, Int.reduceMul, Int.reduceNeg, Int.reduceLT, Int.reduceLE, Int.reduceToNat, Int.reduceEq, if_true, if_false, true_and, and_true, not_true, not_false_eq_true, false_implies, true_implies, imp_self, and_self, and_false, false_and, or_true, true_or, or_false, false_or, ite_self, implies_true]
theorem q_kind (h : LdR s 31 5 g) (h2 : RR t g) (hw : WF g) (a1 a2 : Int32) : rX11_kind s a1 a2 ∧ rX12_kind t a1 a2 ∧ mX12_kind t a1 a2 = pI t 248 0 (match vX11_kind s a1 a2 with | none => 1 | some _ => 0) ∧ ∀ v, vX11_kind s a1 a2 = some v → vX12_kind t a1 a2 = v := by
  obtain ⟨b, hb, rfl⟩ := z_ex a1
  obtain ⟨w, hw2, rfl⟩ := z_ex a2
  have h3 := t_R h2 (zI 0)
  have h0 := hw.w0
  unfold rX11_kind rX12_kind vX11_kind vX12_kind mX12_kind rX12_throwsIf vX12_throwsIf mX12_throwsIf
  rcases tf (kndZ g b) with c1 | c1
  · have hbd : kndZ g b := of_eq_true c1
    have hp := h.1.2.2 b hbd
    have p0 : gI s 10 (zI b).toNatClampNeg = zI (szZ g b) := by rw [z_cl hb]; exact hp.1
    have p1 : gI s 11 (zI b).toNatClampNeg = zI (soZ g b) := by rw [z_cl hb]; exact hp.2
    have v9 := y_vk hw hbd
    obtain ⟨m0, n0⟩ := x_row h3 22 (by omega) (b := b) (by omega)
    obtain ⟨m1, n1⟩ := x_row h3 28 (by omega) (b := b) (by omega)
    have m0 : gI (pI t 248 0 (zI 0)) 250 (zI 22 + zI b).toNatClampNeg = zI (szZ g b) := m0
    have m1 : gI (pI t 248 0 (zI 0)) 250 (zI 28 + zI b).toNatClampNeg = zI (soZ g b) := m1
    have n0 : vp_in (zI 22 + zI b) 787 := n0
    have n1 : vp_in (zI 28 + zI b) 787 := n1
    by_cases hc : 0 ≤ w ∧ w ≤ 1
    · rcases (show w = 0 ∨ w = 1 by omega) with rfl | rfl <;>
        simp (disch := omega) only [y_hasKind h.1 hw hb, x_isKind h2 hw hb, zl0, zl1, zl22, zl28, x_isIn, z_eq, z_lt, z_le, c1, bI_T, bI_F, bI_z, p0, p1, v9, m0, m1, n0, n1, Option.some.injEq, forall_eq, forall_eq', Int.le_refl, Int.lt_irrefl, Int.reduceAdd, Int.reduceSub, Int.reduceMul, Int.reduceNeg, Int.reduceLT, Int.reduceLE, Int.reduceToNat, Int.reduceEq, if_true, if_false, true_and, and_true, not_true, not_false_eq_true, false_implies, true_implies, imp_self, and_self, and_false, false_and, or_true, true_or, or_false, false_or, ite_self, implies_true]
    · have j7 : (0 ≤ w ∧ w ≤ 1) = False := eq_false hc
      rcases tf (w < 0) with j1 | j1
      · simp (disch := omega) only [y_hasKind h.1 hw hb, x_isKind h2 hw hb, zl0, zl1, zl22, zl28, x_isIn, z_eq, z_lt, z_le, c1, bI_T, bI_F, bI_z, j1, j7, reduceCtorEq, Int.reduceAdd, Int.reduceSub, Int.reduceMul, Int.reduceNeg, Int.reduceLT, Int.reduceLE, Int.reduceToNat, Int.reduceEq, if_true, if_false, true_and, and_true, not_true, not_false_eq_true, false_implies, true_implies, imp_self, and_self, and_false, false_and, or_true, true_or, or_false, false_or, ite_self, implies_true]
      · have j2 : (w ≤ 1) = False := eq_false (by have := of_eq_false j1; omega)
        simp (disch := omega) only [y_hasKind h.1 hw hb, x_isKind h2 hw hb, zl0, zl1, zl22, zl28, x_isIn, z_eq, z_lt, z_le, c1, bI_T, bI_F, bI_z, j1, j2, j7, reduceCtorEq, Int.reduceAdd, Int.reduceSub, Int.reduceMul, Int.reduceNeg, Int.reduceLT, Int.reduceLE, Int.reduceToNat, Int.reduceEq, if_true, if_false, true_and, and_true, not_true, not_false_eq_true, false_implies, true_implies, imp_self, and_self, and_false, false_and, or_true, true_or, or_false, false_or, ite_self, implies_true]
  · simp (disch := omega) only [y_hasKind h.1 hw hb, x_isKind h2 hw hb, c1, zl0, zl1, zl22, zl28, z_neg, bI_F, bI_z, z_eq, reduceCtorEq, ite_self, Int.reduceAdd, Int.reduceSub, Int.reduceMul, Int.reduceNeg, Int.reduceLT, Int.reduceLE, Int.reduceToNat, Int.reduceEq, if_true, if_false, true_and, and_true, not_true, not_false_eq_true, false_implies, true_implies, imp_self, and_self, and_false, false_and, or_true, true_or, or_false, false_or, ite_self, implies_true]
theorem q_deal (h : LdR s 31 5 g) (h2 : RR t g) (hw : WF g) (a1 a2 : Int32) : rX11_deal s a1 a2 ∧ rX12_deal t a1 a2 ∧ mX12_deal t a1 a2 = pI t 248 0 (match vX11_deal s a1 a2 with | none => 1 | some _ => 0) ∧ ∀ v, vX11_deal s a1 a2 = some v → vX12_deal t a1 a2 = v := by
  obtain ⟨d, hd, rfl⟩ := z_ex a1
  obtain ⟨w, hw2, rfl⟩ := z_ex a2
  have h3 := t_R h2 (zI 0)
  have h0 := hw.w0
  unfold rX11_deal rX12_deal vX11_deal vX12_deal mX12_deal rX12_throwsIf vX12_throwsIf mX12_throwsIf
  rcases tf (dlZ g d) with c1 | c1
  · have hdl : dlZ g d := of_eq_true c1
    have hwd := hw.wd hdl
    obtain ⟨f0, f1, f2, f3, f4, f5, f6, f7, f8⟩ := n_f h.2 hw hdl
    have v9 := y_vp hw hdl
    obtain ⟨e6, r6⟩ := y_bearer (P := 5) h.2 hw hdl (Or.inl rfl : (0 : Int) = 0 ∨ _)
    obtain ⟨e7, r7⟩ := y_bearer (P := 5) h.2 hw hdl (Or.inr rfl : (1 : Int) = 0 ∨ _)
    obtain ⟨e8, r8⟩ := y_isKnown h hw hdl
    obtain ⟨e9, r9⟩ := y_valueOf h hw hdl
    obtain ⟨d8, q8⟩ := x_isKnown h3 hw (st := lvS g) hdl
    obtain ⟨d9, q9⟩ := x_valueOf h3 hw hdl
    have x0 := x_of h3 (d := d) (w := 0) (by omega) (by omega)
    have x1 := x_of h3 (d := d) (w := 1) (by omega) (by omega)
    have x2 := x_of h3 (d := d) (w := 2) (by omega) (by omega)
    have x3 := x_of h3 (d := d) (w := 3) (by omega) (by omega)
    have x4 := x_of h3 (d := d) (w := 4) (by omega) (by omega)
    have x5 := x_of h3 (d := d) (w := 5) (by omega) (by omega)
    have x6 := x_of h3 (d := d) (w := 6) (by omega) (by omega)
    have x7 := x_of h3 (d := d) (w := 7) (by omega) (by omega)
    by_cases hc : 0 ≤ w ∧ w ≤ 9
    · have rx := fun w h1 h2 => x_of_r (pI t 248 0 (zI 0)) (d := d) (w := w) h1 h2
      rcases (show w = 0 ∨ w = 1 ∨ w = 2 ∨ w = 3 ∨ w = 4 ∨ w = 5 ∨ w = 6 ∨ w = 7 ∨ w = 8 ∨ w = 9 by omega) with rfl | rfl | rfl | rfl | rfl | rfl | rfl | rfl | rfl | rfl <;>
        simp (disch := omega) only [y_hasDeal h.2 hw hd, x_isDeal h2 hw hd, zl0, zl1, zl2, zl3, zl4, zl5, zl6, zl7, zl8, zl9, x_isIn, z_eq, z_le, c1, bI_T, bI_F, bI_z, f0, f1, f2, f3, f4, f5, e6, r6, e7, r7, e8, r8, e9, r9, d8, q8, d9, q9, x0, x1, x2, x3, x4, x5, x6, x7, rx, v9, x_living h3, Option.some.injEq, forall_eq, forall_eq', Int.le_refl, Int.lt_irrefl, Int.reduceAdd, Int.reduceSub, Int.reduceMul, Int.reduceNeg, Int.reduceLT, Int.reduceLE, Int.reduceToNat, Int.reduceEq, if_true, if_false, true_and, and_true, not_true, not_false_eq_true, false_implies, true_implies, imp_self, and_self, and_false, false_and, or_true, true_or, or_false, false_or, ite_self, implies_true]
    · have j7 : (0 ≤ w ∧ w ≤ 9) = False := eq_false hc
      have j0 : (w = 0) = False := eq_false (by omega)
      have j1 : (w = 1) = False := eq_false (by omega)
      have j2 : (w = 2) = False := eq_false (by omega)
      have j3 : (w = 3) = False := eq_false (by omega)
      have j4 : (w = 4) = False := eq_false (by omega)
      have j5 : (w = 5) = False := eq_false (by omega)
      have j6 : (w = 6) = False := eq_false (by omega)
      have j8 : (w = 7) = False := eq_false (by omega)
      have j9 : (w = 8) = False := eq_false (by omega)
      have j10 : (w = 9) = False := eq_false (by omega)
      simp (disch := omega) only [y_hasDeal h.2 hw hd, x_isDeal h2 hw hd, zl0, zl1, zl2, zl3, zl4, zl5, zl6, zl7, zl8, zl9, x_isIn, z_eq, z_le, c1, bI_T, bI_F, bI_z, j0, j1, j2, j3, j4, j5, j6, j7, j8, j9, j10, reduceCtorEq, Int.reduceAdd, Int.reduceSub, Int.reduceMul, Int.reduceNeg, Int.reduceLT, Int.reduceLE, Int.reduceToNat, Int.reduceEq, if_true, if_false, true_and, and_true, not_true, not_false_eq_true, false_implies, true_implies, imp_self, and_self, and_false, false_and, or_true, true_or, or_false, false_or, ite_self, implies_true]
  · simp (disch := omega) only [y_hasDeal h.2 hw hd, x_isDeal h2 hw hd, c1, zl0, zl1, zl8, z_neg, bI_F, bI_z, z_eq, reduceCtorEq, ite_self, Int.reduceAdd, Int.reduceSub, Int.reduceMul, Int.reduceNeg, Int.reduceLT, Int.reduceLE, Int.reduceToNat, Int.reduceEq, if_true, if_false, true_and, and_true, not_true, not_false_eq_true, false_implies, true_implies, imp_self, and_self, and_false, false_and, or_true, true_or, or_false, false_or, ite_self, implies_true]
/-! can -/
def stCA (g : Nat → Int) (l k : Int) (b : Nat) (a : Int32) : Int32 := if wyZ g l b k = 0 then a ||| ((1 : Int32) <<< (zI (b : Int) &&& 31)) else a
theorem q_can (h : LdR s 31 5 g) (h2 : RR s g) (hw : WF g) (a1 a2 : Int32) : rX11_can s a1 a2 ∧ mX11_can s a1 a2 = s ∧ rX12_can s a1 a2 ∧ vX11_can s a1 a2 = vX12_can s a1 a2 ∧ mX12_can s a1 a2 = Th s := by
  obtain ⟨l, hl, rfl⟩ := z_ex a1
  obtain ⟨k, hk, rfl⟩ := z_ex a2
  have h3 := Th_R h2
  have h0 := hw.w0
  unfold rX11_can mX11_can rX12_can vX11_can vX12_can mX12_can fX11_can fX12_can
  rcases tf (bdyZ g l) with c1 | c1
  · rcases tf (kndZ g k) with c2 | c2
    · have hbl : bdyZ g l := of_eq_true c1
      have hkk : kndZ g k := of_eq_true c2
      have hN : ((g 0).toNat : Int) = g 0 := by omega
      have n00 : gI (Th s) 250 (zI 0).toNatClampNeg = zI (g 0) := h3 0
      have hs1 : ∀ (d : Nat) (a : Int32), d < (g 0).toNat → ST 1 (fun n => lX11_can n s (zI l) (zI k) a (zI d)) (fun n => qX11_can n s (zI l) (zI k) a (zI d)) (fun n => lX11_can n s (zI l) (zI k) (stCA g l k d a) (zI ((d + 1 : Nat) : Int))) (fun n => qX11_can n s (zI l) (zI k) (stCA g l k d a) (zI ((d + 1 : Nat) : Int))) := by
        intro d a hd
        have hbd : bdyZ g d := by omega
        obtain ⟨e, r⟩ := y_wrong h (by omega) hw hbl hbd hkk
        have m := y_wrong_m s 31 5 (zI l) (zI d) (zI k)
        have hwy := wyZ_b g l d k
        have hn1 : (g 0 ≤ (d : Int)) = False := eq_false (by omega)
        refine ⟨1, by decide, fun n => ?_⟩
        rcases tf (wyZ g l d k = 0) with k1 | k1 <;>
          simp (disch := omega) only [lX11_can, qX11_can, tX11_can_29, uX11_can_29, h.1.1.1, zl0, zl1, z_add, z_le, z_eq, e, r, m, k1, stCA, hn1, Int.reduceAdd, Int.reduceSub, Int.reduceMul, Int.reduceNeg, Int.reduceLT, Int.reduceLE, Int.reduceToNat, Int.reduceEq, i_a0, i_s0, i_or0, Int.natCast_succ, Int.sub_sub, Int.add_assoc, Int.add_zero, Int.zero_add, Int.sub_zero, if_true, if_false, true_and, and_true, not_true, not_false_eq_true, false_implies, true_implies, imp_self, and_self, and_false, false_and, or_true, true_or, or_false, false_or, ite_self, implies_true]
      have hs2 : ∀ (d : Nat) (a : Int32), d < (g 0).toNat → ST 1 (fun n => lX12_can n (Th s) (zI l) (zI k) a (zI d)) (fun n => qX12_can n (Th s) (zI l) (zI k) a (zI d)) (fun n => lX12_can n (Th s) (zI l) (zI k) (stCA g l k d a) (zI ((d + 1 : Nat) : Int))) (fun n => qX12_can n (Th s) (zI l) (zI k) (stCA g l k d a) (zI ((d + 1 : Nat) : Int))) := by
        intro d a hd
        have hbd : bdyZ g d := by omega
        obtain ⟨e, r⟩ := x_whyWrite h3 hw hbl hbd hkk
        have hwy := wyZ_b g l d k
        have hn1 : (g 0 ≤ (d : Int)) = False := eq_false (by omega)
        refine ⟨1, by decide, fun n => ?_⟩
        rcases tf (wyZ g l d k = 0) with k1 | k1 <;>
          simp (disch := omega) only [lX12_can, qX12_can, tX12_can_28, uX12_can_28, n00, zl0, zl1, z_add, z_le, z_eq, e, r, k1, stCA, hn1, Int.reduceAdd, Int.reduceSub, Int.reduceMul, Int.reduceNeg, Int.reduceLT, Int.reduceLE, Int.reduceToNat, Int.reduceEq, i_a0, i_s0, i_or0, Int.natCast_succ, Int.sub_sub, Int.add_assoc, Int.add_zero, Int.zero_add, Int.sub_zero, if_true, if_false, true_and, and_true, not_true, not_false_eq_true, false_implies, true_implies, imp_self, and_self, and_false, false_and, or_true, true_or, or_false, false_or, ite_self, implies_true]
      obtain ⟨e1, r1⟩ := ST_fu (ST_trans (ST_fold (g 0).toNat (stCA g l k) _ _ hs1 (zI 0)) (ST_1 (F' := fun _ => (fold (stCA g l k) (g 0).toNat (zI 0), s)) (C' := fun _ => True) (fun n => by
        simp (disch := omega) only [lX11_can, qX11_can, tX11_can_29, uX11_can_29, h.1.1.1, zl0, zl1, z_le, hN, Int.le_refl, if_true, if_false, true_and, and_true, not_true, not_false_eq_true, false_implies, true_implies, imp_self, and_self, and_false, false_and, or_true, true_or, or_false, false_or, ite_self, implies_true]))) (by omega)
      obtain ⟨e2, r2⟩ := ST_fu (ST_trans (ST_fold (g 0).toNat (stCA g l k) _ _ hs2 (zI 0)) (ST_1 (F' := fun _ => (fold (stCA g l k) (g 0).toNat (zI 0), Th s)) (C' := fun _ => True) (fun n => by
        simp (disch := omega) only [lX12_can, qX12_can, tX12_can_28, uX12_can_28, n00, zl0, zl1, z_le, hN, Int.le_refl, if_true, if_false, true_and, and_true, not_true, not_false_eq_true, false_implies, true_implies, imp_self, and_self, and_false, false_and, or_true, true_or, or_false, false_or, ite_self, implies_true]))) (by omega)
      simp only [Int.natCast_zero, Int.ofNat_zero, Int.cast_ofNat_Int] at e1 r1 e2 r2
      simp (disch := omega) only [y_hasBody h.1 hw hl, x_isBody h3 hw hl, y_hasKind h.1 hw hk, x_isKind h3 hw hk, c1, c2, zl0, zl1, z_neg, bI_T, bI_F, bI_z, z_eq, e1, r1, e2, r2, Int.reduceAdd, Int.reduceSub, Int.reduceMul, Int.reduceNeg, Int.reduceLT, Int.reduceLE, Int.reduceToNat, Int.reduceEq, if_true, if_false, true_and, and_true, not_true, not_false_eq_true, false_implies, true_implies, imp_self, and_self, and_false, false_and, or_true, true_or, or_false, false_or, ite_self, implies_true]
    · simp (disch := omega) only [y_hasBody h.1 hw hl, x_isBody h3 hw hl, y_hasKind h.1 hw hk, x_isKind h3 hw hk, c1, c2, zl0, zl1, z_neg, bI_T, bI_F, bI_z, z_eq, Int.reduceAdd, Int.reduceSub, Int.reduceMul, Int.reduceNeg, Int.reduceLT, Int.reduceLE, Int.reduceToNat, Int.reduceEq, if_true, if_false, true_and, and_true, not_true, not_false_eq_true, false_implies, true_implies, imp_self, and_self, and_false, false_and, or_true, true_or, or_false, false_or, ite_self, implies_true]
  · simp (disch := omega) only [y_hasBody h.1 hw hl, x_isBody h3 hw hl, c1, zl0, zl1, z_neg, bI_F, bI_z, z_eq, Int.reduceAdd, Int.reduceSub, Int.reduceMul, Int.reduceNeg, Int.reduceLT, Int.reduceLE, Int.reduceToNat, Int.reduceEq, if_true, if_false, true_and, and_true, not_true, not_false_eq_true, false_implies, true_implies, imp_self, and_self, and_false, false_and, or_true, true_or, or_false, false_or, ite_self, implies_true]
end
