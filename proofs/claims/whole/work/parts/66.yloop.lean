-- needs: 42.qa 51.fr 54.copy 55.hist 56.hist 60.rg 61.xrg 62.best 64.yprep 65.yext
def ExC (g : Nat → Int) (L P : Nat) (br lo0 lo en : Nat → Nat) (cn : Prop) (st : Nat) (s : SM) : Prop := LdR s L P g ∧ RgL s L P ∧ RoW g s br lo0 en ∧ gI s 218 11 = zI (oZ g st 0) ∧ gI s 220 0 = zI (st : Int) ∧ (∀ c, c < 9 → gI s 223 c = zI (lo c : Int)) ∧ ∀ c, c < 9 → lo0 c ≤ lo c ∧ lo c ≤ en c ∧ ∀ i, lo0 c ≤ i → i < en c → (lo c ≤ i ↔ (cn → st < br i))
theorem ExC_c {g : Nat → Int} {L P : Nat} {br lo0 lo en : Nat → Nat} {cn : Prop} {st : Nat} {s t : SM} (h : ExC g L P br lo0 lo en cn st s) (hf : Fp ExA s t) (hd : gD t = gD s) (h0 : gI t 220 0 = gI s 220 0) : ExC g L P br lo0 lo en cn st t := by
  obtain ⟨h1, h2, ⟨r1, r2, mf, r3, r4, r5, r6⟩, h4, h5, h6, h7⟩ := h
  have hb := RgL_b h2
  refine ⟨LdR_fr h1 (A := fun c => 218 ≤ c ∧ c ≤ 224) ⟨fun c hc => by funext i; exact hf.1 c i (by omega), hf.2⟩ (fun c hc => by omega), RgL_c h2 hd, ⟨fun c hc => ?_, fun w hw => by rw [hf.1 221 w (by omega)]; exact r2 w hw, mf, by rw [hf.1 218 7 (by omega)]; exact r3, r4, r5, r6⟩, by rw [hf.1 218 11 (by omega)]; exact h4, by rw [h0]; exact h5, fun c hc => by rw [hf.1 223 c (by omega)]; exact h6 c hc, h7⟩
  obtain ⟨k1, k2, k3, k4⟩ := r1 c hc
  exact ⟨by rw [hf.1 224 c (by omega)]; exact k1, k2, k3, fun i hi => by rw [hf.1 222 i (by omega)]; exact k4 i hi⟩
def ExR (g : Nat → Int) (cn : Prop) (Q : List Nat) (t : Int) (s : SM) (o : Option (List Nat)) (s' : SM) (o' : Option (List Nat)) (C : List Nat → Prop) : Prop := Fp ExA s s' ∧ gD s' = gD s ∧ (∀ j, j < Q.length → gI s' 220 j = gI s 220 j) ∧ YO s' g o' ∧ (∀ q, o' = some q → o = some q ∨ (RGs g cn q ∧ stt q = stt Q ∧ cd q < t)) ∧ KB g o ≤ KB g o' ∧ ∀ c, RGs g cn c → C c → KK g c ≤ KB g o'
def Ext (g : Nat → Int) (L P : Nat) (br lo0 lo en : Nat → Nat) (cn : Prop) (k : Nat) : Prop := ∀ (x : Nat) (Q' : List Nat) (b M : Int) (s : SM) (o : Option (List Nat)) (F : Nat), (x :: Q').length + k = 5 → vpa g (x :: Q') → (cn → ∀ y ∈ x :: Q', stt (x :: Q') ≤ y) → b = oZ g x 1 → (∀ y ∈ x :: Q', oZ g y 0 ≠ b) → MTq g (x :: Q') b M → ExC g L P br lo0 lo en cn (stt (x :: Q')) s → MPx 220 s (x :: Q') → YO s g o → (∀ q, o = some q → RGs g cn q) → (∀ q, o = some q → stt (x :: Q') < stt q ∨ (stt q = stt (x :: Q') ∧ cd q < cd (x :: Q'))) → 62 * k + 1 ≤ F →
  ∃ s' o', (lX7_extend F).2 s (zI ((x :: Q').length : Int)) (zI b) (zI (mnR g (x :: Q'))) (zI (fsR g (x :: Q'))) (zI M) = s' ∧ (qX7_extend F).2 s (zI ((x :: Q').length : Int)) (zI b) (zI (mnR g (x :: Q'))) (zI (fsR g (x :: Q'))) (zI M) ∧ ExR g cn (x :: Q') (cd (x :: Q') + pB (x :: Q').length) s o s' o' (fun c => ∃ S, S ≠ [] ∧ c = S ++ x :: Q')
section
variable {s : SM} {g : Nat → Int} {L P : Nat}
/-- one turn -/
theorem y_turn (hw : WF g) {br lo0 lo en : Nat → Nat} {cn : Prop} {st : Nat} (hx : ExC g L P br lo0 lo en cn st s) {Q : List Nat} (hv : vpa g Q) (hne : Q ≠ []) (hl : Q.length ≤ 4) {b M : Int} (hb : 0 ≤ b ∧ b < 9) {i : Nat} (hi : i < en b.toNat) {d : Nat} (hdi : br i = d) (ho : okR g d) (hst : dlZ g st) {s1 : SM} (hs1 : s1 = pI s 220 Q.length (zI (d : Int))) (K : (SM → Int32 → Int32 → Int32 → Int32 → Int32 → Int32 → SM) × (SM → Int32 → Int32 → Int32 → Int32 → Int32 → SM)) (Pq : (SM → Int32 → Int32 → Int32 → Int32 → Int32 → Int32 → Prop) × (SM → Int32 → Int32 → Int32 → Int32 → Int32 → Prop)) :
    (oZ g d 1 = oZ g st 0 → tX7_extend_35 K s (zI (Q.length : Int)) (zI b) (zI (mnR g Q)) (zI (fsR g Q)) (zI M) (zI (i : Int)) = K.1 (mX7_offer s1 (zI ((d :: Q).length : Int)) (zI (mnR g (d :: Q))) (zI (fsR g (d :: Q)))) (zI (Q.length : Int)) (zI b) (zI (mnR g Q)) (zI (fsR g Q)) (zI M) (zI ((i + 1 : Nat) : Int)) ∧ (Pq.1 (mX7_offer s1 (zI ((d :: Q).length : Int)) (zI (mnR g (d :: Q))) (zI (fsR g (d :: Q)))) (zI (Q.length : Int)) (zI b) (zI (mnR g Q)) (zI (fsR g Q)) (zI M) (zI ((i + 1 : Nat) : Int)) → uX7_extend_35 K Pq s (zI (Q.length : Int)) (zI b) (zI (mnR g Q)) (zI (fsR g Q)) (zI M) (zI (i : Int)))) ∧
    (oZ g d 1 ≠ oZ g st 0 → hasZ M (oZ g d 1) → tX7_extend_35 K s (zI (Q.length : Int)) (zI b) (zI (mnR g Q)) (zI (fsR g Q)) (zI M) (zI (i : Int)) = K.1 s1 (zI (Q.length : Int)) (zI b) (zI (mnR g Q)) (zI (fsR g Q)) (zI M) (zI ((i + 1 : Nat) : Int)) ∧ (Pq.1 s1 (zI (Q.length : Int)) (zI b) (zI (mnR g Q)) (zI (fsR g Q)) (zI M) (zI ((i + 1 : Nat) : Int)) → uX7_extend_35 K Pq s (zI (Q.length : Int)) (zI b) (zI (mnR g Q)) (zI (fsR g Q)) (zI M) (zI (i : Int)))) ∧
    (oZ g d 1 ≠ oZ g st 0 → ¬ hasZ M (oZ g d 1) → ∀ s2, K.2 s1 (zI ((d :: Q).length : Int)) (zI (oZ g d 1)) (zI (mnR g (d :: Q))) (zI (fsR g (d :: Q))) (zI M ||| ((1 : Int32) <<< (zI (oZ g d 1) &&& 31))) = s2 → tX7_extend_35 K s (zI (Q.length : Int)) (zI b) (zI (mnR g Q)) (zI (fsR g Q)) (zI M) (zI (i : Int)) = K.1 s2 (zI (Q.length : Int)) (zI b) (zI (mnR g Q)) (zI (fsR g Q)) (zI M) (zI ((i + 1 : Nat) : Int)) ∧ (Pq.2 s1 (zI ((d :: Q).length : Int)) (zI (oZ g d 1)) (zI (mnR g (d :: Q))) (zI (fsR g (d :: Q))) (zI M ||| ((1 : Int32) <<< (zI (oZ g d 1) &&& 31))) → Pq.1 s2 (zI (Q.length : Int)) (zI b) (zI (mnR g Q)) (zI (fsR g Q)) (zI M) (zI ((i + 1 : Nat) : Int)) → uX7_extend_35 K Pq s (zI (Q.length : Int)) (zI b) (zI (mnR g Q)) (zI (fsR g Q)) (zI M) (zI (i : Int)))) := by
  have h0 := hw.w0
  obtain ⟨h1, h2, ⟨r1, r2, mf, r3, r4, r5, r6⟩, h4, h5, h6, h7⟩ := hx
  have hLb := RgL_b h2
  obtain ⟨k1, k2, k3, k4⟩ := r1 b.toNat (by omega)
  have hdl := ho.1.1
  have hwd := hw.wd hdl
  have hws := hw.wd hst
  obtain ⟨f0, f1, f2, f3, f4, f5, f6, f7, f8⟩ := n_f h1.2 hw hdl
  have x0 := RgL_x h2
  have d0 := h2.1
  have dx := h2.2.1
  have cb : (zI b).toNatClampNeg = b.toNat := z_cl (by omega)
  have vb : vp_in (zI b) 9 := by rw [z_in (by omega)]; omega
  have ci : (zI (i : Int)).toNatClampNeg = i := by rw [z_cl (by omega)]; exact Int.toNat_natCast _
  have vi : vp_in (zI (i : Int)) 60 := by rw [z_in (by omega)]; omega
  have cQ : (zI (Q.length : Int)).toNatClampNeg = Q.length := by rw [z_cl (by omega)]; exact Int.toNat_natCast _
  have vQ : vp_in (zI (Q.length : Int)) 5 := by rw [z_in (by omega)]; omega
  have cd' : (zI (d : Int)).toNatClampNeg = d := by rw [z_cl (by omega)]; exact Int.toNat_natCast _
  have vd : vp_in (zI (d : Int)) 60 := by rw [z_in (by omega)]; omega
  have ei : gI s 222 i = zI (d : Int) := by rw [k4 i hi, hdi]
  have fr := r2 d ho
  rw [cd'] at f1 f2
  have n1 : ((en b.toNat : Int) ≤ (i : Int)) = False := eq_false (by omega)
  have hm := mn_b hw hv hne
  have hfb := fs_90 hw hv (by omega)
  have hh : gI (pI s 220 Q.length (zI (d : Int))) 218 11 = zI (oZ g st 0) := by rw [gI_n _ _ _ _ (by omega)]; exact h4
  have hlen : ((d :: Q).length : Int) = (Q.length : Int) + 1 := by rw [List.length_cons]; omega
  have hfs := fs_cons g d Q
  have hmn : mnR g (d :: Q) = if oZ g d 2 < mnR g Q then oZ g d 2 else mnR g Q := rfl
  rw [hlen, hfs, hmn, hs1]
  refine ⟨fun c1 => ?_, fun c1 c2 => ?_, fun c1 c2 s2 hs2 => ?_⟩
  · have q1 : (oZ g d 1 = oZ g st 0) = True := eq_true c1
    have k10 : (zI 1 = zI 0) = False := eq_false (by decide)
    rcases (show oZ g d 2 < mnR g Q ∨ oZ g d 2 = mnR g Q ∨ mnR g Q < oZ g d 2 by omega) with c | c | c
    all_goals
      have e1 : (mnR g Q ≤ oZ g d 2) = (¬ oZ g d 2 < mnR g Q) := propext Int.not_lt.symm
      have e2 : (mnR g Q < oZ g d 2) = (¬ oZ g d 2 < mnR g Q ∧ ¬ oZ g d 2 = mnR g Q) := propext (by omega)
    · have a1 : (oZ g d 2 < mnR g Q) = True := eq_true c
      have a2 : (oZ g d 2 = mnR g Q) = False := eq_false (by omega)
      simp (disch := omega) only [tX7_extend_35, uX7_extend_35, cb, vb, ci, vi, cQ, vQ, ei, k1, zl0, zl1, z_add, z_le, z_lt, z_eq, n1, x0, d0, dx, h2.2.2, cd', vd, f1, f2, fr, hh, e1, e2, a1, a2, q1, c_isIn, k10, bI_T, bI_F, bI_z, Int.natCast_succ, forall_eq, not_true, not_false_eq_true, Int.reduceAdd, Int.reduceSub, Int.reduceMul, Int.reduceNeg, Int.reduceLT, Int.reduceLE, Int.reduceToNat, Int.reduceEq, if_true, if_false, true_and, and_true, not_true, not_false_eq_true, false_implies, true_implies, imp_self, and_self, and_false, false_and, or_true, true_or, or_false, false_or, ite_self, implies_true]
    · simp (disch := omega) only [tX7_extend_35, uX7_extend_35, cb, vb, ci, vi, cQ, vQ, ei, k1, zl0, zl1, z_add, z_le, z_lt, z_eq, n1, x0, d0, dx, h2.2.2, cd', vd, f1, f2, fr, hh, c, Int.lt_irrefl, Int.le_refl, eq_self, q1, c_isIn, k10, bI_T, bI_F, bI_z, Int.natCast_succ, forall_eq, not_true, not_false_eq_true, Int.reduceAdd, Int.reduceSub, Int.reduceMul, Int.reduceNeg, Int.reduceLT, Int.reduceLE, Int.reduceToNat, Int.reduceEq, if_true, if_false, true_and, and_true, not_true, not_false_eq_true, false_implies, true_implies, imp_self, and_self, and_false, false_and, or_true, true_or, or_false, false_or, ite_self, implies_true]
    · have a1 : (oZ g d 2 < mnR g Q) = False := eq_false (by omega)
      have a2 : (oZ g d 2 = mnR g Q) = False := eq_false (by omega)
      simp (disch := omega) only [tX7_extend_35, uX7_extend_35, cb, vb, ci, vi, cQ, vQ, ei, k1, zl0, zl1, z_add, z_le, z_lt, z_eq, n1, x0, d0, dx, h2.2.2, cd', vd, f1, f2, fr, hh, e1, e2, a1, a2, q1, c_isIn, k10, bI_T, bI_F, bI_z, Int.natCast_succ, forall_eq, not_true, not_false_eq_true, Int.reduceAdd, Int.reduceSub, Int.reduceMul, Int.reduceNeg, Int.reduceLT, Int.reduceLE, Int.reduceToNat, Int.reduceEq, if_true, if_false, true_and, and_true, not_true, not_false_eq_true, false_implies, true_implies, imp_self, and_self, and_false, false_and, or_true, true_or, or_false, false_or, ite_self, implies_true]
  · have q1 : (oZ g d 1 = oZ g st 0) = False := eq_false c1
    have q2 : hasZ M (oZ g d 1) = True := eq_true c2
    have k10 : (zI 1 = zI 0) = False := eq_false (by decide)
    rcases (show oZ g d 2 < mnR g Q ∨ oZ g d 2 = mnR g Q ∨ mnR g Q < oZ g d 2 by omega) with c | c | c
    all_goals
      have e1 : (mnR g Q ≤ oZ g d 2) = (¬ oZ g d 2 < mnR g Q) := propext Int.not_lt.symm
      have e2 : (mnR g Q < oZ g d 2) = (¬ oZ g d 2 < mnR g Q ∧ ¬ oZ g d 2 = mnR g Q) := propext (by omega)
    · have a1 : (oZ g d 2 < mnR g Q) = True := eq_true c
      have a2 : (oZ g d 2 = mnR g Q) = False := eq_false (by omega)
      simp (disch := omega) only [tX7_extend_35, uX7_extend_35, cb, vb, ci, vi, cQ, vQ, ei, k1, zl0, zl1, z_add, z_le, z_lt, z_eq, n1, x0, d0, dx, h2.2.2, cd', vd, f1, f2, fr, hh, e1, e2, a1, a2, q1, c_isIn, k10, bI_T, bI_F, bI_z, Int.natCast_succ, forall_eq, not_true, not_false_eq_true, Int.reduceAdd, Int.reduceSub, Int.reduceMul, Int.reduceNeg, Int.reduceLT, Int.reduceLE, Int.reduceToNat, Int.reduceEq, if_true, if_false, true_and, and_true, not_true, not_false_eq_true, false_implies, true_implies, imp_self, and_self, and_false, false_and, or_true, true_or, or_false, false_or, ite_self, implies_true, q2]
    · simp (disch := omega) only [tX7_extend_35, uX7_extend_35, cb, vb, ci, vi, cQ, vQ, ei, k1, zl0, zl1, z_add, z_le, z_lt, z_eq, n1, x0, d0, dx, h2.2.2, cd', vd, f1, f2, fr, hh, c, Int.lt_irrefl, Int.le_refl, eq_self, q1, c_isIn, k10, bI_T, bI_F, bI_z, Int.natCast_succ, forall_eq, not_true, not_false_eq_true, Int.reduceAdd, Int.reduceSub, Int.reduceMul, Int.reduceNeg, Int.reduceLT, Int.reduceLE, Int.reduceToNat, Int.reduceEq, if_true, if_false, true_and, and_true, not_true, not_false_eq_true, false_implies, true_implies, imp_self, and_self, and_false, false_and, or_true, true_or, or_false, false_or, ite_self, implies_true, q2]
    · have a1 : (oZ g d 2 < mnR g Q) = False := eq_false (by omega)
      have a2 : (oZ g d 2 = mnR g Q) = False := eq_false (by omega)
      simp (disch := omega) only [tX7_extend_35, uX7_extend_35, cb, vb, ci, vi, cQ, vQ, ei, k1, zl0, zl1, z_add, z_le, z_lt, z_eq, n1, x0, d0, dx, h2.2.2, cd', vd, f1, f2, fr, hh, e1, e2, a1, a2, q1, c_isIn, k10, bI_T, bI_F, bI_z, Int.natCast_succ, forall_eq, not_true, not_false_eq_true, Int.reduceAdd, Int.reduceSub, Int.reduceMul, Int.reduceNeg, Int.reduceLT, Int.reduceLE, Int.reduceToNat, Int.reduceEq, if_true, if_false, true_and, and_true, not_true, not_false_eq_true, false_implies, true_implies, imp_self, and_self, and_false, false_and, or_true, true_or, or_false, false_or, ite_self, implies_true, q2]
  · have q1 : (oZ g d 1 = oZ g st 0) = False := eq_false c1
    have q2 : hasZ M (oZ g d 1) = False := eq_false c2
    have k10 : (zI 1 = zI 0) = False := eq_false (by decide)
    subst hs2
    rcases (show oZ g d 2 < mnR g Q ∨ oZ g d 2 = mnR g Q ∨ mnR g Q < oZ g d 2 by omega) with c | c | c
    all_goals
      have e1 : (mnR g Q ≤ oZ g d 2) = (¬ oZ g d 2 < mnR g Q) := propext Int.not_lt.symm
      have e2 : (mnR g Q < oZ g d 2) = (¬ oZ g d 2 < mnR g Q ∧ ¬ oZ g d 2 = mnR g Q) := propext (by omega)
    · have a1 : (oZ g d 2 < mnR g Q) = True := eq_true c
      have a2 : (oZ g d 2 = mnR g Q) = False := eq_false (by omega)
      simp (disch := omega) only [tX7_extend_35, uX7_extend_35, cb, vb, ci, vi, cQ, vQ, ei, k1, zl0, zl1, z_add, z_le, z_lt, z_eq, n1, x0, d0, dx, h2.2.2, cd', vd, f1, f2, fr, hh, e1, e2, a1, a2, q1, c_isIn, k10, bI_T, bI_F, bI_z, Int.natCast_succ, forall_eq, not_true, not_false_eq_true, Int.reduceAdd, Int.reduceSub, Int.reduceMul, Int.reduceNeg, Int.reduceLT, Int.reduceLE, Int.reduceToNat, Int.reduceEq, if_true, if_false, true_and, and_true, not_true, not_false_eq_true, false_implies, true_implies, imp_self, and_self, and_false, false_and, or_true, true_or, or_false, false_or, ite_self, implies_true, q2]
      exact fun h h2 => ⟨h, h2⟩
    · simp (disch := omega) only [tX7_extend_35, uX7_extend_35, cb, vb, ci, vi, cQ, vQ, ei, k1, zl0, zl1, z_add, z_le, z_lt, z_eq, n1, x0, d0, dx, h2.2.2, cd', vd, f1, f2, fr, hh, c, Int.lt_irrefl, Int.le_refl, eq_self, q1, c_isIn, k10, bI_T, bI_F, bI_z, Int.natCast_succ, forall_eq, not_true, not_false_eq_true, Int.reduceAdd, Int.reduceSub, Int.reduceMul, Int.reduceNeg, Int.reduceLT, Int.reduceLE, Int.reduceToNat, Int.reduceEq, if_true, if_false, true_and, and_true, not_true, not_false_eq_true, false_implies, true_implies, imp_self, and_self, and_false, false_and, or_true, true_or, or_false, false_or, ite_self, implies_true, q2]
      exact fun h h2 => ⟨h, h2⟩
    · have a1 : (oZ g d 2 < mnR g Q) = False := eq_false (by omega)
      have a2 : (oZ g d 2 = mnR g Q) = False := eq_false (by omega)
      simp (disch := omega) only [tX7_extend_35, uX7_extend_35, cb, vb, ci, vi, cQ, vQ, ei, k1, zl0, zl1, z_add, z_le, z_lt, z_eq, n1, x0, d0, dx, h2.2.2, cd', vd, f1, f2, fr, hh, e1, e2, a1, a2, q1, c_isIn, k10, bI_T, bI_F, bI_z, Int.natCast_succ, forall_eq, not_true, not_false_eq_true, Int.reduceAdd, Int.reduceSub, Int.reduceMul, Int.reduceNeg, Int.reduceLT, Int.reduceLE, Int.reduceToNat, Int.reduceEq, if_true, if_false, true_and, and_true, not_true, not_false_eq_true, false_implies, true_implies, imp_self, and_self, and_false, false_and, or_true, true_or, or_false, false_or, ite_self, implies_true, q2]
      exact fun h h2 => ⟨h, h2⟩
end
