-- needs: 69d.cut 69n.pk
/-- Packer looks at the ledger, and holds the deals told -/
def PkC (g : Nat → Int) (ld db kd : Nat → Int) (n : Nat) (s : SM) : Prop := LdR s 31 5 g ∧ gD s 1 = some 31 ∧ gI s 225 0 = zI (n : Int) ∧ ∀ i, i < n → gI s 226 i = zI (ld i) ∧ gI s 227 i = zI (db i) ∧ gI s 228 i = zI (kd i)
abbrev PkD (g : Nat → Int) (ld db kd : Nat → Int) (n : Nat) : Prop := n ≤ 6 ∧ (∀ i, i < n → bdyZ g (ld i) ∧ bdyZ g (db i) ∧ kndZ g (kd i)) ∧ ∀ i, 0 ≤ szZ g (kd i)
section
variable {s : SM} {g : Nat → Int} {ld db kd : Nat → Int} {n : Nat}
theorem cr_b (hw : WF g) (hd : PkD g ld db kd n) {i : Nat} (hi : i < n) (w : Nat) : (-1 ≤ crW g ld i w ∧ crW g ld i w < 9) ∧ (-1 ≤ deW g db i w ∧ deW g db i w < 9) ∧ (0 ≤ crW g ld i w → bdyZ g (crW g ld i w)) ∧ (0 ≤ deW g db i w → bdyZ g (deW g db i w)) := by
  have h0 := hw.w0
  obtain ⟨b1, b2, b3⟩ := hd.2.1 i hi
  have k1 := (hw.wb b1).2.1
  have k2 := (hw.wb b2).2.1
  unfold crW deW
  refine ⟨?_, ?_, fun hc => ?_, fun hc => ?_⟩
  · split <;> omega
  · split <;> omega
  · by_cases h : w % 2 = 0
    · rw [if_pos h]; exact b1
    · rw [if_neg h] at hc ⊢; exact ⟨hc, by omega⟩
  · by_cases h : w < 2
    · rw [if_pos h]; exact b2
    · rw [if_neg h] at hc ⊢; exact ⟨hc, by omega⟩
theorem y_pb (hx : PkC g ld db kd n s) (hw : WF g) (hd : PkD g ld db kd n) {i : Nat} (hi : i < n) {w : Nat} (hw4 : w < 4) (a3 : Int32) (K : (SM → Int32 → Int32 → SM) × (SM → Int32 → Int32 → Int32 → SM) × (SM → Int32 → Int32 → SM) × (SM → Int32 → Int32 → Int32 → Int32 → Int32 → Int32 → SM) × (SM → Int32 → Int32 → SM) × (SM → Int32 → Int32 → Int32 → SM)) (Pq : (SM → Int32 → Int32 → Prop) × (SM → Int32 → Int32 → Int32 → Prop) × (SM → Int32 → Int32 → Prop) × (SM → Int32 → Int32 → Int32 → Int32 → Int32 → Int32 → Prop) × (SM → Int32 → Int32 → Prop) × (SM → Int32 → Int32 → Int32 → Prop)) :
    (¬ okB g ld db i w → tX5_placeBy_e K s (zI (i : Int)) (zI (w : Int)) a3 = s ∧ uX5_placeBy_e K Pq s (zI (i : Int)) (zI (w : Int)) a3) ∧
    (okB g ld db i w → ∀ s1 s2, s1 = pI s 232 (crW g ld i w).toNat (gI s 232 (crW g ld i w).toNat - zI (szZ g (kd i))) → s2 = pI s1 232 (deW g db i w).toNat (gI s1 232 (deW g db i w).toNat - zI (szZ g (kd i))) →
      ((gI s2 232 (crW g ld i w).toNat < 0 ∨ gI s2 232 (deW g db i w).toNat < 0) → tX5_placeBy_e K s (zI (i : Int)) (zI (w : Int)) a3 = K.2.2.2.1 s2 (zI (i : Int)) (zI (w : Int)) a3 (zI (crW g ld i w)) (zI (deW g db i w)) (zI (szZ g (kd i))) ∧ (Pq.2.2.2.1 s2 (zI (i : Int)) (zI (w : Int)) a3 (zI (crW g ld i w)) (zI (deW g db i w)) (zI (szZ g (kd i))) → uX5_placeBy_e K Pq s (zI (i : Int)) (zI (w : Int)) a3)) ∧
      (¬ gI s2 232 (crW g ld i w).toNat < 0 → ¬ gI s2 232 (deW g db i w).toNat < 0 → ∀ s3, K.2.2.2.2.1 (pI s2 229 i (zI (w : Int))) (zI (i : Int) + 1) (a3 + 1) = s3 → tX5_placeBy_e K s (zI (i : Int)) (zI (w : Int)) a3 = K.2.2.2.1 s3 (zI (i : Int)) (zI (w : Int)) a3 (zI (crW g ld i w)) (zI (deW g db i w)) (zI (szZ g (kd i))) ∧ (Pq.2.2.2.2.1 (pI s2 229 i (zI (w : Int))) (zI (i : Int) + 1) (a3 + 1) → Pq.2.2.2.1 s3 (zI (i : Int)) (zI (w : Int)) a3 (zI (crW g ld i w)) (zI (deW g db i w)) (zI (szZ g (kd i))) → uX5_placeBy_e K Pq s (zI (i : Int)) (zI (w : Int)) a3))) := by
  have h0 := hw.w0
  obtain ⟨x1, x2, x3, x4⟩ := hx
  obtain ⟨t1, t2, t3⟩ := x4 i hi
  obtain ⟨b1, b2, b3⟩ := hd.2.1 i hi
  have k1 := (hw.wb b1).2.1
  have k2 := (hw.wb b2).2.1
  have gx : gDx s 1 = 31 := by unfold gDx; rw [x2]; rfl
  have e5 : rfx 31 8 = 5 := by decide
  have lx : (31, 5) ∈ LX := by decide
  have ci : (zI (i : Int)).toNatClampNeg = i := by rw [z_cl (by omega)]; exact Int.toNat_natCast _
  have vi : vp_in (zI (i : Int)) 6 := by rw [z_in (by omega)]; omega
  have cl : (zI (ld i)).toNatClampNeg = (ld i).toNat := z_cl (by omega)
  have vl : vp_in (zI (ld i)) 9 := by rw [z_in (by omega)]; omega
  have cdb : (zI (db i)).toNatClampNeg = (db i).toNat := z_cl (by omega)
  have vdb : vp_in (zI (db i)) 9 := by rw [z_in (by omega)]; omega
  have ck : (zI (kd i)).toNatClampNeg = (kd i).toNat := z_cl (by omega)
  have vk : vp_in (zI (kd i)) 6 := by rw [z_in (by omega)]; omega
  have ekl : gI s 8 (ld i).toNat = zI (kiZ g (ld i)) := (x1.1.2.1 _ b1).2
  have ekd : gI s 8 (db i).toNat = zI (kiZ g (db i)) := (x1.1.2.1 _ b2).2
  have esz : gI s 10 (kd i).toNat = zI (szZ g (kd i)) := (x1.1.2.2 _ b3).1
  have il : ∀ b, vX4_lives s 31 5 (zI b) = bI (livZ g b) := fun b => y_lives (P := 5) x1.2 b
  rcases (show w = 0 ∨ w = 1 ∨ w = 2 ∨ w = 3 by omega) with rfl | rfl | rfl | rfl
  · have eC : crW g ld i 0 = ld i := rfl
    have eD : deW g db i 0 = db i := rfl
    have a1 : ((zI ((0 : Nat) : Int) &&& (1 : Int32)) = 0) = True := eq_true (by decide)
    have a2 : ((zI ((0 : Nat) : Int) &&& (2 : Int32)) = 0) = True := eq_true (by decide)
    have m1 : (zI (ld i) = -1) = (ld i = -1) := propext (z_eq (b := -1) (by omega) (by omega))
    have m2 : (zI (db i) = -1) = (db i = -1) := propext (z_eq (b := -1) (by omega) (by omega))
    have cC : (zI (ld i)).toNatClampNeg = (ld i).toNat := z_cl (by omega)
    have cD : (zI (db i)).toNatClampNeg = (db i).toNat := z_cl (by omega)
    rw [eC, eD]
    refine ⟨fun hn => ?_, fun hp s1 s2 hs1 hs2 => ?_⟩
    · have hn : ¬ (0 ≤ ld i ∧ 0 ≤ db i ∧ livZ g (ld i) ∧ livZ g (db i)) := hn
      rcases tf (ld i = -1) with q1 | q1
      · simp (disch := omega) only [tX5_placeBy_e, uX5_placeBy_e, gx, e5, Nat.reduceAdd, lx, x2, ci, vi, t1, t2, t3, cl, vl, cdb, vdb, ck, vk, ekl, ekd, esz, il, bI_0, m1, m2, cC, cD, a1, a2, q1, forall_eq, not_true, not_false_eq_true, if_true, if_false, true_and, and_true, not_true, not_false_eq_true, false_implies, true_implies, imp_self, and_self, and_false, false_and, or_true, true_or, or_false, false_or, ite_self, implies_true]
      · rcases tf (db i = -1) with q2 | q2
        · simp (disch := omega) only [tX5_placeBy_e, uX5_placeBy_e, gx, e5, Nat.reduceAdd, lx, x2, ci, vi, t1, t2, t3, cl, vl, cdb, vdb, ck, vk, ekl, ekd, esz, il, bI_0, m1, m2, cC, cD, a1, a2, q1, q2, forall_eq, not_true, not_false_eq_true, if_true, if_false, true_and, and_true, not_true, not_false_eq_true, false_implies, true_implies, imp_self, and_self, and_false, false_and, or_true, true_or, or_false, false_or, ite_self, implies_true]
        · rcases tf (livZ g (ld i)) with q3 | q3
          · have q4 : livZ g (db i) = False := eq_false (fun hc => hn ⟨by have := of_eq_false q1; omega, by have := of_eq_false q2; omega, of_eq_true q3, hc⟩)
            simp (disch := omega) only [tX5_placeBy_e, uX5_placeBy_e, gx, e5, Nat.reduceAdd, lx, x2, ci, vi, t1, t2, t3, cl, vl, cdb, vdb, ck, vk, ekl, ekd, esz, il, bI_0, m1, m2, cC, cD, a1, a2, q1, q2, q3, q4, forall_eq, not_true, not_false_eq_true, if_true, if_false, true_and, and_true, not_true, not_false_eq_true, false_implies, true_implies, imp_self, and_self, and_false, false_and, or_true, true_or, or_false, false_or, ite_self, implies_true]
          · simp (disch := omega) only [tX5_placeBy_e, uX5_placeBy_e, gx, e5, Nat.reduceAdd, lx, x2, ci, vi, t1, t2, t3, cl, vl, cdb, vdb, ck, vk, ekl, ekd, esz, il, bI_0, m1, m2, cC, cD, a1, a2, q1, q2, q3, forall_eq, not_true, not_false_eq_true, if_true, if_false, true_and, and_true, not_true, not_false_eq_true, false_implies, true_implies, imp_self, and_self, and_false, false_and, or_true, true_or, or_false, false_or, ite_self, implies_true]
    · obtain ⟨p1, p2, p3, p4⟩ : 0 ≤ ld i ∧ 0 ≤ db i ∧ livZ g (ld i) ∧ livZ g (db i) := hp
      have q1 : (ld i = -1) = False := eq_false (by omega)
      have q2 : (db i = -1) = False := eq_false (by omega)
      have q3 : livZ g (ld i) = True := eq_true p3
      have q4 : livZ g (db i) = True := eq_true p4
      have vC : vp_in (zI (ld i)) 9 := by rw [z_in (by omega)]; omega
      have vD : vp_in (zI (db i)) 9 := by rw [z_in (by omega)]; omega
      refine ⟨fun hc => ?_, fun n1 n2 s3 hs3 => ?_⟩
      · rcases tf (gI s2 232 (ld i).toNat < 0) with n1 | n1
        · simp (disch := omega) only [tX5_placeBy_e, uX5_placeBy_e, gx, e5, Nat.reduceAdd, lx, x2, ci, vi, t1, t2, t3, cl, vl, cdb, vdb, ck, vk, ekl, ekd, esz, il, bI_0, m1, m2, cC, cD, vC, vD, a1, a2, q1, q2, q3, q4, ← hs1, ← hs2, n1, forall_eq, not_true, not_false_eq_true, if_true, if_false, true_and, and_true, not_true, not_false_eq_true, false_implies, true_implies, imp_self, and_self, and_false, false_and, or_true, true_or, or_false, false_or, ite_self, implies_true]
        · have n2 : (gI s2 232 (db i).toNat < 0) = True := eq_true (hc.resolve_left (of_eq_false n1))
          simp (disch := omega) only [tX5_placeBy_e, uX5_placeBy_e, gx, e5, Nat.reduceAdd, lx, x2, ci, vi, t1, t2, t3, cl, vl, cdb, vdb, ck, vk, ekl, ekd, esz, il, bI_0, m1, m2, cC, cD, vC, vD, a1, a2, q1, q2, q3, q4, ← hs1, ← hs2, n1, n2, forall_eq, not_true, not_false_eq_true, if_true, if_false, true_and, and_true, not_true, not_false_eq_true, false_implies, true_implies, imp_self, and_self, and_false, false_and, or_true, true_or, or_false, false_or, ite_self, implies_true]
      · subst hs3
        have n1 : (gI s2 232 (ld i).toNat < 0) = False := eq_false n1
        have n2 : (gI s2 232 (db i).toNat < 0) = False := eq_false n2
        simp (disch := omega) only [tX5_placeBy_e, uX5_placeBy_e, gx, e5, Nat.reduceAdd, lx, x2, ci, vi, t1, t2, t3, cl, vl, cdb, vdb, ck, vk, ekl, ekd, esz, il, bI_0, m1, m2, cC, cD, vC, vD, a1, a2, q1, q2, q3, q4, ← hs1, ← hs2, n1, n2, forall_eq, not_true, not_false_eq_true, if_true, if_false, true_and, and_true, not_true, not_false_eq_true, false_implies, true_implies, imp_self, and_self, and_false, false_and, or_true, true_or, or_false, false_or, ite_self, implies_true]
        try exact fun h1 h2 => ⟨h1, h2⟩
  · have eC : crW g ld i 1 = kiZ g (ld i) := rfl
    have eD : deW g db i 1 = db i := rfl
    have a1 : ((zI ((1 : Nat) : Int) &&& (1 : Int32)) = 0) = False := eq_false (by decide)
    have a2 : ((zI ((1 : Nat) : Int) &&& (2 : Int32)) = 0) = True := eq_true (by decide)
    have m1 : (zI (kiZ g (ld i)) = -1) = (kiZ g (ld i) = -1) := propext (z_eq (b := -1) (by omega) (by omega))
    have m2 : (zI (db i) = -1) = (db i = -1) := propext (z_eq (b := -1) (by omega) (by omega))
    have cC : (zI (kiZ g (ld i))).toNatClampNeg = (kiZ g (ld i)).toNat := z_cl (by omega)
    have cD : (zI (db i)).toNatClampNeg = (db i).toNat := z_cl (by omega)
    rw [eC, eD]
    refine ⟨fun hn => ?_, fun hp s1 s2 hs1 hs2 => ?_⟩
    · have hn : ¬ (0 ≤ kiZ g (ld i) ∧ 0 ≤ db i ∧ livZ g (kiZ g (ld i)) ∧ livZ g (db i)) := hn
      rcases tf (kiZ g (ld i) = -1) with q1 | q1
      · simp (disch := omega) only [tX5_placeBy_e, uX5_placeBy_e, gx, e5, Nat.reduceAdd, lx, x2, ci, vi, t1, t2, t3, cl, vl, cdb, vdb, ck, vk, ekl, ekd, esz, il, bI_0, m1, m2, cC, cD, a1, a2, q1, forall_eq, not_true, not_false_eq_true, if_true, if_false, true_and, and_true, not_true, not_false_eq_true, false_implies, true_implies, imp_self, and_self, and_false, false_and, or_true, true_or, or_false, false_or, ite_self, implies_true]
      · rcases tf (db i = -1) with q2 | q2
        · simp (disch := omega) only [tX5_placeBy_e, uX5_placeBy_e, gx, e5, Nat.reduceAdd, lx, x2, ci, vi, t1, t2, t3, cl, vl, cdb, vdb, ck, vk, ekl, ekd, esz, il, bI_0, m1, m2, cC, cD, a1, a2, q1, q2, forall_eq, not_true, not_false_eq_true, if_true, if_false, true_and, and_true, not_true, not_false_eq_true, false_implies, true_implies, imp_self, and_self, and_false, false_and, or_true, true_or, or_false, false_or, ite_self, implies_true]
        · rcases tf (livZ g (kiZ g (ld i))) with q3 | q3
          · have q4 : livZ g (db i) = False := eq_false (fun hc => hn ⟨by have := of_eq_false q1; omega, by have := of_eq_false q2; omega, of_eq_true q3, hc⟩)
            simp (disch := omega) only [tX5_placeBy_e, uX5_placeBy_e, gx, e5, Nat.reduceAdd, lx, x2, ci, vi, t1, t2, t3, cl, vl, cdb, vdb, ck, vk, ekl, ekd, esz, il, bI_0, m1, m2, cC, cD, a1, a2, q1, q2, q3, q4, forall_eq, not_true, not_false_eq_true, if_true, if_false, true_and, and_true, not_true, not_false_eq_true, false_implies, true_implies, imp_self, and_self, and_false, false_and, or_true, true_or, or_false, false_or, ite_self, implies_true]
          · simp (disch := omega) only [tX5_placeBy_e, uX5_placeBy_e, gx, e5, Nat.reduceAdd, lx, x2, ci, vi, t1, t2, t3, cl, vl, cdb, vdb, ck, vk, ekl, ekd, esz, il, bI_0, m1, m2, cC, cD, a1, a2, q1, q2, q3, forall_eq, not_true, not_false_eq_true, if_true, if_false, true_and, and_true, not_true, not_false_eq_true, false_implies, true_implies, imp_self, and_self, and_false, false_and, or_true, true_or, or_false, false_or, ite_self, implies_true]
    · obtain ⟨p1, p2, p3, p4⟩ : 0 ≤ kiZ g (ld i) ∧ 0 ≤ db i ∧ livZ g (kiZ g (ld i)) ∧ livZ g (db i) := hp
      have q1 : (kiZ g (ld i) = -1) = False := eq_false (by omega)
      have q2 : (db i = -1) = False := eq_false (by omega)
      have q3 : livZ g (kiZ g (ld i)) = True := eq_true p3
      have q4 : livZ g (db i) = True := eq_true p4
      have vC : vp_in (zI (kiZ g (ld i))) 9 := by rw [z_in (by omega)]; omega
      have vD : vp_in (zI (db i)) 9 := by rw [z_in (by omega)]; omega
      refine ⟨fun hc => ?_, fun n1 n2 s3 hs3 => ?_⟩
      · rcases tf (gI s2 232 (kiZ g (ld i)).toNat < 0) with n1 | n1
        · simp (disch := omega) only [tX5_placeBy_e, uX5_placeBy_e, gx, e5, Nat.reduceAdd, lx, x2, ci, vi, t1, t2, t3, cl, vl, cdb, vdb, ck, vk, ekl, ekd, esz, il, bI_0, m1, m2, cC, cD, vC, vD, a1, a2, q1, q2, q3, q4, ← hs1, ← hs2, n1, forall_eq, not_true, not_false_eq_true, if_true, if_false, true_and, and_true, not_true, not_false_eq_true, false_implies, true_implies, imp_self, and_self, and_false, false_and, or_true, true_or, or_false, false_or, ite_self, implies_true]
        · have n2 : (gI s2 232 (db i).toNat < 0) = True := eq_true (hc.resolve_left (of_eq_false n1))
          simp (disch := omega) only [tX5_placeBy_e, uX5_placeBy_e, gx, e5, Nat.reduceAdd, lx, x2, ci, vi, t1, t2, t3, cl, vl, cdb, vdb, ck, vk, ekl, ekd, esz, il, bI_0, m1, m2, cC, cD, vC, vD, a1, a2, q1, q2, q3, q4, ← hs1, ← hs2, n1, n2, forall_eq, not_true, not_false_eq_true, if_true, if_false, true_and, and_true, not_true, not_false_eq_true, false_implies, true_implies, imp_self, and_self, and_false, false_and, or_true, true_or, or_false, false_or, ite_self, implies_true]
      · subst hs3
        have n1 : (gI s2 232 (kiZ g (ld i)).toNat < 0) = False := eq_false n1
        have n2 : (gI s2 232 (db i).toNat < 0) = False := eq_false n2
        simp (disch := omega) only [tX5_placeBy_e, uX5_placeBy_e, gx, e5, Nat.reduceAdd, lx, x2, ci, vi, t1, t2, t3, cl, vl, cdb, vdb, ck, vk, ekl, ekd, esz, il, bI_0, m1, m2, cC, cD, vC, vD, a1, a2, q1, q2, q3, q4, ← hs1, ← hs2, n1, n2, forall_eq, not_true, not_false_eq_true, if_true, if_false, true_and, and_true, not_true, not_false_eq_true, false_implies, true_implies, imp_self, and_self, and_false, false_and, or_true, true_or, or_false, false_or, ite_self, implies_true]
        try exact fun h1 h2 => ⟨h1, h2⟩
  · have eC : crW g ld i 2 = ld i := rfl
    have eD : deW g db i 2 = kiZ g (db i) := rfl
    have a1 : ((zI ((2 : Nat) : Int) &&& (1 : Int32)) = 0) = True := eq_true (by decide)
    have a2 : ((zI ((2 : Nat) : Int) &&& (2 : Int32)) = 0) = False := eq_false (by decide)
    have m1 : (zI (ld i) = -1) = (ld i = -1) := propext (z_eq (b := -1) (by omega) (by omega))
    have m2 : (zI (kiZ g (db i)) = -1) = (kiZ g (db i) = -1) := propext (z_eq (b := -1) (by omega) (by omega))
    have cC : (zI (ld i)).toNatClampNeg = (ld i).toNat := z_cl (by omega)
    have cD : (zI (kiZ g (db i))).toNatClampNeg = (kiZ g (db i)).toNat := z_cl (by omega)
    rw [eC, eD]
    refine ⟨fun hn => ?_, fun hp s1 s2 hs1 hs2 => ?_⟩
    · have hn : ¬ (0 ≤ ld i ∧ 0 ≤ kiZ g (db i) ∧ livZ g (ld i) ∧ livZ g (kiZ g (db i))) := hn
      rcases tf (ld i = -1) with q1 | q1
      · simp (disch := omega) only [tX5_placeBy_e, uX5_placeBy_e, gx, e5, Nat.reduceAdd, lx, x2, ci, vi, t1, t2, t3, cl, vl, cdb, vdb, ck, vk, ekl, ekd, esz, il, bI_0, m1, m2, cC, cD, a1, a2, q1, forall_eq, not_true, not_false_eq_true, if_true, if_false, true_and, and_true, not_true, not_false_eq_true, false_implies, true_implies, imp_self, and_self, and_false, false_and, or_true, true_or, or_false, false_or, ite_self, implies_true]
      · rcases tf (kiZ g (db i) = -1) with q2 | q2
        · simp (disch := omega) only [tX5_placeBy_e, uX5_placeBy_e, gx, e5, Nat.reduceAdd, lx, x2, ci, vi, t1, t2, t3, cl, vl, cdb, vdb, ck, vk, ekl, ekd, esz, il, bI_0, m1, m2, cC, cD, a1, a2, q1, q2, forall_eq, not_true, not_false_eq_true, if_true, if_false, true_and, and_true, not_true, not_false_eq_true, false_implies, true_implies, imp_self, and_self, and_false, false_and, or_true, true_or, or_false, false_or, ite_self, implies_true]
        · rcases tf (livZ g (ld i)) with q3 | q3
          · have q4 : livZ g (kiZ g (db i)) = False := eq_false (fun hc => hn ⟨by have := of_eq_false q1; omega, by have := of_eq_false q2; omega, of_eq_true q3, hc⟩)
            simp (disch := omega) only [tX5_placeBy_e, uX5_placeBy_e, gx, e5, Nat.reduceAdd, lx, x2, ci, vi, t1, t2, t3, cl, vl, cdb, vdb, ck, vk, ekl, ekd, esz, il, bI_0, m1, m2, cC, cD, a1, a2, q1, q2, q3, q4, forall_eq, not_true, not_false_eq_true, if_true, if_false, true_and, and_true, not_true, not_false_eq_true, false_implies, true_implies, imp_self, and_self, and_false, false_and, or_true, true_or, or_false, false_or, ite_self, implies_true]
          · simp (disch := omega) only [tX5_placeBy_e, uX5_placeBy_e, gx, e5, Nat.reduceAdd, lx, x2, ci, vi, t1, t2, t3, cl, vl, cdb, vdb, ck, vk, ekl, ekd, esz, il, bI_0, m1, m2, cC, cD, a1, a2, q1, q2, q3, forall_eq, not_true, not_false_eq_true, if_true, if_false, true_and, and_true, not_true, not_false_eq_true, false_implies, true_implies, imp_self, and_self, and_false, false_and, or_true, true_or, or_false, false_or, ite_self, implies_true]
    · obtain ⟨p1, p2, p3, p4⟩ : 0 ≤ ld i ∧ 0 ≤ kiZ g (db i) ∧ livZ g (ld i) ∧ livZ g (kiZ g (db i)) := hp
      have q1 : (ld i = -1) = False := eq_false (by omega)
      have q2 : (kiZ g (db i) = -1) = False := eq_false (by omega)
      have q3 : livZ g (ld i) = True := eq_true p3
      have q4 : livZ g (kiZ g (db i)) = True := eq_true p4
      have vC : vp_in (zI (ld i)) 9 := by rw [z_in (by omega)]; omega
      have vD : vp_in (zI (kiZ g (db i))) 9 := by rw [z_in (by omega)]; omega
      refine ⟨fun hc => ?_, fun n1 n2 s3 hs3 => ?_⟩
      · rcases tf (gI s2 232 (ld i).toNat < 0) with n1 | n1
        · simp (disch := omega) only [tX5_placeBy_e, uX5_placeBy_e, gx, e5, Nat.reduceAdd, lx, x2, ci, vi, t1, t2, t3, cl, vl, cdb, vdb, ck, vk, ekl, ekd, esz, il, bI_0, m1, m2, cC, cD, vC, vD, a1, a2, q1, q2, q3, q4, ← hs1, ← hs2, n1, forall_eq, not_true, not_false_eq_true, if_true, if_false, true_and, and_true, not_true, not_false_eq_true, false_implies, true_implies, imp_self, and_self, and_false, false_and, or_true, true_or, or_false, false_or, ite_self, implies_true]
        · have n2 : (gI s2 232 (kiZ g (db i)).toNat < 0) = True := eq_true (hc.resolve_left (of_eq_false n1))
          simp (disch := omega) only [tX5_placeBy_e, uX5_placeBy_e, gx, e5, Nat.reduceAdd, lx, x2, ci, vi, t1, t2, t3, cl, vl, cdb, vdb, ck, vk, ekl, ekd, esz, il, bI_0, m1, m2, cC, cD, vC, vD, a1, a2, q1, q2, q3, q4, ← hs1, ← hs2, n1, n2, forall_eq, not_true, not_false_eq_true, if_true, if_false, true_and, and_true, not_true, not_false_eq_true, false_implies, true_implies, imp_self, and_self, and_false, false_and, or_true, true_or, or_false, false_or, ite_self, implies_true]
      · subst hs3
        have n1 : (gI s2 232 (ld i).toNat < 0) = False := eq_false n1
        have n2 : (gI s2 232 (kiZ g (db i)).toNat < 0) = False := eq_false n2
        simp (disch := omega) only [tX5_placeBy_e, uX5_placeBy_e, gx, e5, Nat.reduceAdd, lx, x2, ci, vi, t1, t2, t3, cl, vl, cdb, vdb, ck, vk, ekl, ekd, esz, il, bI_0, m1, m2, cC, cD, vC, vD, a1, a2, q1, q2, q3, q4, ← hs1, ← hs2, n1, n2, forall_eq, not_true, not_false_eq_true, if_true, if_false, true_and, and_true, not_true, not_false_eq_true, false_implies, true_implies, imp_self, and_self, and_false, false_and, or_true, true_or, or_false, false_or, ite_self, implies_true]
        try exact fun h1 h2 => ⟨h1, h2⟩
  · have eC : crW g ld i 3 = kiZ g (ld i) := rfl
    have eD : deW g db i 3 = kiZ g (db i) := rfl
    have a1 : ((zI ((3 : Nat) : Int) &&& (1 : Int32)) = 0) = False := eq_false (by decide)
    have a2 : ((zI ((3 : Nat) : Int) &&& (2 : Int32)) = 0) = False := eq_false (by decide)
    have m1 : (zI (kiZ g (ld i)) = -1) = (kiZ g (ld i) = -1) := propext (z_eq (b := -1) (by omega) (by omega))
    have m2 : (zI (kiZ g (db i)) = -1) = (kiZ g (db i) = -1) := propext (z_eq (b := -1) (by omega) (by omega))
    have cC : (zI (kiZ g (ld i))).toNatClampNeg = (kiZ g (ld i)).toNat := z_cl (by omega)
    have cD : (zI (kiZ g (db i))).toNatClampNeg = (kiZ g (db i)).toNat := z_cl (by omega)
    rw [eC, eD]
    refine ⟨fun hn => ?_, fun hp s1 s2 hs1 hs2 => ?_⟩
    · have hn : ¬ (0 ≤ kiZ g (ld i) ∧ 0 ≤ kiZ g (db i) ∧ livZ g (kiZ g (ld i)) ∧ livZ g (kiZ g (db i))) := hn
      rcases tf (kiZ g (ld i) = -1) with q1 | q1
      · simp (disch := omega) only [tX5_placeBy_e, uX5_placeBy_e, gx, e5, Nat.reduceAdd, lx, x2, ci, vi, t1, t2, t3, cl, vl, cdb, vdb, ck, vk, ekl, ekd, esz, il, bI_0, m1, m2, cC, cD, a1, a2, q1, forall_eq, not_true, not_false_eq_true, if_true, if_false, true_and, and_true, not_true, not_false_eq_true, false_implies, true_implies, imp_self, and_self, and_false, false_and, or_true, true_or, or_false, false_or, ite_self, implies_true]
      · rcases tf (kiZ g (db i) = -1) with q2 | q2
        · simp (disch := omega) only [tX5_placeBy_e, uX5_placeBy_e, gx, e5, Nat.reduceAdd, lx, x2, ci, vi, t1, t2, t3, cl, vl, cdb, vdb, ck, vk, ekl, ekd, esz, il, bI_0, m1, m2, cC, cD, a1, a2, q1, q2, forall_eq, not_true, not_false_eq_true, if_true, if_false, true_and, and_true, not_true, not_false_eq_true, false_implies, true_implies, imp_self, and_self, and_false, false_and, or_true, true_or, or_false, false_or, ite_self, implies_true]
        · rcases tf (livZ g (kiZ g (ld i))) with q3 | q3
          · have q4 : livZ g (kiZ g (db i)) = False := eq_false (fun hc => hn ⟨by have := of_eq_false q1; omega, by have := of_eq_false q2; omega, of_eq_true q3, hc⟩)
            simp (disch := omega) only [tX5_placeBy_e, uX5_placeBy_e, gx, e5, Nat.reduceAdd, lx, x2, ci, vi, t1, t2, t3, cl, vl, cdb, vdb, ck, vk, ekl, ekd, esz, il, bI_0, m1, m2, cC, cD, a1, a2, q1, q2, q3, q4, forall_eq, not_true, not_false_eq_true, if_true, if_false, true_and, and_true, not_true, not_false_eq_true, false_implies, true_implies, imp_self, and_self, and_false, false_and, or_true, true_or, or_false, false_or, ite_self, implies_true]
          · simp (disch := omega) only [tX5_placeBy_e, uX5_placeBy_e, gx, e5, Nat.reduceAdd, lx, x2, ci, vi, t1, t2, t3, cl, vl, cdb, vdb, ck, vk, ekl, ekd, esz, il, bI_0, m1, m2, cC, cD, a1, a2, q1, q2, q3, forall_eq, not_true, not_false_eq_true, if_true, if_false, true_and, and_true, not_true, not_false_eq_true, false_implies, true_implies, imp_self, and_self, and_false, false_and, or_true, true_or, or_false, false_or, ite_self, implies_true]
    · obtain ⟨p1, p2, p3, p4⟩ : 0 ≤ kiZ g (ld i) ∧ 0 ≤ kiZ g (db i) ∧ livZ g (kiZ g (ld i)) ∧ livZ g (kiZ g (db i)) := hp
      have q1 : (kiZ g (ld i) = -1) = False := eq_false (by omega)
      have q2 : (kiZ g (db i) = -1) = False := eq_false (by omega)
      have q3 : livZ g (kiZ g (ld i)) = True := eq_true p3
      have q4 : livZ g (kiZ g (db i)) = True := eq_true p4
      have vC : vp_in (zI (kiZ g (ld i))) 9 := by rw [z_in (by omega)]; omega
      have vD : vp_in (zI (kiZ g (db i))) 9 := by rw [z_in (by omega)]; omega
      refine ⟨fun hc => ?_, fun n1 n2 s3 hs3 => ?_⟩
      · rcases tf (gI s2 232 (kiZ g (ld i)).toNat < 0) with n1 | n1
        · simp (disch := omega) only [tX5_placeBy_e, uX5_placeBy_e, gx, e5, Nat.reduceAdd, lx, x2, ci, vi, t1, t2, t3, cl, vl, cdb, vdb, ck, vk, ekl, ekd, esz, il, bI_0, m1, m2, cC, cD, vC, vD, a1, a2, q1, q2, q3, q4, ← hs1, ← hs2, n1, forall_eq, not_true, not_false_eq_true, if_true, if_false, true_and, and_true, not_true, not_false_eq_true, false_implies, true_implies, imp_self, and_self, and_false, false_and, or_true, true_or, or_false, false_or, ite_self, implies_true]
        · have n2 : (gI s2 232 (kiZ g (db i)).toNat < 0) = True := eq_true (hc.resolve_left (of_eq_false n1))
          simp (disch := omega) only [tX5_placeBy_e, uX5_placeBy_e, gx, e5, Nat.reduceAdd, lx, x2, ci, vi, t1, t2, t3, cl, vl, cdb, vdb, ck, vk, ekl, ekd, esz, il, bI_0, m1, m2, cC, cD, vC, vD, a1, a2, q1, q2, q3, q4, ← hs1, ← hs2, n1, n2, forall_eq, not_true, not_false_eq_true, if_true, if_false, true_and, and_true, not_true, not_false_eq_true, false_implies, true_implies, imp_self, and_self, and_false, false_and, or_true, true_or, or_false, false_or, ite_self, implies_true]
      · subst hs3
        have n1 : (gI s2 232 (kiZ g (ld i)).toNat < 0) = False := eq_false n1
        have n2 : (gI s2 232 (kiZ g (db i)).toNat < 0) = False := eq_false n2
        simp (disch := omega) only [tX5_placeBy_e, uX5_placeBy_e, gx, e5, Nat.reduceAdd, lx, x2, ci, vi, t1, t2, t3, cl, vl, cdb, vdb, ck, vk, ekl, ekd, esz, il, bI_0, m1, m2, cC, cD, vC, vD, a1, a2, q1, q2, q3, q4, ← hs1, ← hs2, n1, n2, forall_eq, not_true, not_false_eq_true, if_true, if_false, true_and, and_true, not_true, not_false_eq_true, false_implies, true_implies, imp_self, and_self, and_false, false_and, or_true, true_or, or_false, false_or, ite_self, implies_true]
        try exact fun h1 h2 => ⟨h1, h2⟩
end
