-- needs: 69r.ysrch
/-- the reference's deals to be packed -/
def PxC (g : Nat → Int) (ld db kd : Nat → Int) (n : Nat) (s : SM) : Prop := RR s g ∧ gI s 248 45 = zI (n : Int) ∧ ∀ i, i < n → gI s 264 (3 * i) = zI (ld i) ∧ gI s 264 (3 * i + 1) = zI (db i) ∧ gI s 264 (3 * i + 2) = zI (kd i)
section
variable {s : SM} {g : Nat → Int} {ld db kd : Nat → Int} {R0 : Int → Int} {n : Nat}
theorem PxC_c {s t : SM} {A : Nat → Nat → Prop} (h : PxC g ld db kd n s) (hf : Fp A s t) (hA : ∀ c i, c = 250 ∨ c = 264 ∨ (c = 248 ∧ i = 45) → ¬ A c i) : PxC g ld db kd n t := by
  obtain ⟨h1, h2, h3⟩ := h
  refine ⟨RR_fp h1 hf (fun i => hA _ _ (by omega)), by rw [hf.1 248 45 (hA _ _ (by omega))]; exact h2, fun i hi => ?_⟩
  rw [hf.1 264 _ (hA _ _ (by omega)), hf.1 264 _ (hA _ _ (by omega)), hf.1 264 _ (hA _ _ (by omega))]
  exact h3 i hi
theorem x_packs (hx : PxC g ld db kd n s) (hw : WF g) (hd : PkD g ld db kd n) {i : Nat} (hi : i < n) {w : Nat} (hw4 : w < 4) (h266 : gI s 266 i = zI (w : Int)) : rX12_packs s (zI (i : Int)) ∧ (¬ (okA g ld db i ∧ okB g ld db i w) → vX12_packs s (zI (i : Int)) = 0) ∧ (okA g ld db i ∧ okB g ld db i w → vX12_packs s (zI (i : Int)) = 1 ∧ mX12_packs s (zI (i : Int)) = pI (pI s 269 (crW g ld i w).toNat (gI s 269 (crW g ld i w).toNat - zI (szZ g (kd i)))) 269 (deW g db i w).toNat (gI (pI s 269 (crW g ld i w).toNat (gI s 269 (crW g ld i w).toNat - zI (szZ g (kd i)))) 269 (deW g db i w).toNat - zI (szZ g (kd i)))) ∧ Fp (fun c _ => c = 269) s (mX12_packs s (zI (i : Int))) := by
  have h0 := hw.w0
  have hn6 := hd.1
  obtain ⟨x1, x2, x3⟩ := hx
  obtain ⟨t1, t2, t3⟩ := x3 i hi
  obtain ⟨b1, b2, b3⟩ := hd.2.1 i hi
  have k1 := (hw.wb b1).2.1
  have k2 := (hw.wb b2).2.1
  have e3 : (3 : Int32) * zI (i : Int) = zI (3 * (i : Int)) := by rw [show (3 : Int32) = zI 3 from rfl, z_mul]
  have e31 : zI (3 * (i : Int)) + 1 = zI (3 * (i : Int) + 1) := by rw [zl1, z_add]
  have e32 : zI (3 * (i : Int)) + 2 = zI (3 * (i : Int) + 2) := by rw [zl2, z_add]
  have c3 : (zI (3 * (i : Int))).toNatClampNeg = 3 * i := by rw [z_cl (by omega)]; omega
  have c31 : (zI (3 * (i : Int) + 1)).toNatClampNeg = 3 * i + 1 := by rw [z_cl (by omega)]; omega
  have c32 : (zI (3 * (i : Int) + 2)).toNatClampNeg = 3 * i + 2 := by rw [z_cl (by omega)]; omega
  have v3 : vp_in (zI (3 * (i : Int))) 18 := by rw [z_in (by omega)]; omega
  have v31 : vp_in (zI (3 * (i : Int) + 1)) 18 := by rw [z_in (by omega)]; omega
  have v32 : vp_in (zI (3 * (i : Int) + 2)) 18 := by rw [z_in (by omega)]; omega
  have ci : (zI (i : Int)).toNatClampNeg = i := by rw [z_cl (by omega)]; exact Int.toNat_natCast _
  have vi : vp_in (zI (i : Int)) 6 := by rw [z_in (by omega)]; omega
  have cl : (zI (ld i)).toNatClampNeg = (ld i).toNat := z_cl (by omega)
  have cdb : (zI (db i)).toNatClampNeg = (db i).toNat := z_cl (by omega)
  have e13 : (13 : Int32) = zI 13 := rfl
  have e22 : (22 : Int32) = zI 22 := rfl
  have a13 : ∀ b : Int, (13 : Int32) + zI b = zI (13 + b) := fun b => z_add 13 b
  have a22 : ∀ b : Int, (22 : Int32) + zI b = zI (22 + b) := fun b => z_add 22 b
  have ekl : gI s 250 (zI (13 + ld i)).toNatClampNeg = zI (kiZ g (ld i)) := by rw [z_cl (by omega), x1]; rfl
  have ekd : gI s 250 (zI (13 + db i)).toNatClampNeg = zI (kiZ g (db i)) := by rw [z_cl (by omega), x1]; rfl
  have esz : gI s 250 (zI (22 + kd i)).toNatClampNeg = zI (szZ g (kd i)) := by rw [z_cl (by omega), x1]; rfl
  have vkl : vp_in (zI (13 + ld i)) 787 := by rw [z_in (by omega)]; omega
  have vkd : vp_in (zI (13 + db i)) 787 := by rw [z_in (by omega)]; omega
  have vsz : vp_in (zI (22 + kd i)) 787 := by rw [z_in (by omega)]; omega
  have il : ∀ b, vX12_isLiving s (zI b) = bI (livZ g b) := fun b => x_isLiving x1 b
  have nA : (zI (ld i) = zI (db i)) = (ld i = db i) := propext (z_eq (by omega) (by omega))
  have k10 : ((1 : Int32) = 0) = False := eq_false (by decide)
  rcases (show w = 0 ∨ w = 1 ∨ w = 2 ∨ w = 3 by omega) with rfl | rfl | rfl | rfl
  · have eC : crW g ld i 0 = ld i := rfl
    have eD : deW g db i 0 = db i := rfl
    have a1 : ((zI ((0 : Nat) : Int) - zI ((0 : Nat) : Int) / 2 * 2) = 0) = True := eq_true (by decide)
    have a2 : ((2 : Int32) ≤ zI ((0 : Nat) : Int)) = False := eq_false (by decide)
    have m1 : (zI (ld i) < 0) = (ld i < 0) := propext (z_lt (b := 0) (by omega) (by omega))
    have m2 : (zI (db i) < 0) = (db i < 0) := propext (z_lt (b := 0) (by omega) (by omega))
    have cC : (zI (ld i)).toNatClampNeg = (ld i).toNat := z_cl (by omega)
    have cD : (zI (db i)).toNatClampNeg = (db i).toNat := z_cl (by omega)
    rw [eC, eD]
    have hBe : okB g ld db i 0 ↔ (0 ≤ ld i ∧ 0 ≤ db i ∧ livZ g (ld i) ∧ livZ g (db i)) := Iff.rfl
    rw [hBe]
    have good : okA g ld db i → (0 ≤ ld i ∧ 0 ≤ db i ∧ livZ g (ld i) ∧ livZ g (db i)) → rX12_packs s (zI (i : Int)) ∧ vX12_packs s (zI (i : Int)) = 1 ∧ mX12_packs s (zI (i : Int)) = pI (pI s 269 (ld i).toNat (gI s 269 (ld i).toNat - zI (szZ g (kd i)))) 269 (db i).toNat (gI (pI s 269 (ld i).toNat (gI s 269 (ld i).toNat - zI (szZ g (kd i)))) 269 (db i).toNat - zI (szZ g (kd i))) := by
      rintro ⟨p1, p2, p3⟩ ⟨p4, p5, p6, p7⟩
      have q1 : (ld i = db i) = False := eq_false p1
      have q2 : livZ g (ld i) = True := eq_true p2
      have q3 : livZ g (db i) = True := eq_true p3
      have q4 : (ld i < 0) = False := eq_false (by omega)
      have q5 : (db i < 0) = False := eq_false (by omega)
      have q6 : livZ g (ld i) = True := eq_true p6
      have q7 : livZ g (db i) = True := eq_true p7
      have vC : vp_in (zI (ld i)) 9 := by rw [z_in (by omega)]; omega
      have vD : vp_in (zI (db i)) 9 := by rw [z_in (by omega)]; omega
      simp (disch := omega) only [rX12_packs, vX12_packs, mX12_packs, e3, e31, e32, c3, c31, c32, v3, v31, v32, ci, vi, t1, t2, t3, cl, cdb, a13, a22, ekl, ekd, esz, vkl, vkd, vsz, il, bI_0, nA, h266, a1, a2, m1, m2, cC, cD, k10, q1, q2, q3, q4, q5, q6, q7, vC, vD, forall_eq, forall_const, not_true, not_false_eq_true, if_true, if_false, true_and, and_true, not_true, not_false_eq_true, false_implies, true_implies, imp_self, and_self, and_false, false_and, or_true, true_or, or_false, false_or, ite_self, implies_true]
    have bad : ¬ (okA g ld db i ∧ (0 ≤ ld i ∧ 0 ≤ db i ∧ livZ g (ld i) ∧ livZ g (db i))) → rX12_packs s (zI (i : Int)) ∧ vX12_packs s (zI (i : Int)) = 0 ∧ mX12_packs s (zI (i : Int)) = s := by
      intro hn
      rcases tf (ld i = db i) with q1 | q1
      · simp (disch := omega) only [rX12_packs, vX12_packs, mX12_packs, e3, e31, e32, c3, c31, c32, v3, v31, v32, ci, vi, t1, t2, t3, cl, cdb, a13, a22, ekl, ekd, esz, vkl, vkd, vsz, il, bI_0, nA, h266, a1, a2, m1, m2, cC, cD, k10, q1, forall_eq, forall_const, not_true, not_false_eq_true, if_true, if_false, true_and, and_true, not_true, not_false_eq_true, false_implies, true_implies, imp_self, and_self, and_false, false_and, or_true, true_or, or_false, false_or, ite_self, implies_true]
      · rcases tf (livZ g (ld i)) with q2 | q2
        · rcases tf (livZ g (db i)) with q3 | q3
          · rcases tf (ld i < 0) with q4 | q4
            · simp (disch := omega) only [rX12_packs, vX12_packs, mX12_packs, e3, e31, e32, c3, c31, c32, v3, v31, v32, ci, vi, t1, t2, t3, cl, cdb, a13, a22, ekl, ekd, esz, vkl, vkd, vsz, il, bI_0, nA, h266, a1, a2, m1, m2, cC, cD, k10, q1, q2, q3, q4, forall_eq, forall_const, not_true, not_false_eq_true, if_true, if_false, true_and, and_true, not_true, not_false_eq_true, false_implies, true_implies, imp_self, and_self, and_false, false_and, or_true, true_or, or_false, false_or, ite_self, implies_true]
            · rcases tf (db i < 0) with q5 | q5
              · simp (disch := omega) only [rX12_packs, vX12_packs, mX12_packs, e3, e31, e32, c3, c31, c32, v3, v31, v32, ci, vi, t1, t2, t3, cl, cdb, a13, a22, ekl, ekd, esz, vkl, vkd, vsz, il, bI_0, nA, h266, a1, a2, m1, m2, cC, cD, k10, q1, q2, q3, q4, q5, forall_eq, forall_const, not_true, not_false_eq_true, if_true, if_false, true_and, and_true, not_true, not_false_eq_true, false_implies, true_implies, imp_self, and_self, and_false, false_and, or_true, true_or, or_false, false_or, ite_self, implies_true]
              · rcases tf (livZ g (ld i)) with q6 | q6
                · have q7 : livZ g (db i) = False := eq_false (fun hc => hn ⟨⟨of_eq_false q1, of_eq_true q2, of_eq_true q3⟩, by have := of_eq_false q4; omega, by have := of_eq_false q5; omega, of_eq_true q6, hc⟩)
                  first | (simp (disch := omega) only [rX12_packs, vX12_packs, mX12_packs, e3, e31, e32, c3, c31, c32, v3, v31, v32, ci, vi, t1, t2, t3, cl, cdb, a13, a22, ekl, ekd, esz, vkl, vkd, vsz, il, bI_0, nA, h266, a1, a2, m1, m2, cC, cD, k10, q1, q2, q3, q4, q5, q6, q7, forall_eq, forall_const, not_true, not_false_eq_true, if_true, if_false, true_and, and_true, not_true, not_false_eq_true, false_implies, true_implies, imp_self, and_self, and_false, false_and, or_true, true_or, or_false, false_or, ite_self, implies_true]; done) | exact absurd (of_eq_true q3) (of_eq_false q7)
                · first | (simp (disch := omega) only [rX12_packs, vX12_packs, mX12_packs, e3, e31, e32, c3, c31, c32, v3, v31, v32, ci, vi, t1, t2, t3, cl, cdb, a13, a22, ekl, ekd, esz, vkl, vkd, vsz, il, bI_0, nA, h266, a1, a2, m1, m2, cC, cD, k10, q1, q2, q3, q4, q5, q6, forall_eq, forall_const, not_true, not_false_eq_true, if_true, if_false, true_and, and_true, not_true, not_false_eq_true, false_implies, true_implies, imp_self, and_self, and_false, false_and, or_true, true_or, or_false, false_or, ite_self, implies_true]; done) | exact absurd (of_eq_true q2) (of_eq_false q6)
          · simp (disch := omega) only [rX12_packs, vX12_packs, mX12_packs, e3, e31, e32, c3, c31, c32, v3, v31, v32, ci, vi, t1, t2, t3, cl, cdb, a13, a22, ekl, ekd, esz, vkl, vkd, vsz, il, bI_0, nA, h266, a1, a2, m1, m2, cC, cD, k10, q1, q2, q3, forall_eq, forall_const, not_true, not_false_eq_true, if_true, if_false, true_and, and_true, not_true, not_false_eq_true, false_implies, true_implies, imp_self, and_self, and_false, false_and, or_true, true_or, or_false, false_or, ite_self, implies_true]
        · simp (disch := omega) only [rX12_packs, vX12_packs, mX12_packs, e3, e31, e32, c3, c31, c32, v3, v31, v32, ci, vi, t1, t2, t3, cl, cdb, a13, a22, ekl, ekd, esz, vkl, vkd, vsz, il, bI_0, nA, h266, a1, a2, m1, m2, cC, cD, k10, q1, q2, forall_eq, forall_const, not_true, not_false_eq_true, if_true, if_false, true_and, and_true, not_true, not_false_eq_true, false_implies, true_implies, imp_self, and_self, and_false, false_and, or_true, true_or, or_false, false_or, ite_self, implies_true]
    by_cases hok : okA g ld db i ∧ (0 ≤ ld i ∧ 0 ≤ db i ∧ livZ g (ld i) ∧ livZ g (db i))
    · obtain ⟨g1, g2, g3⟩ := good hok.1 hok.2
      exact ⟨g1, fun hc => absurd hok hc, fun _ => ⟨g2, g3⟩, by rw [g3]; exact Fp_tr (Fp_p s rfl) (Fp_p _ rfl)⟩
    · obtain ⟨g1, g2, g3⟩ := bad hok
      exact ⟨g1, fun _ => g2, fun hc => absurd hc hok, by rw [g3]; exact Fp_rf _ s⟩
  · have eC : crW g ld i 1 = kiZ g (ld i) := rfl
    have eD : deW g db i 1 = db i := rfl
    have a1 : ((zI ((1 : Nat) : Int) - zI ((1 : Nat) : Int) / 2 * 2) = 0) = False := eq_false (by decide)
    have a2 : ((2 : Int32) ≤ zI ((1 : Nat) : Int)) = False := eq_false (by decide)
    have m1 : (zI (kiZ g (ld i)) < 0) = (kiZ g (ld i) < 0) := propext (z_lt (b := 0) (by omega) (by omega))
    have m2 : (zI (db i) < 0) = (db i < 0) := propext (z_lt (b := 0) (by omega) (by omega))
    have cC : (zI (kiZ g (ld i))).toNatClampNeg = (kiZ g (ld i)).toNat := z_cl (by omega)
    have cD : (zI (db i)).toNatClampNeg = (db i).toNat := z_cl (by omega)
    rw [eC, eD]
    have hBe : okB g ld db i 1 ↔ (0 ≤ kiZ g (ld i) ∧ 0 ≤ db i ∧ livZ g (kiZ g (ld i)) ∧ livZ g (db i)) := Iff.rfl
    rw [hBe]
    have good : okA g ld db i → (0 ≤ kiZ g (ld i) ∧ 0 ≤ db i ∧ livZ g (kiZ g (ld i)) ∧ livZ g (db i)) → rX12_packs s (zI (i : Int)) ∧ vX12_packs s (zI (i : Int)) = 1 ∧ mX12_packs s (zI (i : Int)) = pI (pI s 269 (kiZ g (ld i)).toNat (gI s 269 (kiZ g (ld i)).toNat - zI (szZ g (kd i)))) 269 (db i).toNat (gI (pI s 269 (kiZ g (ld i)).toNat (gI s 269 (kiZ g (ld i)).toNat - zI (szZ g (kd i)))) 269 (db i).toNat - zI (szZ g (kd i))) := by
      rintro ⟨p1, p2, p3⟩ ⟨p4, p5, p6, p7⟩
      have q1 : (ld i = db i) = False := eq_false p1
      have q2 : livZ g (ld i) = True := eq_true p2
      have q3 : livZ g (db i) = True := eq_true p3
      have q4 : (kiZ g (ld i) < 0) = False := eq_false (by omega)
      have q5 : (db i < 0) = False := eq_false (by omega)
      have q6 : livZ g (kiZ g (ld i)) = True := eq_true p6
      have q7 : livZ g (db i) = True := eq_true p7
      have vC : vp_in (zI (kiZ g (ld i))) 9 := by rw [z_in (by omega)]; omega
      have vD : vp_in (zI (db i)) 9 := by rw [z_in (by omega)]; omega
      simp (disch := omega) only [rX12_packs, vX12_packs, mX12_packs, e3, e31, e32, c3, c31, c32, v3, v31, v32, ci, vi, t1, t2, t3, cl, cdb, a13, a22, ekl, ekd, esz, vkl, vkd, vsz, il, bI_0, nA, h266, a1, a2, m1, m2, cC, cD, k10, q1, q2, q3, q4, q5, q6, q7, vC, vD, forall_eq, forall_const, not_true, not_false_eq_true, if_true, if_false, true_and, and_true, not_true, not_false_eq_true, false_implies, true_implies, imp_self, and_self, and_false, false_and, or_true, true_or, or_false, false_or, ite_self, implies_true]
    have bad : ¬ (okA g ld db i ∧ (0 ≤ kiZ g (ld i) ∧ 0 ≤ db i ∧ livZ g (kiZ g (ld i)) ∧ livZ g (db i))) → rX12_packs s (zI (i : Int)) ∧ vX12_packs s (zI (i : Int)) = 0 ∧ mX12_packs s (zI (i : Int)) = s := by
      intro hn
      rcases tf (ld i = db i) with q1 | q1
      · simp (disch := omega) only [rX12_packs, vX12_packs, mX12_packs, e3, e31, e32, c3, c31, c32, v3, v31, v32, ci, vi, t1, t2, t3, cl, cdb, a13, a22, ekl, ekd, esz, vkl, vkd, vsz, il, bI_0, nA, h266, a1, a2, m1, m2, cC, cD, k10, q1, forall_eq, forall_const, not_true, not_false_eq_true, if_true, if_false, true_and, and_true, not_true, not_false_eq_true, false_implies, true_implies, imp_self, and_self, and_false, false_and, or_true, true_or, or_false, false_or, ite_self, implies_true]
      · rcases tf (livZ g (ld i)) with q2 | q2
        · rcases tf (livZ g (db i)) with q3 | q3
          · rcases tf (kiZ g (ld i) < 0) with q4 | q4
            · simp (disch := omega) only [rX12_packs, vX12_packs, mX12_packs, e3, e31, e32, c3, c31, c32, v3, v31, v32, ci, vi, t1, t2, t3, cl, cdb, a13, a22, ekl, ekd, esz, vkl, vkd, vsz, il, bI_0, nA, h266, a1, a2, m1, m2, cC, cD, k10, q1, q2, q3, q4, forall_eq, forall_const, not_true, not_false_eq_true, if_true, if_false, true_and, and_true, not_true, not_false_eq_true, false_implies, true_implies, imp_self, and_self, and_false, false_and, or_true, true_or, or_false, false_or, ite_self, implies_true]
            · rcases tf (db i < 0) with q5 | q5
              · simp (disch := omega) only [rX12_packs, vX12_packs, mX12_packs, e3, e31, e32, c3, c31, c32, v3, v31, v32, ci, vi, t1, t2, t3, cl, cdb, a13, a22, ekl, ekd, esz, vkl, vkd, vsz, il, bI_0, nA, h266, a1, a2, m1, m2, cC, cD, k10, q1, q2, q3, q4, q5, forall_eq, forall_const, not_true, not_false_eq_true, if_true, if_false, true_and, and_true, not_true, not_false_eq_true, false_implies, true_implies, imp_self, and_self, and_false, false_and, or_true, true_or, or_false, false_or, ite_self, implies_true]
              · rcases tf (livZ g (kiZ g (ld i))) with q6 | q6
                · have q7 : livZ g (db i) = False := eq_false (fun hc => hn ⟨⟨of_eq_false q1, of_eq_true q2, of_eq_true q3⟩, by have := of_eq_false q4; omega, by have := of_eq_false q5; omega, of_eq_true q6, hc⟩)
                  first | (simp (disch := omega) only [rX12_packs, vX12_packs, mX12_packs, e3, e31, e32, c3, c31, c32, v3, v31, v32, ci, vi, t1, t2, t3, cl, cdb, a13, a22, ekl, ekd, esz, vkl, vkd, vsz, il, bI_0, nA, h266, a1, a2, m1, m2, cC, cD, k10, q1, q2, q3, q4, q5, q6, q7, forall_eq, forall_const, not_true, not_false_eq_true, if_true, if_false, true_and, and_true, not_true, not_false_eq_true, false_implies, true_implies, imp_self, and_self, and_false, false_and, or_true, true_or, or_false, false_or, ite_self, implies_true]; done) | exact absurd (of_eq_true q3) (of_eq_false q7)
                · first | (simp (disch := omega) only [rX12_packs, vX12_packs, mX12_packs, e3, e31, e32, c3, c31, c32, v3, v31, v32, ci, vi, t1, t2, t3, cl, cdb, a13, a22, ekl, ekd, esz, vkl, vkd, vsz, il, bI_0, nA, h266, a1, a2, m1, m2, cC, cD, k10, q1, q2, q3, q4, q5, q6, forall_eq, forall_const, not_true, not_false_eq_true, if_true, if_false, true_and, and_true, not_true, not_false_eq_true, false_implies, true_implies, imp_self, and_self, and_false, false_and, or_true, true_or, or_false, false_or, ite_self, implies_true]; done) | exact absurd (of_eq_true q2) (of_eq_false q6)
          · simp (disch := omega) only [rX12_packs, vX12_packs, mX12_packs, e3, e31, e32, c3, c31, c32, v3, v31, v32, ci, vi, t1, t2, t3, cl, cdb, a13, a22, ekl, ekd, esz, vkl, vkd, vsz, il, bI_0, nA, h266, a1, a2, m1, m2, cC, cD, k10, q1, q2, q3, forall_eq, forall_const, not_true, not_false_eq_true, if_true, if_false, true_and, and_true, not_true, not_false_eq_true, false_implies, true_implies, imp_self, and_self, and_false, false_and, or_true, true_or, or_false, false_or, ite_self, implies_true]
        · simp (disch := omega) only [rX12_packs, vX12_packs, mX12_packs, e3, e31, e32, c3, c31, c32, v3, v31, v32, ci, vi, t1, t2, t3, cl, cdb, a13, a22, ekl, ekd, esz, vkl, vkd, vsz, il, bI_0, nA, h266, a1, a2, m1, m2, cC, cD, k10, q1, q2, forall_eq, forall_const, not_true, not_false_eq_true, if_true, if_false, true_and, and_true, not_true, not_false_eq_true, false_implies, true_implies, imp_self, and_self, and_false, false_and, or_true, true_or, or_false, false_or, ite_self, implies_true]
    by_cases hok : okA g ld db i ∧ (0 ≤ kiZ g (ld i) ∧ 0 ≤ db i ∧ livZ g (kiZ g (ld i)) ∧ livZ g (db i))
    · obtain ⟨g1, g2, g3⟩ := good hok.1 hok.2
      exact ⟨g1, fun hc => absurd hok hc, fun _ => ⟨g2, g3⟩, by rw [g3]; exact Fp_tr (Fp_p s rfl) (Fp_p _ rfl)⟩
    · obtain ⟨g1, g2, g3⟩ := bad hok
      exact ⟨g1, fun _ => g2, fun hc => absurd hc hok, by rw [g3]; exact Fp_rf _ s⟩
  · have eC : crW g ld i 2 = ld i := rfl
    have eD : deW g db i 2 = kiZ g (db i) := rfl
    have a1 : ((zI ((2 : Nat) : Int) - zI ((2 : Nat) : Int) / 2 * 2) = 0) = True := eq_true (by decide)
    have a2 : ((2 : Int32) ≤ zI ((2 : Nat) : Int)) = True := eq_true (by decide)
    have m1 : (zI (ld i) < 0) = (ld i < 0) := propext (z_lt (b := 0) (by omega) (by omega))
    have m2 : (zI (kiZ g (db i)) < 0) = (kiZ g (db i) < 0) := propext (z_lt (b := 0) (by omega) (by omega))
    have cC : (zI (ld i)).toNatClampNeg = (ld i).toNat := z_cl (by omega)
    have cD : (zI (kiZ g (db i))).toNatClampNeg = (kiZ g (db i)).toNat := z_cl (by omega)
    rw [eC, eD]
    have hBe : okB g ld db i 2 ↔ (0 ≤ ld i ∧ 0 ≤ kiZ g (db i) ∧ livZ g (ld i) ∧ livZ g (kiZ g (db i))) := Iff.rfl
    rw [hBe]
    have good : okA g ld db i → (0 ≤ ld i ∧ 0 ≤ kiZ g (db i) ∧ livZ g (ld i) ∧ livZ g (kiZ g (db i))) → rX12_packs s (zI (i : Int)) ∧ vX12_packs s (zI (i : Int)) = 1 ∧ mX12_packs s (zI (i : Int)) = pI (pI s 269 (ld i).toNat (gI s 269 (ld i).toNat - zI (szZ g (kd i)))) 269 (kiZ g (db i)).toNat (gI (pI s 269 (ld i).toNat (gI s 269 (ld i).toNat - zI (szZ g (kd i)))) 269 (kiZ g (db i)).toNat - zI (szZ g (kd i))) := by
      rintro ⟨p1, p2, p3⟩ ⟨p4, p5, p6, p7⟩
      have q1 : (ld i = db i) = False := eq_false p1
      have q2 : livZ g (ld i) = True := eq_true p2
      have q3 : livZ g (db i) = True := eq_true p3
      have q4 : (ld i < 0) = False := eq_false (by omega)
      have q5 : (kiZ g (db i) < 0) = False := eq_false (by omega)
      have q6 : livZ g (ld i) = True := eq_true p6
      have q7 : livZ g (kiZ g (db i)) = True := eq_true p7
      have vC : vp_in (zI (ld i)) 9 := by rw [z_in (by omega)]; omega
      have vD : vp_in (zI (kiZ g (db i))) 9 := by rw [z_in (by omega)]; omega
      simp (disch := omega) only [rX12_packs, vX12_packs, mX12_packs, e3, e31, e32, c3, c31, c32, v3, v31, v32, ci, vi, t1, t2, t3, cl, cdb, a13, a22, ekl, ekd, esz, vkl, vkd, vsz, il, bI_0, nA, h266, a1, a2, m1, m2, cC, cD, k10, q1, q2, q3, q4, q5, q6, q7, vC, vD, forall_eq, forall_const, not_true, not_false_eq_true, if_true, if_false, true_and, and_true, not_true, not_false_eq_true, false_implies, true_implies, imp_self, and_self, and_false, false_and, or_true, true_or, or_false, false_or, ite_self, implies_true]
    have bad : ¬ (okA g ld db i ∧ (0 ≤ ld i ∧ 0 ≤ kiZ g (db i) ∧ livZ g (ld i) ∧ livZ g (kiZ g (db i)))) → rX12_packs s (zI (i : Int)) ∧ vX12_packs s (zI (i : Int)) = 0 ∧ mX12_packs s (zI (i : Int)) = s := by
      intro hn
      rcases tf (ld i = db i) with q1 | q1
      · simp (disch := omega) only [rX12_packs, vX12_packs, mX12_packs, e3, e31, e32, c3, c31, c32, v3, v31, v32, ci, vi, t1, t2, t3, cl, cdb, a13, a22, ekl, ekd, esz, vkl, vkd, vsz, il, bI_0, nA, h266, a1, a2, m1, m2, cC, cD, k10, q1, forall_eq, forall_const, not_true, not_false_eq_true, if_true, if_false, true_and, and_true, not_true, not_false_eq_true, false_implies, true_implies, imp_self, and_self, and_false, false_and, or_true, true_or, or_false, false_or, ite_self, implies_true]
      · rcases tf (livZ g (ld i)) with q2 | q2
        · rcases tf (livZ g (db i)) with q3 | q3
          · rcases tf (ld i < 0) with q4 | q4
            · simp (disch := omega) only [rX12_packs, vX12_packs, mX12_packs, e3, e31, e32, c3, c31, c32, v3, v31, v32, ci, vi, t1, t2, t3, cl, cdb, a13, a22, ekl, ekd, esz, vkl, vkd, vsz, il, bI_0, nA, h266, a1, a2, m1, m2, cC, cD, k10, q1, q2, q3, q4, forall_eq, forall_const, not_true, not_false_eq_true, if_true, if_false, true_and, and_true, not_true, not_false_eq_true, false_implies, true_implies, imp_self, and_self, and_false, false_and, or_true, true_or, or_false, false_or, ite_self, implies_true]
            · rcases tf (kiZ g (db i) < 0) with q5 | q5
              · simp (disch := omega) only [rX12_packs, vX12_packs, mX12_packs, e3, e31, e32, c3, c31, c32, v3, v31, v32, ci, vi, t1, t2, t3, cl, cdb, a13, a22, ekl, ekd, esz, vkl, vkd, vsz, il, bI_0, nA, h266, a1, a2, m1, m2, cC, cD, k10, q1, q2, q3, q4, q5, forall_eq, forall_const, not_true, not_false_eq_true, if_true, if_false, true_and, and_true, not_true, not_false_eq_true, false_implies, true_implies, imp_self, and_self, and_false, false_and, or_true, true_or, or_false, false_or, ite_self, implies_true]
              · rcases tf (livZ g (ld i)) with q6 | q6
                · have q7 : livZ g (kiZ g (db i)) = False := eq_false (fun hc => hn ⟨⟨of_eq_false q1, of_eq_true q2, of_eq_true q3⟩, by have := of_eq_false q4; omega, by have := of_eq_false q5; omega, of_eq_true q6, hc⟩)
                  first | (simp (disch := omega) only [rX12_packs, vX12_packs, mX12_packs, e3, e31, e32, c3, c31, c32, v3, v31, v32, ci, vi, t1, t2, t3, cl, cdb, a13, a22, ekl, ekd, esz, vkl, vkd, vsz, il, bI_0, nA, h266, a1, a2, m1, m2, cC, cD, k10, q1, q2, q3, q4, q5, q6, q7, forall_eq, forall_const, not_true, not_false_eq_true, if_true, if_false, true_and, and_true, not_true, not_false_eq_true, false_implies, true_implies, imp_self, and_self, and_false, false_and, or_true, true_or, or_false, false_or, ite_self, implies_true]; done) | exact absurd (of_eq_true q3) (of_eq_false q7)
                · first | (simp (disch := omega) only [rX12_packs, vX12_packs, mX12_packs, e3, e31, e32, c3, c31, c32, v3, v31, v32, ci, vi, t1, t2, t3, cl, cdb, a13, a22, ekl, ekd, esz, vkl, vkd, vsz, il, bI_0, nA, h266, a1, a2, m1, m2, cC, cD, k10, q1, q2, q3, q4, q5, q6, forall_eq, forall_const, not_true, not_false_eq_true, if_true, if_false, true_and, and_true, not_true, not_false_eq_true, false_implies, true_implies, imp_self, and_self, and_false, false_and, or_true, true_or, or_false, false_or, ite_self, implies_true]; done) | exact absurd (of_eq_true q2) (of_eq_false q6)
          · simp (disch := omega) only [rX12_packs, vX12_packs, mX12_packs, e3, e31, e32, c3, c31, c32, v3, v31, v32, ci, vi, t1, t2, t3, cl, cdb, a13, a22, ekl, ekd, esz, vkl, vkd, vsz, il, bI_0, nA, h266, a1, a2, m1, m2, cC, cD, k10, q1, q2, q3, forall_eq, forall_const, not_true, not_false_eq_true, if_true, if_false, true_and, and_true, not_true, not_false_eq_true, false_implies, true_implies, imp_self, and_self, and_false, false_and, or_true, true_or, or_false, false_or, ite_self, implies_true]
        · simp (disch := omega) only [rX12_packs, vX12_packs, mX12_packs, e3, e31, e32, c3, c31, c32, v3, v31, v32, ci, vi, t1, t2, t3, cl, cdb, a13, a22, ekl, ekd, esz, vkl, vkd, vsz, il, bI_0, nA, h266, a1, a2, m1, m2, cC, cD, k10, q1, q2, forall_eq, forall_const, not_true, not_false_eq_true, if_true, if_false, true_and, and_true, not_true, not_false_eq_true, false_implies, true_implies, imp_self, and_self, and_false, false_and, or_true, true_or, or_false, false_or, ite_self, implies_true]
    by_cases hok : okA g ld db i ∧ (0 ≤ ld i ∧ 0 ≤ kiZ g (db i) ∧ livZ g (ld i) ∧ livZ g (kiZ g (db i)))
    · obtain ⟨g1, g2, g3⟩ := good hok.1 hok.2
      exact ⟨g1, fun hc => absurd hok hc, fun _ => ⟨g2, g3⟩, by rw [g3]; exact Fp_tr (Fp_p s rfl) (Fp_p _ rfl)⟩
    · obtain ⟨g1, g2, g3⟩ := bad hok
      exact ⟨g1, fun _ => g2, fun hc => absurd hc hok, by rw [g3]; exact Fp_rf _ s⟩
  · have eC : crW g ld i 3 = kiZ g (ld i) := rfl
    have eD : deW g db i 3 = kiZ g (db i) := rfl
    have a1 : ((zI ((3 : Nat) : Int) - zI ((3 : Nat) : Int) / 2 * 2) = 0) = False := eq_false (by decide)
    have a2 : ((2 : Int32) ≤ zI ((3 : Nat) : Int)) = True := eq_true (by decide)
    have m1 : (zI (kiZ g (ld i)) < 0) = (kiZ g (ld i) < 0) := propext (z_lt (b := 0) (by omega) (by omega))
    have m2 : (zI (kiZ g (db i)) < 0) = (kiZ g (db i) < 0) := propext (z_lt (b := 0) (by omega) (by omega))
    have cC : (zI (kiZ g (ld i))).toNatClampNeg = (kiZ g (ld i)).toNat := z_cl (by omega)
    have cD : (zI (kiZ g (db i))).toNatClampNeg = (kiZ g (db i)).toNat := z_cl (by omega)
    rw [eC, eD]
    have hBe : okB g ld db i 3 ↔ (0 ≤ kiZ g (ld i) ∧ 0 ≤ kiZ g (db i) ∧ livZ g (kiZ g (ld i)) ∧ livZ g (kiZ g (db i))) := Iff.rfl
    rw [hBe]
    have good : okA g ld db i → (0 ≤ kiZ g (ld i) ∧ 0 ≤ kiZ g (db i) ∧ livZ g (kiZ g (ld i)) ∧ livZ g (kiZ g (db i))) → rX12_packs s (zI (i : Int)) ∧ vX12_packs s (zI (i : Int)) = 1 ∧ mX12_packs s (zI (i : Int)) = pI (pI s 269 (kiZ g (ld i)).toNat (gI s 269 (kiZ g (ld i)).toNat - zI (szZ g (kd i)))) 269 (kiZ g (db i)).toNat (gI (pI s 269 (kiZ g (ld i)).toNat (gI s 269 (kiZ g (ld i)).toNat - zI (szZ g (kd i)))) 269 (kiZ g (db i)).toNat - zI (szZ g (kd i))) := by
      rintro ⟨p1, p2, p3⟩ ⟨p4, p5, p6, p7⟩
      have q1 : (ld i = db i) = False := eq_false p1
      have q2 : livZ g (ld i) = True := eq_true p2
      have q3 : livZ g (db i) = True := eq_true p3
      have q4 : (kiZ g (ld i) < 0) = False := eq_false (by omega)
      have q5 : (kiZ g (db i) < 0) = False := eq_false (by omega)
      have q6 : livZ g (kiZ g (ld i)) = True := eq_true p6
      have q7 : livZ g (kiZ g (db i)) = True := eq_true p7
      have vC : vp_in (zI (kiZ g (ld i))) 9 := by rw [z_in (by omega)]; omega
      have vD : vp_in (zI (kiZ g (db i))) 9 := by rw [z_in (by omega)]; omega
      simp (disch := omega) only [rX12_packs, vX12_packs, mX12_packs, e3, e31, e32, c3, c31, c32, v3, v31, v32, ci, vi, t1, t2, t3, cl, cdb, a13, a22, ekl, ekd, esz, vkl, vkd, vsz, il, bI_0, nA, h266, a1, a2, m1, m2, cC, cD, k10, q1, q2, q3, q4, q5, q6, q7, vC, vD, forall_eq, forall_const, not_true, not_false_eq_true, if_true, if_false, true_and, and_true, not_true, not_false_eq_true, false_implies, true_implies, imp_self, and_self, and_false, false_and, or_true, true_or, or_false, false_or, ite_self, implies_true]
    have bad : ¬ (okA g ld db i ∧ (0 ≤ kiZ g (ld i) ∧ 0 ≤ kiZ g (db i) ∧ livZ g (kiZ g (ld i)) ∧ livZ g (kiZ g (db i)))) → rX12_packs s (zI (i : Int)) ∧ vX12_packs s (zI (i : Int)) = 0 ∧ mX12_packs s (zI (i : Int)) = s := by
      intro hn
      rcases tf (ld i = db i) with q1 | q1
      · simp (disch := omega) only [rX12_packs, vX12_packs, mX12_packs, e3, e31, e32, c3, c31, c32, v3, v31, v32, ci, vi, t1, t2, t3, cl, cdb, a13, a22, ekl, ekd, esz, vkl, vkd, vsz, il, bI_0, nA, h266, a1, a2, m1, m2, cC, cD, k10, q1, forall_eq, forall_const, not_true, not_false_eq_true, if_true, if_false, true_and, and_true, not_true, not_false_eq_true, false_implies, true_implies, imp_self, and_self, and_false, false_and, or_true, true_or, or_false, false_or, ite_self, implies_true]
      · rcases tf (livZ g (ld i)) with q2 | q2
        · rcases tf (livZ g (db i)) with q3 | q3
          · rcases tf (kiZ g (ld i) < 0) with q4 | q4
            · simp (disch := omega) only [rX12_packs, vX12_packs, mX12_packs, e3, e31, e32, c3, c31, c32, v3, v31, v32, ci, vi, t1, t2, t3, cl, cdb, a13, a22, ekl, ekd, esz, vkl, vkd, vsz, il, bI_0, nA, h266, a1, a2, m1, m2, cC, cD, k10, q1, q2, q3, q4, forall_eq, forall_const, not_true, not_false_eq_true, if_true, if_false, true_and, and_true, not_true, not_false_eq_true, false_implies, true_implies, imp_self, and_self, and_false, false_and, or_true, true_or, or_false, false_or, ite_self, implies_true]
            · rcases tf (kiZ g (db i) < 0) with q5 | q5
              · simp (disch := omega) only [rX12_packs, vX12_packs, mX12_packs, e3, e31, e32, c3, c31, c32, v3, v31, v32, ci, vi, t1, t2, t3, cl, cdb, a13, a22, ekl, ekd, esz, vkl, vkd, vsz, il, bI_0, nA, h266, a1, a2, m1, m2, cC, cD, k10, q1, q2, q3, q4, q5, forall_eq, forall_const, not_true, not_false_eq_true, if_true, if_false, true_and, and_true, not_true, not_false_eq_true, false_implies, true_implies, imp_self, and_self, and_false, false_and, or_true, true_or, or_false, false_or, ite_self, implies_true]
              · rcases tf (livZ g (kiZ g (ld i))) with q6 | q6
                · have q7 : livZ g (kiZ g (db i)) = False := eq_false (fun hc => hn ⟨⟨of_eq_false q1, of_eq_true q2, of_eq_true q3⟩, by have := of_eq_false q4; omega, by have := of_eq_false q5; omega, of_eq_true q6, hc⟩)
                  first | (simp (disch := omega) only [rX12_packs, vX12_packs, mX12_packs, e3, e31, e32, c3, c31, c32, v3, v31, v32, ci, vi, t1, t2, t3, cl, cdb, a13, a22, ekl, ekd, esz, vkl, vkd, vsz, il, bI_0, nA, h266, a1, a2, m1, m2, cC, cD, k10, q1, q2, q3, q4, q5, q6, q7, forall_eq, forall_const, not_true, not_false_eq_true, if_true, if_false, true_and, and_true, not_true, not_false_eq_true, false_implies, true_implies, imp_self, and_self, and_false, false_and, or_true, true_or, or_false, false_or, ite_self, implies_true]; done) | exact absurd (of_eq_true q3) (of_eq_false q7)
                · first | (simp (disch := omega) only [rX12_packs, vX12_packs, mX12_packs, e3, e31, e32, c3, c31, c32, v3, v31, v32, ci, vi, t1, t2, t3, cl, cdb, a13, a22, ekl, ekd, esz, vkl, vkd, vsz, il, bI_0, nA, h266, a1, a2, m1, m2, cC, cD, k10, q1, q2, q3, q4, q5, q6, forall_eq, forall_const, not_true, not_false_eq_true, if_true, if_false, true_and, and_true, not_true, not_false_eq_true, false_implies, true_implies, imp_self, and_self, and_false, false_and, or_true, true_or, or_false, false_or, ite_self, implies_true]; done) | exact absurd (of_eq_true q2) (of_eq_false q6)
          · simp (disch := omega) only [rX12_packs, vX12_packs, mX12_packs, e3, e31, e32, c3, c31, c32, v3, v31, v32, ci, vi, t1, t2, t3, cl, cdb, a13, a22, ekl, ekd, esz, vkl, vkd, vsz, il, bI_0, nA, h266, a1, a2, m1, m2, cC, cD, k10, q1, q2, q3, forall_eq, forall_const, not_true, not_false_eq_true, if_true, if_false, true_and, and_true, not_true, not_false_eq_true, false_implies, true_implies, imp_self, and_self, and_false, false_and, or_true, true_or, or_false, false_or, ite_self, implies_true]
        · simp (disch := omega) only [rX12_packs, vX12_packs, mX12_packs, e3, e31, e32, c3, c31, c32, v3, v31, v32, ci, vi, t1, t2, t3, cl, cdb, a13, a22, ekl, ekd, esz, vkl, vkd, vsz, il, bI_0, nA, h266, a1, a2, m1, m2, cC, cD, k10, q1, q2, forall_eq, forall_const, not_true, not_false_eq_true, if_true, if_false, true_and, and_true, not_true, not_false_eq_true, false_implies, true_implies, imp_self, and_self, and_false, false_and, or_true, true_or, or_false, false_or, ite_self, implies_true]
    by_cases hok : okA g ld db i ∧ (0 ≤ kiZ g (ld i) ∧ 0 ≤ kiZ g (db i) ∧ livZ g (kiZ g (ld i)) ∧ livZ g (kiZ g (db i)))
    · obtain ⟨g1, g2, g3⟩ := good hok.1 hok.2
      exact ⟨g1, fun hc => absurd hok hc, fun _ => ⟨g2, g3⟩, by rw [g3]; exact Fp_tr (Fp_p s rfl) (Fp_p _ rfl)⟩
    · obtain ⟨g1, g2, g3⟩ := bad hok
      exact ⟨g1, fun _ => g2, fun hc => absurd hc hok, by rw [g3]; exact Fp_rf _ s⟩
end
