-- needs: 6zi.bki
/-! what is kept of a day: the reference -/
section
theorem img_c {k d : Nat} (hk : k ≤ 1) (hd : d < 788) : (788 : Int32) * zI (k : Int) + zI (d : Int) = zI ((788 * k + d : Nat) : Int) := by
  rw [show (788 : Int32) = zI 788 from rfl, z_mul, z_add]; congr 1
theorem img_l {k d : Nat} (hk : k ≤ 1) (hd : d < 15) : (15 : Int32) * zI (k : Int) + zI (d : Int) = zI ((15 * k + d : Nat) : Int) := by
  rw [show (15 : Int32) = zI 15 from rfl, z_mul, z_add]; congr 1
theorem nar_1 : ¬ vp_nar .boolean (1 : Int32) = 0 := by decide
theorem x_image {t : SM} {k : Nat} (hk : k ≤ 1) : ∃ t', mX12_image t (zI (k : Int)) = t' ∧ rX12_image t (zI (k : Int)) ∧ vX12_image t (zI (k : Int)) = 1 ∧ (∀ i, i < 787 → gI t' 275 (788 * k + i) = gI t 250 i) ∧ gI t' 275 (788 * k + 787) = gI t 248 22 ∧ (∀ i, i < 15 → gL t' 276 (15 * k + i) = gL t 253 i) ∧ ¬ gI t' 277 k = 0 ∧ Fq (fun c i => (c = 275 ∧ 788 * k ≤ i ∧ i < 788 * k + 788) ∨ (c = 277 ∧ i = k) ∨ (c = 248 ∧ i = 0)) (fun c i => c = 276 ∧ 15 * k ≤ i ∧ i < 15 * k + 15) t t' := by
  obtain ⟨t0, ht0⟩ : ∃ t0, t0 = pI t 248 0 0 := ⟨_, rfl⟩
  have f0 : Fq (fun c i => c = 248 ∧ i = 0) (fun _ _ => False) t t0 := by rw [ht0]; exact Fq_p t ⟨rfl, rfl⟩
  have iM : vX12_isIn t0 (zI (k : Int)) 0 1 = bI ((0 : Int) ≤ (k : Int) ∧ (k : Int) ≤ 1) := x_isIn t0 (b := 0) (c := 1) (by omega) (by omega) (by omega)
  have ck : (zI (k : Int)).toNatClampNeg = k := by rw [z_cl (by omega)]; exact Int.toNat_natCast _
  have vk : vp_in (zI (k : Int)) 2 := by rw [z_in (by omega)]; omega
  have ni : ¬ vX12_isIn t0 (zI (k : Int)) 0 1 = 0 := by rw [iM, bI_0]; exact fun hc => hc ⟨by omega, by omega⟩
  obtain ⟨t1, ⟨i1, i2⟩, st1⟩ := ST_up (B := 1) 787 (fun (d : Nat) (u : SM) => (∀ i, i < d → gI u 275 (788 * k + i) = gI t0 250 i) ∧ Fq (fun c i => c = 275 ∧ 788 * k ≤ i ∧ i < 788 * k + 788) (fun _ _ => False) t0 u) (fun d u n => (lX12_image n).1 u (zI (k : Int)) (zI (d : Int))) (fun d u n => (qX12_image n).1 u (zI (k : Int)) (zI (d : Int))) (fun d u hd ⟨a1, a2⟩ => by
    have nle : ¬ (787 : Int32) ≤ zI (d : Int) := by rw [show (787 : Int32) = zI 787 from rfl, z_le (by omega) (by omega)]; omega
    have cd : (zI (d : Int)).toNatClampNeg = d := by rw [z_cl (by omega)]; exact Int.toNat_natCast _
    have vd : vp_in (zI (d : Int)) 787 := by rw [z_in (by omega)]; omega
    have e1 : zI (d : Int) + 1 = zI ((d + 1 : Nat) : Int) := by rw [zl1, z_add]; congr 1
    have cc : (zI ((788 * k + d : Nat) : Int)).toNatClampNeg = 788 * k + d := by rw [z_cl (by omega)]; exact Int.toNat_natCast _
    have vc : vp_in (zI ((788 * k + d : Nat) : Int)) 1576 := by rw [z_in (by omega)]; omega
    obtain ⟨u', hu'⟩ : ∃ u', u' = pI u 275 (788 * k + d) (gI u 250 d) := ⟨_, rfl⟩
    have f : Fq (fun c i => c = 275 ∧ i = 788 * k + d) (fun _ _ => False) u u' := by rw [hu']; exact Fq_p u ⟨rfl, rfl⟩
    refine ⟨u', ⟨fun i hi => ?_, Fq_tr a2 (Fq_mo f (fun c i hc => by omega) (fun _ _ h => h))⟩, ST_1 fun n => ?_⟩
    · by_cases c : i = d
      · rw [c, hu', gI_pI, if_pos ⟨rfl, rfl⟩]; exact a2.1 250 d (by omega)
      · rw [f.1 275 (788 * k + i) (by omega)]; exact a1 i (by omega)
    · show tX12_image_18 (lX12_image n) u (zI (k : Int)) (zI (d : Int)) = _ ∧ (_ → uX12_image_18 (qX12_image n) u (zI (k : Int)) (zI (d : Int)))
      unfold tX12_image_18 uX12_image_18
      rw [if_neg nle, img_c hk (by omega), cc, cd, ← hu', e1]
      exact ⟨rfl, fun hh => ⟨fun hc => absurd hc nle, fun _ => ⟨vd, vc, hh⟩⟩⟩) 787 0 t0 (by omega) ⟨fun i hi => absurd hi (by omega), Fq_rf _ _ _⟩
  obtain ⟨t2, ht2⟩ : ∃ t2, t2 = pI t1 275 (788 * k + 787) (gI t1 248 22) := ⟨_, rfl⟩
  have f2 : Fq (fun c i => c = 275 ∧ i = 788 * k + 787) (fun _ _ => False) t1 t2 := by rw [ht2]; exact Fq_p t1 ⟨rfl, rfl⟩
  have st2 : ST 1 (fun n => (lX12_image n).1 t1 (zI (k : Int)) (zI ((787 : Nat) : Int))) (fun n => (qX12_image n).1 t1 (zI (k : Int)) (zI ((787 : Nat) : Int))) (fun n => (lX12_image n).2 t2 (zI (k : Int)) (zI ((0 : Nat) : Int))) (fun n => (qX12_image n).2 t2 (zI (k : Int)) (zI ((0 : Nat) : Int))) := ST_1 fun n => by
    have le : (787 : Int32) ≤ zI ((787 : Nat) : Int) := by decide
    have cc : (zI ((788 * k + 787 : Nat) : Int)).toNatClampNeg = 788 * k + 787 := by rw [z_cl (by omega)]; exact Int.toNat_natCast _
    have vc : vp_in (zI ((788 * k + 787 : Nat) : Int)) 1576 := by rw [z_in (by omega)]; omega
    have ec : (788 : Int32) * zI (k : Int) + 787 = zI ((788 * k + 787 : Nat) : Int) := img_c (d := 787) hk (by omega)
    show tX12_image_18 (lX12_image n) t1 (zI (k : Int)) (zI ((787 : Nat) : Int)) = _ ∧ (_ → uX12_image_18 (qX12_image n) t1 (zI (k : Int)) (zI ((787 : Nat) : Int)))
    unfold tX12_image_18 uX12_image_18
    rw [if_pos le, ec, cc, ← ht2]
    exact ⟨rfl, fun hh => ⟨fun _ => ⟨vc, hh⟩, fun hc => absurd le hc⟩⟩
  obtain ⟨t3, ⟨j1, j2⟩, st3⟩ := ST_up (B := 1) 15 (fun (d : Nat) (u : SM) => (∀ i, i < d → gL u 276 (15 * k + i) = gL t2 253 i) ∧ Fq (fun _ _ => False) (fun c i => c = 276 ∧ 15 * k ≤ i ∧ i < 15 * k + 15) t2 u) (fun d u n => (lX12_image n).2 u (zI (k : Int)) (zI (d : Int))) (fun d u n => (qX12_image n).2 u (zI (k : Int)) (zI (d : Int))) (fun d u hd ⟨a1, a2⟩ => by
    have nle : ¬ (15 : Int32) ≤ zI (d : Int) := by rw [show (15 : Int32) = zI 15 from rfl, z_le (by omega) (by omega)]; omega
    have cd : (zI (d : Int)).toNatClampNeg = d := by rw [z_cl (by omega)]; exact Int.toNat_natCast _
    have vd : vp_in (zI (d : Int)) 30 := by rw [z_in (by omega)]; omega
    have e1 : zI (d : Int) + 1 = zI ((d + 1 : Nat) : Int) := by rw [zl1, z_add]; congr 1
    have cc : (zI ((15 * k + d : Nat) : Int)).toNatClampNeg = 15 * k + d := by rw [z_cl (by omega)]; exact Int.toNat_natCast _
    have vc : vp_in (zI ((15 * k + d : Nat) : Int)) 30 := by rw [z_in (by omega)]; omega
    obtain ⟨u', hu'⟩ : ∃ u', u' = pL u 276 (15 * k + d) (gL u 253 d) := ⟨_, rfl⟩
    have f : Fq (fun _ _ => False) (fun c i => c = 276 ∧ i = 15 * k + d) u u' := by rw [hu']; exact Fq_L u ⟨rfl, rfl⟩
    refine ⟨u', ⟨fun i hi => ?_, Fq_tr a2 (Fq_mo f (fun _ _ h => h) (fun c i hc => by omega))⟩, ST_1 fun n => ?_⟩
    · by_cases c : i = d
      · rw [c, hu', gL_pL, if_pos ⟨rfl, rfl⟩]; exact a2.2.1 253 d (by omega)
      · rw [f.2.1 276 (15 * k + i) (by omega)]; exact a1 i (by omega)
    · show tX12_image_69 (lX12_image n) u (zI (k : Int)) (zI (d : Int)) = _ ∧ (_ → uX12_image_69 (qX12_image n) u (zI (k : Int)) (zI (d : Int)))
      unfold tX12_image_69 uX12_image_69
      rw [if_neg nle, img_l hk (by omega), cc, cd, ← hu', e1]
      exact ⟨rfl, fun hh => ⟨fun hc => absurd hc nle, fun _ => ⟨vd, vc, hh⟩⟩⟩) 15 0 t2 (by omega) ⟨fun i hi => absurd hi (by omega), Fq_rf _ _ _⟩
  obtain ⟨t4, ht4⟩ : ∃ t4, t4 = pI t3 277 k (vp_nar .boolean (1 : Int32)) := ⟨_, rfl⟩
  have f4 : Fq (fun c i => c = 277 ∧ i = k) (fun _ _ => False) t3 t4 := by rw [ht4]; exact Fq_p t3 ⟨rfl, rfl⟩
  have st4 : ST 1 (fun n => (lX12_image n).2 t3 (zI (k : Int)) (zI ((15 : Nat) : Int))) (fun n => (qX12_image n).2 t3 (zI (k : Int)) (zI ((15 : Nat) : Int))) (fun _ => ((1 : Int32), t4)) (fun _ => True) := ST_1 fun n => by
    have le : (15 : Int32) ≤ zI ((15 : Nat) : Int) := by decide
    show tX12_image_69 (lX12_image n) t3 (zI (k : Int)) (zI ((15 : Nat) : Int)) = _ ∧ (_ → uX12_image_69 (qX12_image n) t3 (zI (k : Int)) (zI ((15 : Nat) : Int)))
    unfold tX12_image_69 uX12_image_69
    rw [if_pos le, ck, ← ht4]
    exact ⟨rfl, fun _ => ⟨fun _ => vk, fun hc => absurd le hc⟩⟩
  obtain ⟨E, R⟩ := ST_fu (ST_trans st1 (ST_trans st2 (ST_trans st3 st4))) (by omega)
  have EF : fX12_image t (zI (k : Int)) = (1, t4) := by
    unfold fX12_image
    rw [← ht0, if_neg ni]
    exact E
  have F1 : Fq (fun c i => (c = 275 ∧ 788 * k ≤ i ∧ i < 788 * k + 788) ∨ (c = 248 ∧ i = 0)) (fun _ _ => False) t t1 := Fq_tr (Fq_mo f0 (fun c i hc => Or.inr hc) (fun _ _ h => h)) (Fq_mo i2 (fun c i hc => Or.inl hc) (fun _ _ h => h))
  refine ⟨t4, by unfold mX12_image; rw [EF], ?_, by unfold vX12_image; rw [EF], fun i hi => ?_, ?_, fun i hi => ?_, ?_, Fq_tr (Fq_mo F1 (fun c i hc => by omega) (fun _ _ h => h.elim)) (Fq_tr (Fq_mo f2 (fun c i hc => by omega) (fun _ _ h => h.elim)) (Fq_tr (Fq_mo j2 (fun _ _ h => h.elim) (fun c i hc => hc)) (Fq_mo f4 (fun c i hc => by omega) (fun _ _ h => h.elim))))⟩
  · unfold rX12_image
    rw [← ht0]
    exact fun _ => R
  · rw [f4.1 275 _ (by omega), j2.1 275 _ (fun h => h), f2.1 275 _ (by omega), i1 i hi, f0.1 250 i (by omega)]
  · rw [f4.1 275 _ (by omega), j2.1 275 _ (fun h => h), ht2, gI_pI, if_pos ⟨rfl, rfl⟩, F1.1 248 22 (by omega)]
  · rw [f4.2.1 276 _ (fun h => h), j1 i hi, f2.2.1 253 i (fun h => h), F1.2.1 253 i (fun h => h)]
  · rw [ht4, gI_pI, if_pos ⟨rfl, rfl⟩]; exact nar_1
theorem x_restore {t : SM} {k : Nat} (hk : k ≤ 1) (h7 : ¬ gI t 277 k = 0) : ∃ t', mX12_restore t (zI (k : Int)) = t' ∧ rX12_restore t (zI (k : Int)) ∧ vX12_restore t (zI (k : Int)) = 1 ∧ (∀ i, i < 787 → gI t' 250 i = gI t 275 (788 * k + i)) ∧ gI t' 248 22 = gI t 275 (788 * k + 787) ∧ (∀ i, i < 15 → gL t' 253 i = gL t 276 (15 * k + i)) ∧ gI t' 248 25 = 0 ∧ Fq (fun c i => (c = 250 ∧ i < 787) ∨ (c = 248 ∧ (i = 0 ∨ i = 22 ∨ i = 25))) (fun c i => c = 253 ∧ i < 15) t t' := by
  obtain ⟨t0, ht0⟩ : ∃ t0, t0 = pI t 248 0 0 := ⟨_, rfl⟩
  have f0 : Fq (fun c i => c = 248 ∧ i = 0) (fun _ _ => False) t t0 := by rw [ht0]; exact Fq_p t ⟨rfl, rfl⟩
  have iM : vX12_isIn t0 (zI (k : Int)) 0 1 = bI ((0 : Int) ≤ (k : Int) ∧ (k : Int) ≤ 1) := x_isIn t0 (b := 0) (c := 1) (by omega) (by omega) (by omega)
  have ck : (zI (k : Int)).toNatClampNeg = k := by rw [z_cl (by omega)]; exact Int.toNat_natCast _
  have vk : vp_in (zI (k : Int)) 2 := by rw [z_in (by omega)]; omega
  have ni : ¬ vX12_isIn t0 (zI (k : Int)) 0 1 = 0 := by rw [iM, bI_0]; exact fun hc => hc ⟨by omega, by omega⟩
  have n7 : ¬ gI t0 277 k = 0 := by rw [f0.1 277 k (by omega)]; exact h7
  obtain ⟨t1, ⟨i1, i2⟩, st1⟩ := ST_up (B := 1) 787 (fun (d : Nat) (u : SM) => (∀ i, i < d → gI u 250 i = gI t0 275 (788 * k + i)) ∧ Fq (fun c i => c = 250 ∧ i < 787) (fun _ _ => False) t0 u) (fun d u n => (lX12_restore n).1 u (zI (k : Int)) (zI (d : Int))) (fun d u n => (qX12_restore n).1 u (zI (k : Int)) (zI (d : Int))) (fun d u hd ⟨a1, a2⟩ => by
    have nle : ¬ (787 : Int32) ≤ zI (d : Int) := by rw [show (787 : Int32) = zI 787 from rfl, z_le (by omega) (by omega)]; omega
    have cd : (zI (d : Int)).toNatClampNeg = d := by rw [z_cl (by omega)]; exact Int.toNat_natCast _
    have vd : vp_in (zI (d : Int)) 787 := by rw [z_in (by omega)]; omega
    have e1 : zI (d : Int) + 1 = zI ((d + 1 : Nat) : Int) := by rw [zl1, z_add]; congr 1
    have cc : (zI ((788 * k + d : Nat) : Int)).toNatClampNeg = 788 * k + d := by rw [z_cl (by omega)]; exact Int.toNat_natCast _
    have vc : vp_in (zI ((788 * k + d : Nat) : Int)) 1576 := by rw [z_in (by omega)]; omega
    obtain ⟨u', hu'⟩ : ∃ u', u' = pI u 250 d (gI u 275 (788 * k + d)) := ⟨_, rfl⟩
    have f : Fq (fun c i => c = 250 ∧ i = d) (fun _ _ => False) u u' := by rw [hu']; exact Fq_p u ⟨rfl, rfl⟩
    refine ⟨u', ⟨fun i hi => ?_, Fq_tr a2 (Fq_mo f (fun c i hc => by omega) (fun _ _ h => h))⟩, ST_1 fun n => ?_⟩
    · by_cases c : i = d
      · rw [c, hu', gI_pI, if_pos ⟨rfl, rfl⟩]; exact a2.1 275 _ (by omega)
      · rw [f.1 250 i (by omega)]; exact a1 i (by omega)
    · show tX12_restore_27 (lX12_restore n) u (zI (k : Int)) (zI (d : Int)) = _ ∧ (_ → uX12_restore_27 (qX12_restore n) u (zI (k : Int)) (zI (d : Int)))
      unfold tX12_restore_27 uX12_restore_27
      rw [if_neg nle, img_c hk (by omega), cc, cd, ← hu', e1]
      exact ⟨rfl, fun hh => ⟨fun hc => absurd hc nle, fun _ => ⟨vc, vd, hh⟩⟩⟩) 787 0 t0 (by omega) ⟨fun i hi => absurd hi (by omega), Fq_rf _ _ _⟩
  obtain ⟨t2, ht2⟩ : ∃ t2, t2 = pI t1 248 22 (gI t1 275 (788 * k + 787)) := ⟨_, rfl⟩
  have f2 : Fq (fun c i => c = 248 ∧ i = 22) (fun _ _ => False) t1 t2 := by rw [ht2]; exact Fq_p t1 ⟨rfl, rfl⟩
  have st2 : ST 1 (fun n => (lX12_restore n).1 t1 (zI (k : Int)) (zI ((787 : Nat) : Int))) (fun n => (qX12_restore n).1 t1 (zI (k : Int)) (zI ((787 : Nat) : Int))) (fun n => (lX12_restore n).2 t2 (zI (k : Int)) (zI ((0 : Nat) : Int))) (fun n => (qX12_restore n).2 t2 (zI (k : Int)) (zI ((0 : Nat) : Int))) := ST_1 fun n => by
    have le : (787 : Int32) ≤ zI ((787 : Nat) : Int) := by decide
    have cc : (zI ((788 * k + 787 : Nat) : Int)).toNatClampNeg = 788 * k + 787 := by rw [z_cl (by omega)]; exact Int.toNat_natCast _
    have vc : vp_in (zI ((788 * k + 787 : Nat) : Int)) 1576 := by rw [z_in (by omega)]; omega
    have ec : (788 : Int32) * zI (k : Int) + 787 = zI ((788 * k + 787 : Nat) : Int) := img_c (d := 787) hk (by omega)
    show tX12_restore_27 (lX12_restore n) t1 (zI (k : Int)) (zI ((787 : Nat) : Int)) = _ ∧ (_ → uX12_restore_27 (qX12_restore n) t1 (zI (k : Int)) (zI ((787 : Nat) : Int)))
    unfold tX12_restore_27 uX12_restore_27
    rw [if_pos le, ec, cc, ← ht2]
    exact ⟨rfl, fun hh => ⟨fun _ => ⟨vc, hh⟩, fun hc => absurd le hc⟩⟩
  obtain ⟨t3, ⟨j1, j2⟩, st3⟩ := ST_up (B := 1) 15 (fun (d : Nat) (u : SM) => (∀ i, i < d → gL u 253 i = gL t2 276 (15 * k + i)) ∧ Fq (fun _ _ => False) (fun c i => c = 253 ∧ i < 15) t2 u) (fun d u n => (lX12_restore n).2 u (zI (k : Int)) (zI (d : Int))) (fun d u n => (qX12_restore n).2 u (zI (k : Int)) (zI (d : Int))) (fun d u hd ⟨a1, a2⟩ => by
    have nle : ¬ (15 : Int32) ≤ zI (d : Int) := by rw [show (15 : Int32) = zI 15 from rfl, z_le (by omega) (by omega)]; omega
    have cd : (zI (d : Int)).toNatClampNeg = d := by rw [z_cl (by omega)]; exact Int.toNat_natCast _
    have vd : vp_in (zI (d : Int)) 30 := by rw [z_in (by omega)]; omega
    have e1 : zI (d : Int) + 1 = zI ((d + 1 : Nat) : Int) := by rw [zl1, z_add]; congr 1
    have cc : (zI ((15 * k + d : Nat) : Int)).toNatClampNeg = 15 * k + d := by rw [z_cl (by omega)]; exact Int.toNat_natCast _
    have vc : vp_in (zI ((15 * k + d : Nat) : Int)) 30 := by rw [z_in (by omega)]; omega
    obtain ⟨u', hu'⟩ : ∃ u', u' = pL u 253 d (gL u 276 (15 * k + d)) := ⟨_, rfl⟩
    have f : Fq (fun _ _ => False) (fun c i => c = 253 ∧ i = d) u u' := by rw [hu']; exact Fq_L u ⟨rfl, rfl⟩
    refine ⟨u', ⟨fun i hi => ?_, Fq_tr a2 (Fq_mo f (fun _ _ h => h) (fun c i hc => by omega))⟩, ST_1 fun n => ?_⟩
    · by_cases c : i = d
      · rw [c, hu', gL_pL, if_pos ⟨rfl, rfl⟩]; exact a2.2.1 276 _ (by omega)
      · rw [f.2.1 253 i (by omega)]; exact a1 i (by omega)
    · show tX12_restore_78 (lX12_restore n) u (zI (k : Int)) (zI (d : Int)) = _ ∧ (_ → uX12_restore_78 (qX12_restore n) u (zI (k : Int)) (zI (d : Int)))
      unfold tX12_restore_78 uX12_restore_78
      rw [if_neg nle, img_l hk (by omega), cc, cd, ← hu', e1]
      exact ⟨rfl, fun hh _ => ⟨vc, vd, hh⟩⟩) 15 0 t2 (by omega) ⟨fun i hi => absurd hi (by omega), Fq_rf _ _ _⟩
  obtain ⟨t4, ht4⟩ : ∃ t4, t4 = pI t3 248 25 (0 : Int32) := ⟨_, rfl⟩
  have f4 : Fq (fun c i => c = 248 ∧ i = 25) (fun _ _ => False) t3 t4 := by rw [ht4]; exact Fq_p t3 ⟨rfl, rfl⟩
  have st4 : ST 1 (fun n => (lX12_restore n).2 t3 (zI (k : Int)) (zI ((15 : Nat) : Int))) (fun n => (qX12_restore n).2 t3 (zI (k : Int)) (zI ((15 : Nat) : Int))) (fun _ => ((1 : Int32), t4)) (fun _ => True) := ST_1 fun n => by
    have le : (15 : Int32) ≤ zI ((15 : Nat) : Int) := by decide
    show tX12_restore_78 (lX12_restore n) t3 (zI (k : Int)) (zI ((15 : Nat) : Int)) = _ ∧ (_ → uX12_restore_78 (qX12_restore n) t3 (zI (k : Int)) (zI ((15 : Nat) : Int)))
    unfold tX12_restore_78 uX12_restore_78
    rw [if_pos le, ← ht4]
    exact ⟨rfl, fun _ hc => absurd le hc⟩
  obtain ⟨E, R⟩ := ST_fu (ST_trans st1 (ST_trans st2 (ST_trans st3 st4))) (by omega)
  have EF : fX12_restore t (zI (k : Int)) = (1, t4) := by
    unfold fX12_restore
    rw [← ht0, if_neg ni, ck, if_neg n7]
    exact E
  have F1 : Fq (fun c i => (c = 250 ∧ i < 787) ∨ (c = 248 ∧ i = 0)) (fun _ _ => False) t t1 := Fq_tr (Fq_mo f0 (fun c i hc => Or.inr hc) (fun _ _ h => h)) (Fq_mo i2 (fun c i hc => Or.inl hc) (fun _ _ h => h))
  refine ⟨t4, by unfold mX12_restore; rw [EF], ?_, by unfold vX12_restore; rw [EF], fun i hi => ?_, ?_, fun i hi => ?_, ?_, Fq_tr (Fq_mo F1 (fun c i hc => by omega) (fun _ _ h => h.elim)) (Fq_tr (Fq_mo f2 (fun c i hc => by omega) (fun _ _ h => h.elim)) (Fq_tr (Fq_mo j2 (fun _ _ h => h.elim) (fun c i hc => hc)) (Fq_mo f4 (fun c i hc => by omega) (fun _ _ h => h.elim))))⟩
  · unfold rX12_restore
    rw [← ht0, ck]
    exact fun _ => ⟨vk, fun _ => R⟩
  · rw [f4.1 250 _ (by omega), j2.1 250 _ (fun h => h), f2.1 250 _ (by omega), i1 i hi, f0.1 275 _ (by omega)]
  · rw [f4.1 248 22 (by omega), j2.1 248 22 (fun h => h), ht2, gI_pI, if_pos ⟨rfl, rfl⟩, F1.1 275 _ (by omega)]
  · rw [f4.2.1 253 i (fun h => h), j1 i hi, f2.2.1 276 _ (fun h => h), F1.2.1 276 _ (fun h => h)]
  · rw [ht4, gI_pI, if_pos ⟨rfl, rfl⟩]
end
theorem y_pc_5_167 (s : SM) : (∀ i, 6 ≤ i → i ≤ 11 → gI (mX6_copyFrom s 5 167) 5 i = gI s 167 i) ∧ (∀ b, b < 9 → gI (mX6_copyFrom s 5 167) 7 b = gI s 169 b ∧ gI (mX6_copyFrom s 5 167) 8 b = gI s 170 b ∧ gL (mX6_copyFrom s 5 167) 6 b = gL s 168 b) ∧ (∀ k, k < 6 → gI (mX6_copyFrom s 5 167) 10 k = gI s 172 k ∧ gI (mX6_copyFrom s 5 167) 11 k = gI s 173 k ∧ gL (mX6_copyFrom s 5 167) 9 k = gL s 171 k) ∧ Fq (fun c _ => 5 ≤ c ∧ c ≤ 11) (fun c _ => 5 ≤ c ∧ c ≤ 11) s (mX6_copyFrom s 5 167) := by
  unfold mX6_copyFrom
  dsimp only
  have z0 : ((0 : Int32)).toNatClampNeg = 0 := rfl
  have z6 : ((6 : Int32)).toNatClampNeg = 6 := rfl
  have z9 : ((9 : Int32)).toNatClampNeg = 9 := rfl
  simp only [z0, z6, z9, Nat.reduceAdd]
  refine ⟨fun i h1 h2 => ?_, fun b hb => ⟨?_, ?_, ?_⟩, fun k hk => ⟨?_, ?_, ?_⟩, ?_⟩
  · obtain rfl | rfl | rfl | rfl | rfl | rfl : i = 6 ∨ i = 7 ∨ i = 8 ∨ i = 9 ∨ i = 10 ∨ i = 11 := by omega
    all_goals simp only [gI_pI, gI_cI, gI_cL, Nat.reduceEqDiff, and_true, and_false, false_and, true_and, if_true, if_false]
  · simp only [gI_pI, gI_cI, gI_cL, Nat.reduceEqDiff, and_true, and_false, false_and, true_and, if_true, if_false, va_lo _ _ hb]
  · simp only [gI_pI, gI_cI, gI_cL, Nat.reduceEqDiff, and_true, and_false, false_and, true_and, if_true, if_false, va_lo _ _ hb]
  · simp only [gL_pI, gL_cI, gL_cL, Nat.reduceEqDiff, if_true, if_false, va_lo _ _ hb]
  · simp only [gI_pI, gI_cI, gI_cL, Nat.reduceEqDiff, and_true, and_false, false_and, true_and, if_true, if_false, va_lo _ _ hk]
  · simp only [gI_pI, gI_cI, gI_cL, Nat.reduceEqDiff, and_true, and_false, false_and, true_and, if_true, if_false, va_lo _ _ hk]
  · simp only [gL_pI, gL_cI, gL_cL, Nat.reduceEqDiff, if_true, if_false, va_lo _ _ hk]
  · exact Fq_tr (Fq_cL _ _ (by omega)) (Fq_tr (Fq_cI _ _ (by omega)) (Fq_tr (Fq_cI _ _ (by omega)) (Fq_tr (Fq_cL _ _ (by omega)) (Fq_tr (Fq_cI _ _ (by omega)) (Fq_tr (Fq_cI _ _ (by omega)) (Fq_tr (Fq_tr (Fq_p _ (by omega)) (Fq_tr (Fq_p _ (by omega)) (Fq_p _ (by omega)))) (Fq_tr (Fq_p _ (by omega)) (Fq_tr (Fq_p _ (by omega)) (Fq_p _ (by omega))))))))))
theorem y_pc_5_193 (s : SM) : (∀ i, 6 ≤ i → i ≤ 11 → gI (mX6_copyFrom s 5 193) 5 i = gI s 193 i) ∧ (∀ b, b < 9 → gI (mX6_copyFrom s 5 193) 7 b = gI s 195 b ∧ gI (mX6_copyFrom s 5 193) 8 b = gI s 196 b ∧ gL (mX6_copyFrom s 5 193) 6 b = gL s 194 b) ∧ (∀ k, k < 6 → gI (mX6_copyFrom s 5 193) 10 k = gI s 198 k ∧ gI (mX6_copyFrom s 5 193) 11 k = gI s 199 k ∧ gL (mX6_copyFrom s 5 193) 9 k = gL s 197 k) ∧ Fq (fun c _ => 5 ≤ c ∧ c ≤ 11) (fun c _ => 5 ≤ c ∧ c ≤ 11) s (mX6_copyFrom s 5 193) := by
  unfold mX6_copyFrom
  dsimp only
  have z0 : ((0 : Int32)).toNatClampNeg = 0 := rfl
  have z6 : ((6 : Int32)).toNatClampNeg = 6 := rfl
  have z9 : ((9 : Int32)).toNatClampNeg = 9 := rfl
  simp only [z0, z6, z9, Nat.reduceAdd]
  refine ⟨fun i h1 h2 => ?_, fun b hb => ⟨?_, ?_, ?_⟩, fun k hk => ⟨?_, ?_, ?_⟩, ?_⟩
  · obtain rfl | rfl | rfl | rfl | rfl | rfl : i = 6 ∨ i = 7 ∨ i = 8 ∨ i = 9 ∨ i = 10 ∨ i = 11 := by omega
    all_goals simp only [gI_pI, gI_cI, gI_cL, Nat.reduceEqDiff, and_true, and_false, false_and, true_and, if_true, if_false]
  · simp only [gI_pI, gI_cI, gI_cL, Nat.reduceEqDiff, and_true, and_false, false_and, true_and, if_true, if_false, va_lo _ _ hb]
  · simp only [gI_pI, gI_cI, gI_cL, Nat.reduceEqDiff, and_true, and_false, false_and, true_and, if_true, if_false, va_lo _ _ hb]
  · simp only [gL_pI, gL_cI, gL_cL, Nat.reduceEqDiff, if_true, if_false, va_lo _ _ hb]
  · simp only [gI_pI, gI_cI, gI_cL, Nat.reduceEqDiff, and_true, and_false, false_and, true_and, if_true, if_false, va_lo _ _ hk]
  · simp only [gI_pI, gI_cI, gI_cL, Nat.reduceEqDiff, and_true, and_false, false_and, true_and, if_true, if_false, va_lo _ _ hk]
  · simp only [gL_pI, gL_cI, gL_cL, Nat.reduceEqDiff, if_true, if_false, va_lo _ _ hk]
  · exact Fq_tr (Fq_cL _ _ (by omega)) (Fq_tr (Fq_cI _ _ (by omega)) (Fq_tr (Fq_cI _ _ (by omega)) (Fq_tr (Fq_cL _ _ (by omega)) (Fq_tr (Fq_cI _ _ (by omega)) (Fq_tr (Fq_cI _ _ (by omega)) (Fq_tr (Fq_tr (Fq_p _ (by omega)) (Fq_tr (Fq_p _ (by omega)) (Fq_p _ (by omega)))) (Fq_tr (Fq_p _ (by omega)) (Fq_tr (Fq_p _ (by omega)) (Fq_p _ (by omega))))))))))
theorem y_pc_167_5 (s : SM) : (∀ i, 6 ≤ i → i ≤ 11 → gI (mX6_copyFrom s 167 5) 167 i = gI s 5 i) ∧ (∀ b, b < 9 → gI (mX6_copyFrom s 167 5) 169 b = gI s 7 b ∧ gI (mX6_copyFrom s 167 5) 170 b = gI s 8 b ∧ gL (mX6_copyFrom s 167 5) 168 b = gL s 6 b) ∧ (∀ k, k < 6 → gI (mX6_copyFrom s 167 5) 172 k = gI s 10 k ∧ gI (mX6_copyFrom s 167 5) 173 k = gI s 11 k ∧ gL (mX6_copyFrom s 167 5) 171 k = gL s 9 k) ∧ Fq (fun c _ => 167 ≤ c ∧ c ≤ 173) (fun c _ => 167 ≤ c ∧ c ≤ 173) s (mX6_copyFrom s 167 5) := by
  unfold mX6_copyFrom
  dsimp only
  have z0 : ((0 : Int32)).toNatClampNeg = 0 := rfl
  have z6 : ((6 : Int32)).toNatClampNeg = 6 := rfl
  have z9 : ((9 : Int32)).toNatClampNeg = 9 := rfl
  simp only [z0, z6, z9, Nat.reduceAdd]
  refine ⟨fun i h1 h2 => ?_, fun b hb => ⟨?_, ?_, ?_⟩, fun k hk => ⟨?_, ?_, ?_⟩, ?_⟩
  · obtain rfl | rfl | rfl | rfl | rfl | rfl : i = 6 ∨ i = 7 ∨ i = 8 ∨ i = 9 ∨ i = 10 ∨ i = 11 := by omega
    all_goals simp only [gI_pI, gI_cI, gI_cL, Nat.reduceEqDiff, and_true, and_false, false_and, true_and, if_true, if_false]
  · simp only [gI_pI, gI_cI, gI_cL, Nat.reduceEqDiff, and_true, and_false, false_and, true_and, if_true, if_false, va_lo _ _ hb]
  · simp only [gI_pI, gI_cI, gI_cL, Nat.reduceEqDiff, and_true, and_false, false_and, true_and, if_true, if_false, va_lo _ _ hb]
  · simp only [gL_pI, gL_cI, gL_cL, Nat.reduceEqDiff, if_true, if_false, va_lo _ _ hb]
  · simp only [gI_pI, gI_cI, gI_cL, Nat.reduceEqDiff, and_true, and_false, false_and, true_and, if_true, if_false, va_lo _ _ hk]
  · simp only [gI_pI, gI_cI, gI_cL, Nat.reduceEqDiff, and_true, and_false, false_and, true_and, if_true, if_false, va_lo _ _ hk]
  · simp only [gL_pI, gL_cI, gL_cL, Nat.reduceEqDiff, if_true, if_false, va_lo _ _ hk]
  · exact Fq_tr (Fq_cL _ _ (by omega)) (Fq_tr (Fq_cI _ _ (by omega)) (Fq_tr (Fq_cI _ _ (by omega)) (Fq_tr (Fq_cL _ _ (by omega)) (Fq_tr (Fq_cI _ _ (by omega)) (Fq_tr (Fq_cI _ _ (by omega)) (Fq_tr (Fq_tr (Fq_p _ (by omega)) (Fq_tr (Fq_p _ (by omega)) (Fq_p _ (by omega)))) (Fq_tr (Fq_p _ (by omega)) (Fq_tr (Fq_p _ (by omega)) (Fq_p _ (by omega))))))))))
theorem y_pc_193_5 (s : SM) : (∀ i, 6 ≤ i → i ≤ 11 → gI (mX6_copyFrom s 193 5) 193 i = gI s 5 i) ∧ (∀ b, b < 9 → gI (mX6_copyFrom s 193 5) 195 b = gI s 7 b ∧ gI (mX6_copyFrom s 193 5) 196 b = gI s 8 b ∧ gL (mX6_copyFrom s 193 5) 194 b = gL s 6 b) ∧ (∀ k, k < 6 → gI (mX6_copyFrom s 193 5) 198 k = gI s 10 k ∧ gI (mX6_copyFrom s 193 5) 199 k = gI s 11 k ∧ gL (mX6_copyFrom s 193 5) 197 k = gL s 9 k) ∧ Fq (fun c _ => 193 ≤ c ∧ c ≤ 199) (fun c _ => 193 ≤ c ∧ c ≤ 199) s (mX6_copyFrom s 193 5) := by
  unfold mX6_copyFrom
  dsimp only
  have z0 : ((0 : Int32)).toNatClampNeg = 0 := rfl
  have z6 : ((6 : Int32)).toNatClampNeg = 6 := rfl
  have z9 : ((9 : Int32)).toNatClampNeg = 9 := rfl
  simp only [z0, z6, z9, Nat.reduceAdd]
  refine ⟨fun i h1 h2 => ?_, fun b hb => ⟨?_, ?_, ?_⟩, fun k hk => ⟨?_, ?_, ?_⟩, ?_⟩
  · obtain rfl | rfl | rfl | rfl | rfl | rfl : i = 6 ∨ i = 7 ∨ i = 8 ∨ i = 9 ∨ i = 10 ∨ i = 11 := by omega
    all_goals simp only [gI_pI, gI_cI, gI_cL, Nat.reduceEqDiff, and_true, and_false, false_and, true_and, if_true, if_false]
  · simp only [gI_pI, gI_cI, gI_cL, Nat.reduceEqDiff, and_true, and_false, false_and, true_and, if_true, if_false, va_lo _ _ hb]
  · simp only [gI_pI, gI_cI, gI_cL, Nat.reduceEqDiff, and_true, and_false, false_and, true_and, if_true, if_false, va_lo _ _ hb]
  · simp only [gL_pI, gL_cI, gL_cL, Nat.reduceEqDiff, if_true, if_false, va_lo _ _ hb]
  · simp only [gI_pI, gI_cI, gI_cL, Nat.reduceEqDiff, and_true, and_false, false_and, true_and, if_true, if_false, va_lo _ _ hk]
  · simp only [gI_pI, gI_cI, gI_cL, Nat.reduceEqDiff, and_true, and_false, false_and, true_and, if_true, if_false, va_lo _ _ hk]
  · simp only [gL_pI, gL_cI, gL_cL, Nat.reduceEqDiff, if_true, if_false, va_lo _ _ hk]
  · exact Fq_tr (Fq_cL _ _ (by omega)) (Fq_tr (Fq_cI _ _ (by omega)) (Fq_tr (Fq_cI _ _ (by omega)) (Fq_tr (Fq_cL _ _ (by omega)) (Fq_tr (Fq_cI _ _ (by omega)) (Fq_tr (Fq_cI _ _ (by omega)) (Fq_tr (Fq_tr (Fq_p _ (by omega)) (Fq_tr (Fq_p _ (by omega)) (Fq_p _ (by omega)))) (Fq_tr (Fq_p _ (by omega)) (Fq_tr (Fq_p _ (by omega)) (Fq_p _ (by omega))))))))))
theorem y_bc_186_19 (s : SM) : gI (mX0_copyFrom s 186 19) 186 0 = gI s 19 0 ∧ (∀ i, i < 40 → gI (mX0_copyFrom s 186 19) 187 i = gI s 20 i ∧ gI (mX0_copyFrom s 186 19) 188 i = gI s 21 i ∧ gI (mX0_copyFrom s 186 19) 189 i = gI s 22 i ∧ gI (mX0_copyFrom s 186 19) 190 i = gI s 23 i ∧ gI (mX0_copyFrom s 186 19) 191 i = gI s 24 i) ∧ Fq (fun c _ => 186 ≤ c ∧ c ≤ 191) (fun _ _ => False) s (mX0_copyFrom s 186 19) := by
  unfold mX0_copyFrom
  dsimp only
  have z0 : ((0 : Int32)).toNatClampNeg = 0 := rfl
  have z40 : ((40 : Int32)).toNatClampNeg = 40 := rfl
  simp only [z0, z40, Nat.reduceAdd]
  refine ⟨?_, fun i hi => ⟨?_, ?_, ?_, ?_, ?_⟩, ?_⟩
  · simp only [gI_pI, gI_cI, Nat.reduceEqDiff, and_true, and_false, false_and, true_and, if_true, if_false]
  · simp only [gI_pI, gI_cI, Nat.reduceEqDiff, and_true, and_false, false_and, true_and, if_true, if_false, va_lo _ _ hi]
  · simp only [gI_pI, gI_cI, Nat.reduceEqDiff, and_true, and_false, false_and, true_and, if_true, if_false, va_lo _ _ hi]
  · simp only [gI_pI, gI_cI, Nat.reduceEqDiff, and_true, and_false, false_and, true_and, if_true, if_false, va_lo _ _ hi]
  · simp only [gI_pI, gI_cI, Nat.reduceEqDiff, and_true, and_false, false_and, true_and, if_true, if_false, va_lo _ _ hi]
  · simp only [gI_pI, gI_cI, Nat.reduceEqDiff, and_true, and_false, false_and, true_and, if_true, if_false, va_lo _ _ hi]
  · exact Fq_tr (Fq_cI _ _ (by omega)) (Fq_tr (Fq_cI _ _ (by omega)) (Fq_tr (Fq_cI _ _ (by omega)) (Fq_tr (Fq_cI _ _ (by omega)) (Fq_tr (Fq_cI _ _ (by omega)) (Fq_p _ (by omega))))))
theorem y_bc_212_19 (s : SM) : gI (mX0_copyFrom s 212 19) 212 0 = gI s 19 0 ∧ (∀ i, i < 40 → gI (mX0_copyFrom s 212 19) 213 i = gI s 20 i ∧ gI (mX0_copyFrom s 212 19) 214 i = gI s 21 i ∧ gI (mX0_copyFrom s 212 19) 215 i = gI s 22 i ∧ gI (mX0_copyFrom s 212 19) 216 i = gI s 23 i ∧ gI (mX0_copyFrom s 212 19) 217 i = gI s 24 i) ∧ Fq (fun c _ => 212 ≤ c ∧ c ≤ 217) (fun _ _ => False) s (mX0_copyFrom s 212 19) := by
  unfold mX0_copyFrom
  dsimp only
  have z0 : ((0 : Int32)).toNatClampNeg = 0 := rfl
  have z40 : ((40 : Int32)).toNatClampNeg = 40 := rfl
  simp only [z0, z40, Nat.reduceAdd]
  refine ⟨?_, fun i hi => ⟨?_, ?_, ?_, ?_, ?_⟩, ?_⟩
  · simp only [gI_pI, gI_cI, Nat.reduceEqDiff, and_true, and_false, false_and, true_and, if_true, if_false]
  · simp only [gI_pI, gI_cI, Nat.reduceEqDiff, and_true, and_false, false_and, true_and, if_true, if_false, va_lo _ _ hi]
  · simp only [gI_pI, gI_cI, Nat.reduceEqDiff, and_true, and_false, false_and, true_and, if_true, if_false, va_lo _ _ hi]
  · simp only [gI_pI, gI_cI, Nat.reduceEqDiff, and_true, and_false, false_and, true_and, if_true, if_false, va_lo _ _ hi]
  · simp only [gI_pI, gI_cI, Nat.reduceEqDiff, and_true, and_false, false_and, true_and, if_true, if_false, va_lo _ _ hi]
  · simp only [gI_pI, gI_cI, Nat.reduceEqDiff, and_true, and_false, false_and, true_and, if_true, if_false, va_lo _ _ hi]
  · exact Fq_tr (Fq_cI _ _ (by omega)) (Fq_tr (Fq_cI _ _ (by omega)) (Fq_tr (Fq_cI _ _ (by omega)) (Fq_tr (Fq_cI _ _ (by omega)) (Fq_tr (Fq_cI _ _ (by omega)) (Fq_p _ (by omega))))))
theorem y_bc_19_186 (s : SM) : gI (mX0_copyFrom s 19 186) 19 0 = gI s 186 0 ∧ (∀ i, i < 40 → gI (mX0_copyFrom s 19 186) 20 i = gI s 187 i ∧ gI (mX0_copyFrom s 19 186) 21 i = gI s 188 i ∧ gI (mX0_copyFrom s 19 186) 22 i = gI s 189 i ∧ gI (mX0_copyFrom s 19 186) 23 i = gI s 190 i ∧ gI (mX0_copyFrom s 19 186) 24 i = gI s 191 i) ∧ Fq (fun c _ => 19 ≤ c ∧ c ≤ 24) (fun _ _ => False) s (mX0_copyFrom s 19 186) := by
  unfold mX0_copyFrom
  dsimp only
  have z0 : ((0 : Int32)).toNatClampNeg = 0 := rfl
  have z40 : ((40 : Int32)).toNatClampNeg = 40 := rfl
  simp only [z0, z40, Nat.reduceAdd]
  refine ⟨?_, fun i hi => ⟨?_, ?_, ?_, ?_, ?_⟩, ?_⟩
  · simp only [gI_pI, gI_cI, Nat.reduceEqDiff, and_true, and_false, false_and, true_and, if_true, if_false]
  · simp only [gI_pI, gI_cI, Nat.reduceEqDiff, and_true, and_false, false_and, true_and, if_true, if_false, va_lo _ _ hi]
  · simp only [gI_pI, gI_cI, Nat.reduceEqDiff, and_true, and_false, false_and, true_and, if_true, if_false, va_lo _ _ hi]
  · simp only [gI_pI, gI_cI, Nat.reduceEqDiff, and_true, and_false, false_and, true_and, if_true, if_false, va_lo _ _ hi]
  · simp only [gI_pI, gI_cI, Nat.reduceEqDiff, and_true, and_false, false_and, true_and, if_true, if_false, va_lo _ _ hi]
  · simp only [gI_pI, gI_cI, Nat.reduceEqDiff, and_true, and_false, false_and, true_and, if_true, if_false, va_lo _ _ hi]
  · exact Fq_tr (Fq_cI _ _ (by omega)) (Fq_tr (Fq_cI _ _ (by omega)) (Fq_tr (Fq_cI _ _ (by omega)) (Fq_tr (Fq_cI _ _ (by omega)) (Fq_tr (Fq_cI _ _ (by omega)) (Fq_p _ (by omega))))))
theorem y_bc_19_212 (s : SM) : gI (mX0_copyFrom s 19 212) 19 0 = gI s 212 0 ∧ (∀ i, i < 40 → gI (mX0_copyFrom s 19 212) 20 i = gI s 213 i ∧ gI (mX0_copyFrom s 19 212) 21 i = gI s 214 i ∧ gI (mX0_copyFrom s 19 212) 22 i = gI s 215 i ∧ gI (mX0_copyFrom s 19 212) 23 i = gI s 216 i ∧ gI (mX0_copyFrom s 19 212) 24 i = gI s 217 i) ∧ Fq (fun c _ => 19 ≤ c ∧ c ≤ 24) (fun _ _ => False) s (mX0_copyFrom s 19 212) := by
  unfold mX0_copyFrom
  dsimp only
  have z0 : ((0 : Int32)).toNatClampNeg = 0 := rfl
  have z40 : ((40 : Int32)).toNatClampNeg = 40 := rfl
  simp only [z0, z40, Nat.reduceAdd]
  refine ⟨?_, fun i hi => ⟨?_, ?_, ?_, ?_, ?_⟩, ?_⟩
  · simp only [gI_pI, gI_cI, Nat.reduceEqDiff, and_true, and_false, false_and, true_and, if_true, if_false]
  · simp only [gI_pI, gI_cI, Nat.reduceEqDiff, and_true, and_false, false_and, true_and, if_true, if_false, va_lo _ _ hi]
  · simp only [gI_pI, gI_cI, Nat.reduceEqDiff, and_true, and_false, false_and, true_and, if_true, if_false, va_lo _ _ hi]
  · simp only [gI_pI, gI_cI, Nat.reduceEqDiff, and_true, and_false, false_and, true_and, if_true, if_false, va_lo _ _ hi]
  · simp only [gI_pI, gI_cI, Nat.reduceEqDiff, and_true, and_false, false_and, true_and, if_true, if_false, va_lo _ _ hi]
  · simp only [gI_pI, gI_cI, Nat.reduceEqDiff, and_true, and_false, false_and, true_and, if_true, if_false, va_lo _ _ hi]
  · exact Fq_tr (Fq_cI _ _ (by omega)) (Fq_tr (Fq_cI _ _ (by omega)) (Fq_tr (Fq_cI _ _ (by omega)) (Fq_tr (Fq_cI _ _ (by omega)) (Fq_tr (Fq_cI _ _ (by omega)) (Fq_p _ (by omega))))))
