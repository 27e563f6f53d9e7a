-- needs: 6s.hea
section
variable {t : SM}
/-- the reference's port, read to its end -/
theorem x_portTail (t : SM) : ∃ t', ST 900 (fun m => (lX12_port m).2.2.1 t 0) (fun m => (qX12_port m).2.2.1 t 0) (fun _ => (gI t 248 19, t')) (fun _ => True) ∧ (∀ i, i < 34 → gI t' 250 i = gI t 251 i) ∧ (∀ i, 34 ≤ i → i < 787 → gI t' 250 i = 0) ∧ (∀ i, i < 15 → gL t' 253 i = gL t 253 (15 + i)) ∧ gI t' 248 25 = 0 ∧ gI t' 248 22 = gI t 248 23 + 1 ∧ gI t' 248 23 = gI t 248 23 + 1 ∧ Fq (fun c i => (c = 250 ∧ i < 787) ∨ (c = 248 ∧ (i = 22 ∨ i = 23 ∨ i = 25))) (fun c i => c = 253 ∧ i < 15) t t' := by
  obtain ⟨t1, ⟨i1, i2, i3⟩, st1⟩ := ST_up (B := 1) 787 (fun (d : Nat) (u : SM) => (∀ i, i < 34 → i < d → gI u 250 i = gI t 251 i) ∧ (∀ i, 34 ≤ i → i < d → gI u 250 i = 0) ∧ Fq (fun c i => c = 250 ∧ i < 787) (fun _ _ => False) t u) (fun d u m => (lX12_port m).2.2.1 u (zI (d : Int))) (fun d u m => (qX12_port m).2.2.1 u (zI (d : Int))) (fun d u hd ⟨a1, a2, a3⟩ => by
    have n1 : ¬ 787 ≤ zI (d : Int) := by rw [show (787 : Int32) = zI 787 from rfl, z_le (by omega) (by omega)]; omega
    have cj : (zI (d : Int)).toNatClampNeg = d := by rw [z_cl (by omega)]; exact Int.toNat_natCast _
    have e1 : zI (d : Int) + 1 = zI ((d + 1 : Nat) : Int) := by rw [zl1, z_add]; congr 1
    have vi : vp_in (zI (d : Int)) 787 := by rw [z_in (by omega)]; omega
    have l34 : 34 ≤ zI (d : Int) ↔ 34 ≤ d := by rw [show (34 : Int32) = zI 34 from rfl, z_le (by omega) (by omega)]; omega
    by_cases c : 34 ≤ d
    · refine ⟨pI u 250 d 0, ⟨fun i h1 h2 => ?_, fun i h1 h2 => ?_, Fq_tr a3 (Fq_p _ ⟨rfl, hd⟩)⟩, ST_1 fun m => ?_⟩
      · rw [gI_pI, if_neg (by omega)]; exact a1 i h1 (by omega)
      · rw [gI_pI]
        by_cases hq : i = d
        · rw [if_pos ⟨rfl, hq⟩]
        · rw [if_neg (by omega)]; exact a2 i h1 (by omega)
      · show tX12_port_109 (lX12_port m) u (zI (d : Int)) = _ ∧ (_ → uX12_port_109 (qX12_port m) u (zI (d : Int)))
        unfold tX12_port_109 uX12_port_109
        rw [if_neg n1, if_pos (l34.mpr c), cj, e1]
        exact ⟨rfl, fun hh => ⟨fun hc => absurd hc n1, fun _ => ⟨fun _ => ⟨vi, hh⟩, fun hc => absurd (l34.mpr c) hc⟩⟩⟩
    · have n34 : ¬ 34 ≤ zI (d : Int) := fun hc => c (l34.mp hc)
      have e251 : gI u 251 d = gI t 251 d := a3.1 251 d (by omega)
      refine ⟨pI u 250 d (gI t 251 d), ⟨fun i h1 h2 => ?_, fun i h1 h2 => ?_, Fq_tr a3 (Fq_p _ ⟨rfl, hd⟩)⟩, ST_1 fun m => ?_⟩
      · rw [gI_pI]
        by_cases hq : i = d
        · rw [if_pos ⟨rfl, hq⟩, hq]
        · rw [if_neg (by omega)]; exact a1 i h1 (by omega)
      · omega
      · show tX12_port_109 (lX12_port m) u (zI (d : Int)) = _ ∧ (_ → uX12_port_109 (qX12_port m) u (zI (d : Int)))
        unfold tX12_port_109 uX12_port_109
        rw [if_neg n1, if_neg n34, cj, e1, e251]
        exact ⟨rfl, fun hh => ⟨fun hc => absurd hc n1, fun _ => ⟨fun hc => absurd hc n34, fun _ => ⟨by rw [z_in (by omega)]; omega, vi, hh⟩⟩⟩⟩) 787 0 t (by omega) ⟨fun i _ h => absurd h (by omega), fun i _ h => absurd h (by omega), Fq_rf _ _ _⟩
  have l787 : (787 : Int32) ≤ zI ((787 : Nat) : Int) := by decide
  have p1 : ST 1 (fun m => (lX12_port m).2.2.1 t1 (zI ((787 : Nat) : Int))) (fun m => (qX12_port m).2.2.1 t1 (zI ((787 : Nat) : Int))) (fun m => (lX12_port m).2.2.2 t1 (zI ((0 : Nat) : Int))) (fun m => (qX12_port m).2.2.2 t1 (zI ((0 : Nat) : Int))) := by
    refine ST_1 fun m => ?_
    show tX12_port_109 (lX12_port m) t1 (zI ((787 : Nat) : Int)) = _ ∧ (_ → uX12_port_109 (qX12_port m) t1 (zI ((787 : Nat) : Int)))
    unfold tX12_port_109 uX12_port_109
    rw [if_pos l787]
    exact ⟨rfl, fun hh => ⟨fun _ => hh, fun hc => absurd l787 hc⟩⟩
  obtain ⟨t2, ⟨j1, j2⟩, st2⟩ := ST_up (B := 1) 15 (fun (d : Nat) (u : SM) => (∀ i, i < d → gL u 253 i = gL t 253 (15 + i)) ∧ Fq (fun _ _ => False) (fun c i => c = 253 ∧ i < 15) t1 u) (fun d u m => (lX12_port m).2.2.2 u (zI (d : Int))) (fun d u m => (qX12_port m).2.2.2 u (zI (d : Int))) (fun d u hd ⟨a1, a2⟩ => by
    have n1 : ¬ 15 ≤ zI (d : Int) := by rw [show (15 : Int32) = zI 15 from rfl, z_le (by omega) (by omega)]; omega
    have cj : (zI (d : Int)).toNatClampNeg = d := by rw [z_cl (by omega)]; exact Int.toNat_natCast _
    have e1 : zI (d : Int) + 1 = zI ((d + 1 : Nat) : Int) := by rw [zl1, z_add]; congr 1
    have e15 : 15 + zI (d : Int) = zI ((15 + d : Nat) : Int) := by rw [show (15 : Int32) = zI 15 from rfl, z_add]; congr 1
    have c15 : (zI ((15 + d : Nat) : Int)).toNatClampNeg = 15 + d := by rw [z_cl (by omega)]; exact Int.toNat_natCast _
    have e253 : gL u 253 (15 + d) = gL t 253 (15 + d) := by rw [a2.2.1 253 _ (by omega), i3.2.1 253 _ (fun h => h)]
    refine ⟨pL u 253 d (gL t 253 (15 + d)), ⟨fun i hi => ?_, Fq_tr a2 (Fq_L _ ⟨rfl, hd⟩)⟩, ST_1 fun m => ?_⟩
    · rw [gL_pL]
      by_cases hq : i = d
      · rw [if_pos ⟨rfl, hq⟩, hq]
      · rw [if_neg (by omega)]; exact a1 i (by omega)
    · show tX12_port_146 (lX12_port m) u (zI (d : Int)) = _ ∧ (_ → uX12_port_146 (qX12_port m) u (zI (d : Int)))
      unfold tX12_port_146 uX12_port_146
      rw [if_neg n1, cj, e15, c15, e253, e1]
      exact ⟨rfl, fun hh _ => ⟨by rw [z_in (by omega)]; omega, by rw [z_in (by omega)]; omega, hh⟩⟩) 15 0 t1 (by omega) ⟨fun i h => absurd h (by omega), Fq_rf _ _ _⟩
  obtain ⟨t3, ht3⟩ : ∃ t3, t3 = pI (pI (pI t2 248 25 0) 248 22 (gI t 248 23 + 1)) 248 23 (gI t 248 23 + 1) := ⟨_, rfl⟩
  have f12 : Fq (fun c i => c = 250 ∧ i < 787) (fun c i => c = 253 ∧ i < 15) t t2 := Fq_tr (Fq_mo i3 (fun c i h => h) (fun _ _ h => h.elim)) (Fq_mo j2 (fun _ _ h => h.elim) (fun c i h => h))
  have l15 : (15 : Int32) ≤ zI ((15 : Nat) : Int) := by decide
  have x1 : gI (pI t2 248 25 0) 248 23 = gI t 248 23 := by rw [gI_pI, if_neg (by omega), f12.1 248 23 (by omega)]
  have x2 : gI (pI (pI t2 248 25 0) 248 22 (gI t 248 23 + 1)) 248 23 = gI t 248 23 := by rw [gI_pI, if_neg (by omega), x1]
  have x3 : gI t3 248 19 = gI t 248 19 := by rw [ht3, gI_pI, if_neg (by omega), gI_pI, if_neg (by omega), gI_pI, if_neg (by omega), f12.1 248 19 (by omega)]
  have p2 : ST 1 (fun m => (lX12_port m).2.2.2 t2 (zI ((15 : Nat) : Int))) (fun m => (qX12_port m).2.2.2 t2 (zI ((15 : Nat) : Int))) (fun _ => (gI t 248 19, t3)) (fun _ => True) := by
    refine ST_1 fun m => ?_
    show tX12_port_146 (lX12_port m) t2 (zI ((15 : Nat) : Int)) = _ ∧ (_ → uX12_port_146 (qX12_port m) t2 (zI ((15 : Nat) : Int)))
    unfold tX12_port_146 uX12_port_146
    rw [if_pos l15, x1, x2, ← ht3]
    dsimp only
    rw [x3]
    exact ⟨rfl, fun _ hc => absurd l15 hc⟩
  refine ⟨t3, ST_mono (ST_trans st1 (ST_trans p1 (ST_trans st2 p2))) (by omega), fun i hi => ?_, fun i h1 h2 => ?_, fun i hi => ?_, ?_, ?_, ?_, ?_⟩
  · rw [ht3, gI_pI, if_neg (by omega), gI_pI, if_neg (by omega), gI_pI, if_neg (by omega), j2.1 250 i (fun h => h)]; exact i1 i hi (by omega)
  · rw [ht3, gI_pI, if_neg (by omega), gI_pI, if_neg (by omega), gI_pI, if_neg (by omega), j2.1 250 i (fun h => h)]; exact i2 i h1 h2
  · rw [ht3, gL_pI, gL_pI, gL_pI]; exact j1 i hi
  · rw [ht3, gI_pI, if_neg (by omega), gI_pI, if_neg (by omega), gI_pI, if_pos ⟨rfl, rfl⟩]
  · rw [ht3, gI_pI, if_neg (by omega), gI_pI, if_pos ⟨rfl, rfl⟩]
  · rw [ht3, gI_pI, if_pos ⟨rfl, rfl⟩]
  · rw [ht3]
    exact Fq_tr (Fq_mo f12 (fun c i h => Or.inl h) (fun c i h => h)) (Fq_tr (Fq_p _ (by omega)) (Fq_tr (Fq_p _ (by omega)) (Fq_p _ (by omega))))
end
