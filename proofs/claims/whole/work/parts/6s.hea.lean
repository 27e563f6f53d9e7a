-- needs: 6r.rdl
abbrev PvI (c i : Nat) : Prop := PwI c i ∨ (c = 248 ∧ (i = 0 ∨ i = 2 ∨ i = 3 ∨ i = 5))
section
variable {s t : SM} {N : Nat} {bt : Nat → Int}
theorem y_portHead (s : SM) : Fq PzI PyL s (mX9_begin (mX6_forget s 12)) ∧ gI (mX9_begin (mX6_forget s 12)) 12 6 = zI ((0 : Nat) : Int) ∧ gI (mX9_begin (mX6_forget s 12)) 12 7 = zI ((0 : Nat) : Int) ∧ gI (mX9_begin (mX6_forget s 12)) 12 8 = zI 1 ∧ gI (mX9_begin (mX6_forget s 12)) 12 9 = zI 0 ∧ gI (mX9_begin (mX6_forget s 12)) 12 10 = 0 ∧ gI (mX9_begin (mX6_forget s 12)) 12 12 = 0 ∧ gI (mX9_begin (mX6_forget s 12)) 12 13 = 0 ∧ gI (mX9_begin (mX6_forget s 12)) 3 7 = zI ((0 : Nat) : Int) ∧ FtY (mX9_begin (mX6_forget s 12)) 0 0 := by
  unfold mX9_begin mX6_forget FtY
  dsimp only
  refine ⟨?_, ?_, ?_, ?_, ?_, ?_, ?_, ?_, ?_, ?_, ?_⟩
  · exact Fq_tr (Fq_p _ (by omega)) (Fq_tr (Fq_p _ (by omega)) (Fq_tr (Fq_p _ (by omega)) (Fq_tr (Fq_p _ (by omega)) (Fq_tr (Fq_p _ (by omega)) (Fq_tr (Fq_p _ (by omega)) (Fq_tr (Fq_p _ (by omega)) (Fq_tr (Fq_p _ (by omega)) (Fq_tr (Fq_p _ (by omega)) (Fq_p _ (by omega))))))))))
  all_goals (simp only [gI_pI]; rfl)
theorem x_portHead (hp : TpX t N bt) (hN : N ≤ 640) : ∃ t1, ST 36 (fun m => (lX12_port m).1 (pI (pI (pI (pI (mX12_taken (pI t 248 0 0) 600) 248 15 0) 248 19 0) 248 20 0) 248 21 0) 0) (fun m => (qX12_port m).1 (pI (pI (pI (pI (mX12_taken (pI t 248 0 0) 600) 248 15 0) 248 19 0) 248 20 0) 248 21 0) 0) (fun m => (lX12_port m).2.1 t1 34) (fun m => (qX12_port m).2.1 t1 34) ∧ TkS t1 N bt ∧ TkX t1 N (tokF N bt 0) ∧ Fq PvI PxL t t1 ∧ gI t1 251 0 = zI ((0 : Nat) : Int) ∧ gI t1 251 1 = zI ((0 : Nat) : Int) ∧ gI t1 251 2 = zI 1 ∧ gI t1 251 3 = zI 0 ∧ gI t1 248 19 = 0 ∧ gI t1 248 20 = 0 ∧ gI t1 248 21 = 0 ∧ gI t1 248 2 = 0 ∧ gI t1 248 15 = 0 ∧ gI t1 248 0 = 0 := by
  obtain ⟨t0, ht0⟩ : ∃ t0, t0 = pI (pI (pI (pI (mX12_taken (pI t 248 0 0) 600) 248 15 0) 248 19 0) 248 20 0) 248 21 0 := ⟨_, rfl⟩
  rw [← ht0]
  have f0 : Fq (fun c i => c = 248 ∧ (i = 0 ∨ i = 2 ∨ i = 3 ∨ i = 4 ∨ i = 5 ∨ i = 15 ∨ i = 19 ∨ i = 20 ∨ i = 21)) (fun _ _ => False) t t0 := by
    rw [ht0]
    unfold mX12_taken
    exact Fq_tr (Fq_p _ (by omega)) (Fq_tr (Fq_p _ (by omega)) (Fq_tr (Fq_p _ (by omega)) (Fq_tr (Fq_p _ (by omega)) (Fq_tr (Fq_p _ (by omega)) (Fq_tr (Fq_p _ (by omega)) (Fq_tr (Fq_p _ (by omega)) (Fq_tr (Fq_p _ (by omega)) (Fq_p _ (by omega)))))))))
  have v : gI t0 248 0 = 0 ∧ gI t0 248 2 = 0 ∧ gI t0 248 3 = zI (N : Int) ∧ gI t0 248 4 = zI ((0 : Nat) : Int) ∧ gI t0 248 5 = zI 600 ∧ gI t0 248 15 = 0 ∧ gI t0 248 19 = 0 ∧ gI t0 248 20 = 0 ∧ gI t0 248 21 = 0 := by
    rw [ht0]
    unfold mX12_taken
    refine ⟨?_, ?_, ?_, ?_, ?_, ?_, ?_, ?_, ?_⟩
    all_goals simp only [gI_pI]
    all_goals first
    | rfl
    | exact hp.1
  obtain ⟨v0, v2, v3, v4, v5, v15, v19, v20, v21⟩ := v
  obtain ⟨t2, ⟨i1, i2⟩, st⟩ := ST_up (B := 1) 34 (fun (d : Nat) (u : SM) => (∀ i, i < d → gI u 251 i = 0) ∧ Fq (fun c i => c = 251) (fun _ _ => False) t0 u) (fun d u m => (lX12_port m).1 u (zI (d : Int))) (fun d u m => (qX12_port m).1 u (zI (d : Int))) (fun d u hd ⟨a1, a2⟩ => by
    have n1 : ¬ 34 ≤ zI (d : Int) := by rw [show (34 : Int32) = zI 34 from rfl, z_le (by omega) (by omega)]; omega
    have cj : (zI (d : Int)).toNatClampNeg = d := by rw [z_cl (by omega)]; exact Int.toNat_natCast _
    have e1 : zI (d : Int) + 1 = zI ((d + 1 : Nat) : Int) := by rw [zl1, z_add]; congr 1
    refine ⟨pI u 251 d 0, ⟨fun i hi => ?_, Fq_tr a2 (Fq_p _ rfl)⟩, ST_1 fun m => ?_⟩
    · rw [gI_pI]
      by_cases c : i = d
      · rw [if_pos ⟨rfl, c⟩]
      · rw [if_neg (by omega)]; exact a1 i (by omega)
    · show tX12_port_34 (lX12_port m) u (zI (d : Int)) = _ ∧ (_ → uX12_port_34 (qX12_port m) u (zI (d : Int)))
      unfold tX12_port_34 uX12_port_34
      rw [if_neg n1, cj, e1]
      exact ⟨rfl, fun hh => ⟨fun hc => absurd hc n1, fun _ => ⟨by rw [z_in (by omega)]; omega, hh⟩⟩⟩) 34 0 t0 (by omega) ⟨fun i hi => absurd hi (by omega), Fq_rf _ _ _⟩
  obtain ⟨t3, ht3⟩ : ∃ t3, t3 = pI t2 251 2 1 := ⟨_, rfl⟩
  have f3 : Fq (fun c i => c = 251) (fun _ _ => False) t0 t3 := by rw [ht3]; exact Fq_tr i2 (Fq_p _ rfl)
  have hs3 : TkS t3 N bt := ⟨by rw [f3.1 248 3 (by omega)]; exact v3, by rw [f3.1 248 5 (by omega)]; exact v5, fun i hi => by rw [f3.1 249 i (by omega), f0.1 249 i (by omega)]; exact hp.2 i hi⟩
  obtain ⟨t1, x1, x2, x3, x4⟩ := x_next hs3 hN (Nat.zero_le _) (by rw [f3.1 248 4 (by omega)]; exact v4)
  have l34 : (34 : Int32) ≤ zI ((34 : Nat) : Int) := by decide
  have p1 : ST 1 (fun m => (lX12_port m).1 t2 (zI ((34 : Nat) : Int))) (fun m => (qX12_port m).1 t2 (zI ((34 : Nat) : Int))) (fun m => (lX12_port m).2.1 t1 34) (fun m => (qX12_port m).2.1 t1 34) := by
    refine ST_1 fun m => ?_
    show tX12_port_34 (lX12_port m) t2 (zI ((34 : Nat) : Int)) = _ ∧ (_ → uX12_port_34 (qX12_port m) t2 (zI ((34 : Nat) : Int)))
    unfold tX12_port_34 uX12_port_34
    have c2 : ((2 : Int32)).toNatClampNeg = 2 := rfl
    rw [if_pos l34, c2, ← ht3, x1]
    exact ⟨rfl, fun hh => ⟨fun _ => ⟨x2, hh⟩, fun hc => absurd l34 hc⟩⟩
  refine ⟨t1, ST_mono (ST_trans st p1) (by omega), TkS_fq hs3 x3 (fun c i hc => by omega), x4, ?_, ?_, ?_, ?_, ?_, ?_, ?_, ?_, ?_, ?_, ?_⟩
  · exact Fq_tr (Fq_mo f0 (fun c i hc => by omega) (fun _ _ h => h.elim)) (Fq_tr (Fq_mo f3 (fun c i hc => by omega) (fun _ _ h => h.elim)) (Fq_mo x3 (fun c i hc => by omega) (fun c i hc => Or.inl hc)))
  · rw [x3.1 251 0 (by omega), ht3, gI_pI, if_neg (by omega), i1 0 (by omega)]; rfl
  · rw [x3.1 251 1 (by omega), ht3, gI_pI, if_neg (by omega), i1 1 (by omega)]; rfl
  · rw [x3.1 251 2 (by omega), ht3, gI_pI, if_pos ⟨rfl, rfl⟩]; rfl
  · rw [x3.1 251 3 (by omega), ht3, gI_pI, if_neg (by omega), i1 3 (by omega)]; rfl
  · rw [x3.1 248 19 (by omega), f3.1 248 19 (by omega), v19]
  · rw [x3.1 248 20 (by omega), f3.1 248 20 (by omega), v20]
  · rw [x3.1 248 21 (by omega), f3.1 248 21 (by omega), v21]
  · rw [x3.1 248 2 (by omega), f3.1 248 2 (by omega), v2]
  · rw [x3.1 248 15 (by omega), f3.1 248 15 (by omega), v15]
  · rw [x3.1 248 0 (by omega), f3.1 248 0 (by omega), v0]
end
