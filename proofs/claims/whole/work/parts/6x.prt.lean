-- needs: 6v.cop
abbrev PoI (c i : Nat) : Prop := (c = 250 ∧ i < 787) ∨ c = 251 ∨ (c = 248 ∧ i ≤ 25)
abbrev PoL (c _i : Nat) : Prop := c = 248 ∨ c = 253
theorem Pv_Po {c i : Nat} (h : PvI c i) : PoI c i := by omega
theorem PxL_Po {c i : Nat} (h : PxL c i) : PoL c i := by omega
section
variable {s t : SM} {N : Nat} {bt : Nat → Int}
/-- a port's text on both sides: read to its end, or refused alike -/
theorem pt_read (hN : N ≤ 640) (hy : TpY s N bt) (hx : TpX t N bt) (hr : ∀ i, i < 17 → gL t 254 i = WV i) : ∃ s' t', mX6_readFrom s 12 = s' ∧ rX6_readFrom s 12 ∧ rX12_port t ∧ mX12_port t = t' ∧ Fq PzI PyL s s' ∧ Fq PoI PoL t t' ∧ gI t' 248 2 = 0 ∧ ((vX6_readFrom s 12 = 1 ∧ vX12_port t = gI s' 12 10 ∧ (∃ nb nk t1, BdR s' t1 nb ∧ KiR s' t1 nk ∧ LiR s' t1 ∧ (∀ i, i < 34 → gI t' 250 i = gI t1 251 i) ∧ (∀ i, 34 ≤ i → i < 787 → gI t' 250 i = 0) ∧ (∀ i, i < 15 → gL t' 253 i = gL t1 253 (15 + i))) ∧ gI t' 248 25 = 0 ∧ gI t' 248 22 = gI t 248 23 + 1 ∧ gI t' 248 23 = gI t 248 23 + 1 ∧ gI t' 248 15 = 0 ∧ gI s' 3 2 = 0) ∨ (vX6_readFrom s 12 = 0 ∧ Fq PvI PxL t t' ∧ ∃ f A, FtY s' f A ∧ FtX t' f A ∧ vX12_port t = -1 - zI (A : Int))) := by
  obtain ⟨f0, a6, a7, a8, a9, a10, a12, a13, a37, aF⟩ := y_portHead s
  obtain ⟨s0, hs0⟩ : ∃ s0, s0 = mX9_begin (mX6_forget s 12) := ⟨_, rfl⟩
  rw [← hs0] at f0 a6 a7 a8 a9 a10 a12 a13 a37 aF
  obtain ⟨t1, st1, b1, b2, b3, c0, c1, c2, c3, c19, c20, c21, c2', c15, c00⟩ := x_portHead hx hN
  have hy0 : TpY s0 N bt := TpY_fq hy f0 (fun c i hc => by omega)
  have hr1 : ∀ i, i < 17 → gL t1 254 i = WV i := fun i hi => by rw [b3.2.1 254 i (by omega)]; exact hr i hi
  obtain ⟨s', t2, d1, d2, d3⟩ := rd_loop hN 600 0 s0 t1 0 0 0 (by omega) (by omega) (by omega) hy0 b1 hr1 a37 b2 ⟨by omega, a6, c0, fun b hb => absurd hb (by omega)⟩ ⟨by omega, a7, c1, fun b hb => absurd hb (by omega)⟩ ⟨⟨1, by omega, a8, c2⟩, ⟨0, by omega, a9, c3⟩, Or.inl ⟨a12, c20⟩, Or.inl ⟨a13, c21⟩⟩ (by rw [a10, c19])
  have f1 : Fq PzI PyL s s' := Fq_tr f0 d1
  have f2 : Fq PvI PxL t t2 := Fq_tr b3 (Fq_mo d2 (fun c i hc => Or.inl hc) (fun c i hc => hc))
  have z0 : zI ((0 : Nat) : Int) = 0 := rfl
  have g2 : gI t2 248 2 = 0 := by rw [d2.1 248 2 (by omega)]; exact c2'
  rw [z0] at d3
  rcases d3 with ⟨e1, e2, ⟨nb, nk, m1, m2, m3⟩, e4, e5, e6⟩ | ⟨f, A, e1, e2, e3, e4⟩
  · obtain ⟨t3, st3, n1, n2, n3, n4, n5, n6, n7⟩ := x_portTail t2
    obtain ⟨EY, RY⟩ := ST_fu e1 (by omega)
    obtain ⟨EX, RX⟩ := ST_fu (ST_trans st1 (ST_trans e2 st3)) (by omega)
    have EY' : fX6_readFrom s 12 = (1, s') := by unfold fX6_readFrom; rw [← hs0]; exact EY
    have EX' : fX12_port t = (gI t2 248 19, t3) := EX
    refine ⟨s', t3, by unfold mX6_readFrom; rw [EY'], by unfold rX6_readFrom; rw [← hs0]; exact RY, ?_, by unfold mX12_port; rw [EX'], f1, Fq_tr (Fq_mo f2 (fun _ _ hc => Pv_Po hc) (fun _ _ hc => PxL_Po hc)) (Fq_mo n7 (fun c i hc => by omega) (fun c i hc => by omega)), ?_, Or.inl ⟨by unfold vX6_readFrom; rw [EY'], ?_, ⟨nb, nk, t2, m1, m2, m3, n1, n2, n3⟩, n4, ?_, ?_, ?_, ?_⟩⟩
    · unfold rX12_port
      intro s1 h1
      rw [h1]
      exact RX
    · rw [n7.1 248 2 (by omega)]; exact g2
    · unfold vX12_port; rw [EX', e4]
    · rw [n5, f2.1 248 23 (by omega)]
    · rw [n6, f2.1 248 23 (by omega)]
    · rw [n7.1 248 15 (by omega), e6, c15]
    · rw [e5, aF.1]; rfl
  · obtain ⟨EY, RY⟩ := ST_fu e1 (by omega)
    obtain ⟨EX, RX⟩ := ST_fu (ST_trans st1 e2) (by omega)
    have EY' : fX6_readFrom s 12 = (0, s') := by unfold fX6_readFrom; rw [← hs0]; exact EY
    have EX' : fX12_port t = (-1 - gI t2 248 16, t2) := EX
    refine ⟨s', t2, by unfold mX6_readFrom; rw [EY'], by unfold rX6_readFrom; rw [← hs0]; exact RY, ?_, by unfold mX12_port; rw [EX'], f1, Fq_mo f2 (fun _ _ hc => Pv_Po hc) (fun _ _ hc => PxL_Po hc), g2, Or.inr ⟨by unfold vX6_readFrom; rw [EY'], f2, f, A, e3, e4, ?_⟩⟩
    · unfold rX12_port
      intro s1 h1
      rw [h1]
      exact RX
    · unfold vX12_port; rw [EX', e4.2]
abbrev YpI (c i : Nat) : Prop := (c = 2 ∧ 18 ≤ i ∧ i ≤ 19) ∨ c = 3 ∨ (5 ≤ c ∧ c ≤ 19) ∨ (31 ≤ c ∧ c ≤ 39) ∨ (c = 55 ∧ i = 2)
abbrev YpL (c _i : Nat) : Prop := 3 ≤ c ∧ c ≤ 16
theorem Pz_Yp {c i : Nat} (h : PzI c i) : YpI c i := by omega
theorem Cp_Yp {c i : Nat} (h : CpI c i) : YpI c i := by omega
theorem PyL_Yp {c i : Nat} (h : PyL c i) : YpL c i := by omega
theorem CpL_Yp {c i : Nat} (h : CpL c i) : YpL c i := by omega
/-- the class's port once its text is read -/
theorem y_port1 {s' : SM} (hm : mX6_readFrom s 12 = s') (hv : vX6_readFrom s 12 = 1) (hr : rX6_readFrom s 12) (hf : Fq PzI PyL s s') : ∃ s6, mX11_port s = s6 ∧ rX11_port s ∧ vX11_port s = gI s' 12 10 ∧ (∀ i, 6 ≤ i → i ≤ 10 → gI s6 5 i = gI s' 12 i) ∧ gI s6 5 11 = gI s 2 19 + 1 ∧ gI s6 2 19 = gI s 2 19 + 1 ∧ gI s6 2 18 = gI s' 3 2 ∧ gI s6 3 1 = 0 ∧ (∀ b, b < 9 → gI s6 7 b = gI s' 14 b ∧ gI s6 8 b = gI s' 15 b ∧ gL s6 6 b = gL s' 13 b ∧ gI s6 38 b = gI s' 14 b ∧ gI s6 39 b = 0) ∧ (∀ k, k < 6 → gI s6 10 k = gI s' 17 k ∧ gI s6 11 k = gI s' 18 k ∧ gL s6 9 k = gL s' 16 k) ∧ gI s6 19 0 = 0 ∧ gI s6 31 9 = 0 ∧ gI s6 31 10 = 0 ∧ gI s6 31 14 = 0 ∧ gI s6 55 2 = 0 ∧ Fq YpI YpL s s6 := by
  have e19 : gI s' 2 19 = gI s 2 19 := hf.1 2 19 (by omega)
  obtain ⟨s1, hs1⟩ : ∃ s1, s1 = pI (pI (pI s' 2 18 (gI s' 3 2)) 3 1 0) 2 19 (gI s 2 19 + 1) := ⟨_, rfl⟩
  have x19 : gI (pI (pI s' 2 18 (gI s' 3 2)) 3 1 0) 2 19 = gI s 2 19 := by rw [gI_pI, if_neg (by omega), gI_pI, if_neg (by omega), e19]
  have y19 : gI s1 2 19 = gI s 2 19 + 1 := by rw [hs1, gI_pI, if_pos ⟨rfl, rfl⟩]
  obtain ⟨s2, hs2⟩ : ∃ s2, s2 = pI s1 12 11 (gI s 2 19 + 1) := ⟨_, rfl⟩
  have f2 : Fq (fun c i => (c = 2 ∧ (i = 18 ∨ i = 19)) ∨ (c = 3 ∧ i = 1) ∨ (c = 12 ∧ i = 11)) (fun _ _ => False) s' s2 := by rw [hs2, hs1]; exact Fq_tr (Fq_p _ (by omega)) (Fq_tr (Fq_p _ (by omega)) (Fq_tr (Fq_p _ (by omega)) (Fq_p _ (by omega))))
  obtain ⟨p1, p2, p3, p4⟩ := y_portCopy s2
  obtain ⟨s3, hs3⟩ : ∃ s3, s3 = mX6_copyFrom s2 5 12 := ⟨_, rfl⟩
  rw [← hs3] at p1 p2 p3 p4
  obtain ⟨s4, hs4⟩ : ∃ s4, s4 = pI s3 19 0 0 := ⟨_, rfl⟩
  have f4 : Fq (fun c i => c = 19 ∧ i = 0) (fun _ _ => False) s3 s4 := by rw [hs4]; exact Fq_p _ ⟨rfl, rfl⟩
  obtain ⟨s5, q1, q2, q3, q4, q5, q6, q7⟩ := y_begin s4
  have f5 : Fq (fun c i => (c = 31 ∧ (i = 9 ∨ i = 10 ∨ i = 14)) ∨ c = 38 ∨ c = 39) (fun _ _ => False) s4 s5 := Fq_fp q7
  obtain ⟨s6, hs6⟩ : ∃ s6, s6 = pI s5 55 2 0 := ⟨_, rfl⟩
  have f6 : Fq (fun c i => c = 55 ∧ i = 2) (fun _ _ => False) s5 s6 := by rw [hs6]; exact Fq_p _ ⟨rfl, rfl⟩
  have n0 : ¬ vX6_readFrom s 12 = 0 := by rw [hv]; decide
  have EM : mX11_port s = s6 := by
    unfold mX11_port
    rw [if_neg n0, hm, x19, ← hs1]
    dsimp only
    rw [y19, ← hs2, ← hs3, ← hs4, q1]
    exact hs6.symm
  have a3 : ∀ c i, ¬ ((c = 19 ∧ i = 0) ∨ (c = 31 ∧ (i = 9 ∨ i = 10 ∨ i = 14)) ∨ c = 38 ∨ c = 39 ∨ (c = 55 ∧ i = 2)) → gI s6 c i = gI s3 c i := fun c i hc => by
    rw [f6.1 c i (by omega), f5.1 c i (by omega), f4.1 c i (by omega)]
  have l3 : ∀ c i, gL s6 c i = gL s3 c i := fun c i => by rw [f6.2.1 c i (fun h => h), f5.2.1 c i (fun h => h), f4.2.1 c i (fun h => h)]
  have e10 : gI s6 5 10 = gI s' 12 10 := by rw [a3 5 10 (by omega), p1 10 (by omega) (by omega), f2.1 12 10 (by omega)]
  refine ⟨s6, EM, ?_, ?_, fun i h1 h2 => ?_, ?_, ?_, ?_, ?_, fun b hb => ⟨?_, ?_, ?_, ?_, ?_⟩, fun k hk => ⟨?_, ?_, ?_⟩, ?_, ?_, ?_, ?_, ?_, ?_⟩
  · unfold rX11_port
    refine ⟨hr, fun _ s1' h1 => ?_⟩
    rw [h1, hm, x19, ← hs1, y19, ← hs2, ← hs3, ← hs4]
    exact q2
  · unfold vX11_port
    rw [if_neg n0, hm, x19, ← hs1]
    dsimp only
    rw [y19, ← hs2, ← hs3, ← hs4, q1]
    have : mX2_forget s5 = s6 := hs6.symm
    rw [this]
    exact e10
  · rw [a3 5 i (by omega), p1 i h1 (by omega), f2.1 12 i (by omega)]
  · rw [a3 5 11 (by omega), p1 11 (by omega) (by omega), hs2, gI_pI, if_pos ⟨rfl, rfl⟩]
  · rw [a3 2 19 (by omega), p4.1 2 19 (by omega), hs2, gI_pI, if_neg (by omega), y19]
  · rw [a3 2 18 (by omega), p4.1 2 18 (by omega), hs2, gI_pI, if_neg (by omega), hs1, gI_pI, if_neg (by omega), gI_pI, if_neg (by omega), gI_pI, if_pos ⟨rfl, rfl⟩]
  · rw [a3 3 1 (by omega), p4.1 3 1 (by omega), hs2, gI_pI, if_neg (by omega), hs1, gI_pI, if_neg (by omega), gI_pI, if_pos ⟨rfl, rfl⟩]
  · rw [a3 7 b (by omega), (p2 b hb).1, f2.1 14 b (by omega)]
  · rw [a3 8 b (by omega), (p2 b hb).2.1, f2.1 15 b (by omega)]
  · rw [l3 6 b, (p2 b hb).2.2, f2.2.1 13 b (fun h => h)]
  · rw [f6.1 38 b (by omega), (q6 b hb).1, f4.1 7 b (by omega), (p2 b hb).1, f2.1 14 b (by omega)]
  · rw [f6.1 39 b (by omega), (q6 b hb).2]
  · rw [a3 10 k (by omega), (p3 k hk).1, f2.1 17 k (by omega)]
  · rw [a3 11 k (by omega), (p3 k hk).2.1, f2.1 18 k (by omega)]
  · rw [l3 9 k, (p3 k hk).2.2, f2.2.1 16 k (fun h => h)]
  · rw [f6.1 19 0 (by omega), f5.1 19 0 (by omega), hs4, gI_pI, if_pos ⟨rfl, rfl⟩]
  · rw [f6.1 31 9 (by omega)]; exact q3
  · rw [f6.1 31 10 (by omega)]; exact q4
  · rw [f6.1 31 14 (by omega)]; exact q5
  · rw [hs6, gI_pI, if_pos ⟨rfl, rfl⟩]
  · exact Fq_tr (Fq_mo hf (fun _ _ hc => Pz_Yp hc) (fun _ _ hc => PyL_Yp hc)) (Fq_tr (Fq_mo f2 (fun c i hc => by omega) (fun _ _ h => h.elim)) (Fq_tr (Fq_mo p4 (fun _ _ hc => Cp_Yp hc) (fun _ _ hc => CpL_Yp hc)) (Fq_tr (Fq_mo f4 (fun c i hc => by omega) (fun _ _ h => h.elim)) (Fq_tr (Fq_mo f5 (fun c i hc => by omega) (fun _ _ h => h.elim)) (Fq_mo f6 (fun c i hc => by omega) (fun _ _ h => h.elim))))))
end
