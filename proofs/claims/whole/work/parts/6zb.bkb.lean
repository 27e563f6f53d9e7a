-- needs: 6za.bka
abbrev ByN (n c i : Nat) : Prop := YtI c i ∨ (27 ≤ c ∧ c ≤ 30 ∧ i = n)
abbrev BxN (n c i : Nat) : Prop := XtI c i ∨ (c = 252 ∧ 5 * n + 2 ≤ i ∧ i ≤ 5 * n + 5)
abbrev Bx2 (n c i : Nat) : Prop := XtI c i ∨ (c = 252 ∧ 5 * n + 2 ≤ i ∧ i ≤ 5 * n + 3)
section
variable {s T : SM} {N : Nat} {bt : Nat → Int} {nb nk p n : Nat}
/-- two bodies, on both sides -/
theorem rs_two (hN : N ≤ 640) (hn : n < 40) (h : BhX N bt nb nk p s T) (e25 : gI s 25 0 = zI (n : Int)) : ∃ s2, mX0_readTwoBodies s 25 5 = s2 ∧ rX0_readTwoBodies s 25 5 ∧ rX12_takesName T 0 (zI (nb : Int)) ∧ gI T 250 0 = zI (nb : Int) ∧ Fq (ByN n) TkL s s2 ∧ ((vX0_readTwoBodies s 25 5 = 0 ∧ vX12_takesName T 0 (zI (nb : Int)) = 0 ∧ Fq (Bx2 n) TxL T (mX12_takesName T 0 (zI (nb : Int))) ∧ ∃ f A, FtY s2 f A ∧ FtX (mX12_takesName T 0 (zI (nb : Int))) f A) ∨ ∃ t2, t2 = pI (mX12_takesName T 0 (zI (nb : Int))) 252 (5 * n + 2) (gI (mX12_takesName T 0 (zI (nb : Int))) 248 18) ∧ vX12_takesName T 0 (zI (nb : Int)) = 1 ∧ rX12_takesName t2 0 (zI (nb : Int)) ∧ gI t2 250 0 = zI (nb : Int) ∧ ((vX0_readTwoBodies s 25 5 = 0 ∧ vX12_takesName t2 0 (zI (nb : Int)) = 0 ∧ Fq (Bx2 n) TxL T (mX12_takesName t2 0 (zI (nb : Int))) ∧ ∃ f A, FtY s2 f A ∧ FtX (mX12_takesName t2 0 (zI (nb : Int))) f A) ∨ ∃ t4 q, ∃ B C : Int, t4 = pI (mX12_takesName t2 0 (zI (nb : Int))) 252 (5 * n + 3) (gI (mX12_takesName t2 0 (zI (nb : Int))) 248 18) ∧ vX12_takesName t2 0 (zI (nb : Int)) = 1 ∧ vX0_readTwoBodies s 25 5 = 1 ∧ p ≤ q ∧ BhX N bt nb nk q s2 t4 ∧ Fq (Bx2 n) TxL T t4 ∧ (0 ≤ B ∧ B < nb) ∧ (0 ≤ C ∧ C < nb) ∧ gI s2 27 n = zI B ∧ gI s2 28 n = zI C ∧ gI t4 252 (5 * n + 2) = zI B ∧ gI t4 252 (5 * n + 3) = zI C ∧ gI s2 3 2 = gI s 3 2 ∧ gI t4 248 15 = gI T 248 15)) := by
  obtain ⟨a1, a2, a3, a4, a5⟩ := bk_body hN h
  have cn : (zI (n : Int)).toNatClampNeg = n := by rw [z_cl (by omega)]; exact Int.toNat_natCast _
  have vn : vp_in (zI (n : Int)) 40 := by rw [z_in (by omega)]; omega
  obtain ⟨s1, hs1⟩ : ∃ s1, s1 = mX9_takeBody s 5 := ⟨_, rfl⟩
  obtain ⟨t1, ht1⟩ : ∃ t1, t1 = mX12_takesName T 0 (zI (nb : Int)) := ⟨_, rfl⟩
  rw [← hs1] at a3 a5
  rw [← ht1] at a4 a5 ⊢
  have e250 : gI T 250 0 = zI (nb : Int) := h.2.2.2.2.2.2.2.2.2.2.1
  have e251 : gI s1 25 0 = zI (n : Int) := by rw [a3.1 25 0 (by omega)]; exact e25
  have k10 : ¬ (1 : Int32) = 0 := by decide
  rcases a5 with ⟨b1, b2, b3, b4, q, x, b5, b6, b7, b8, b9⟩ | ⟨b1, b2, f, A, b3, b4⟩
  · obtain ⟨s2, hs2⟩ : ∃ s2, s2 = pI s1 27 n (zI x) := ⟨_, rfl⟩
    obtain ⟨t2, ht2⟩ : ∃ t2, t2 = pI t1 252 (5 * n + 2) (gI t1 248 18) := ⟨_, rfl⟩
    have g2 : Fq (fun c i => c = 27 ∧ i = n) (fun _ _ => False) s1 s2 := by rw [hs2]; exact Fq_p _ ⟨rfl, rfl⟩
    have g2' : Fq (fun c i => c = 252 ∧ i = 5 * n + 2) (fun _ _ => False) t1 t2 := by rw [ht2]; exact Fq_p _ ⟨rfl, rfl⟩
    have h2 : BhX N bt nb nk q s2 t2 := BhX_st b9 g2 g2' (fun c i hc => by omega) (fun c i hc => by omega)
    obtain ⟨c1, c2, c3, c4, c5⟩ := bk_body hN h2
    obtain ⟨s3, hs3⟩ : ∃ s3, s3 = mX9_takeBody s2 5 := ⟨_, rfl⟩
    obtain ⟨t3, ht3⟩ : ∃ t3, t3 = mX12_takesName t2 0 (zI (nb : Int)) := ⟨_, rfl⟩
    rw [← hs3] at c3 c5
    rw [← ht3] at c4 c5
    have e253 : gI s3 25 0 = zI (n : Int) := by rw [c3.1 25 0 (by omega), g2.1 25 0 (by omega)]; exact e251
    have hs2q : pI s1 (25 + 2) n (zI x) = s2 := hs2.symm
    have fy3 : Fq (ByN n) TkL s s3 := Fq_tr (Fq_mo a3 (fun c i hc => Or.inl hc) (fun c i hc => hc)) (Fq_tr (Fq_mo g2 (fun c i hc => by omega) (fun _ _ h => h.elim)) (Fq_mo c3 (fun c i hc => Or.inl hc) (fun c i hc => hc)))
    have fx3 : Fq (Bx2 n) TxL T t3 := Fq_tr (Fq_mo a4 (fun c i hc => Or.inl hc) (fun c i hc => hc)) (Fq_tr (Fq_mo g2' (fun c i hc => by omega) (fun _ _ h => h.elim)) (Fq_mo c4 (fun c i hc => Or.inl hc) (fun c i hc => hc)))
    have RY : rX0_readTwoBodies s 25 5 := by
      unfold rX0_readTwoBodies
      rw [← hs1, e251, cn, b7, hs2q, ← hs3]
      exact ⟨a1, fun _ => ⟨vn, c1, fun s3' h3 _ => by rw [h3, e253]; exact vn⟩⟩
    have n1 : ¬ vX9_takeBody s 5 = 0 := by rw [b1]; exact k10
    rcases c5 with ⟨d1, d2, d3, d4, q2, y, d5, d6, d7, d8, d9⟩ | ⟨d1, d2, f, A, d3, d4⟩
    · obtain ⟨s4, hs4⟩ : ∃ s4, s4 = pI s3 28 n (zI y) := ⟨_, rfl⟩
      obtain ⟨t4, ht4⟩ : ∃ t4, t4 = pI t3 252 (5 * n + 3) (gI t3 248 18) := ⟨_, rfl⟩
      have g4 : Fq (fun c i => c = 28 ∧ i = n) (fun _ _ => False) s3 s4 := by rw [hs4]; exact Fq_p _ ⟨rfl, rfl⟩
      have g4' : Fq (fun c i => c = 252 ∧ i = 5 * n + 3) (fun _ _ => False) t3 t4 := by rw [ht4]; exact Fq_p _ ⟨rfl, rfl⟩
      have hs4q : pI s3 (25 + 3) n (zI y) = s4 := hs4.symm
      have n2 : ¬ vX9_takeBody s2 5 = 0 := by rw [d1]; exact k10
      have EM : mX0_readTwoBodies s 25 5 = s4 := by
        unfold mX0_readTwoBodies
        rw [if_neg n1, ← hs1, e251, cn, b7, hs2q, ← hs3]
        dsimp only
        rw [if_neg n2, e253, cn, d7, hs4q]
      have EV : vX0_readTwoBodies s 25 5 = 1 := by
        unfold vX0_readTwoBodies
        rw [if_neg n1, ← hs1, e251, cn, b7, hs2q, if_neg n2]
      refine ⟨s4, EM, RY, a2, e250, Fq_tr fy3 (Fq_mo g4 (fun c i hc => by omega) (fun _ _ h => h.elim)), Or.inr ⟨t2, ht2, b2, c2, by rw [g2'.1 250 0 (by omega), a4.1 250 0 (by omega)]; exact e250, Or.inr ⟨t4, q2, x, y, by rw [← ht3]; exact ht4, d2, EV, by omega, BhX_st d9 g4 g4' (fun c i hc => by omega) (fun c i hc => by omega), Fq_tr fx3 (Fq_mo g4' (fun c i hc => by omega) (fun _ _ h => h.elim)), b6, d6, ?_, ?_, ?_, ?_, ?_, ?_⟩⟩⟩
      · rw [g4.1 27 n (by omega), c3.1 27 n (by omega), hs2, gI_pI, if_pos ⟨rfl, rfl⟩]
      · rw [hs4, gI_pI, if_pos ⟨rfl, rfl⟩]
      · rw [g4'.1 252 _ (by omega), c4.1 252 _ (by omega), ht2, gI_pI, if_pos ⟨rfl, rfl⟩, b8]
      · rw [ht4, gI_pI, if_pos ⟨rfl, rfl⟩, d8]
      · rw [g4.1 3 2 (by omega), d3, g2.1 3 2 (by omega), b3]
      · rw [g4'.1 248 15 (by omega), d4, g2'.1 248 15 (by omega), b4]
    · have EM : mX0_readTwoBodies s 25 5 = s3 := by
        unfold mX0_readTwoBodies
        rw [if_neg n1, ← hs1, e251, cn, b7, hs2q, ← hs3]
        dsimp only
        rw [if_pos d1]
      have EV : vX0_readTwoBodies s 25 5 = 0 := by
        unfold vX0_readTwoBodies
        rw [if_neg n1, ← hs1, e251, cn, b7, hs2q, if_pos d1]
      exact ⟨s3, EM, RY, a2, e250, fy3, Or.inr ⟨t2, ht2, b2, c2, by rw [g2'.1 250 0 (by omega), a4.1 250 0 (by omega)]; exact e250, Or.inl ⟨EV, d2, by rw [← ht3]; exact fx3, f, A, d3, by rw [← ht3]; exact d4⟩⟩⟩
  · have EM : mX0_readTwoBodies s 25 5 = s1 := by
      unfold mX0_readTwoBodies
      rw [if_pos b1, ← hs1]
    have EV : vX0_readTwoBodies s 25 5 = 0 := by
      unfold vX0_readTwoBodies
      rw [if_pos b1]
    have RY : rX0_readTwoBodies s 25 5 := by
      unfold rX0_readTwoBodies
      exact ⟨a1, fun hc => absurd b1 hc⟩
    exact ⟨s1, EM, RY, a2, e250, Fq_mo a3 (fun c i hc => Or.inl hc) (fun c i hc => hc), Or.inl ⟨EV, b2, Fq_mo a4 (fun c i hc => Or.inl hc) (fun c i hc => hc), f, A, b3, b4⟩⟩
end
