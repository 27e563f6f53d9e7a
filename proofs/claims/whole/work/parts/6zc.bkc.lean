-- needs: 6zb.bkb
def LnN (s : SM) (i : Nat) (A B C D E : Int) : Prop := (A = 0 → gI s 27 i = zI B ∧ gI s 28 i = zI C ∧ gI s 29 i = zI D ∧ gI s 30 i = zI E) ∧ (A = 1 → gI s 27 i = zI B) ∧ (A = 2 → gI s 27 i = zI B ∧ gI s 28 i = zI C) ∧ (A = 4 → gI s 27 i = zI B ∧ gI s 28 i = zI C)
def LnP (nb nk : Nat) (A B C D E : Int) : Prop := (0 ≤ A ∧ A ≤ 5) ∧ (A = 0 → (0 ≤ B ∧ B < nb) ∧ (0 ≤ C ∧ C < nb) ∧ (1 ≤ D ∧ D ≤ 99) ∧ (0 ≤ E ∧ E < nk)) ∧ (A = 1 → 0 ≤ B ∧ B ≤ 59) ∧ (A = 2 → (0 ≤ B ∧ B ≤ 59) ∧ (C = 0 ∨ C = 1)) ∧ (A = 4 → (0 ≤ B ∧ B < nb) ∧ (0 ≤ C ∧ C < nb))
def LnR4 (t : SM) (n : Nat) (B C D E : Int) : Prop := gI t 252 (5 * n + 2) = zI B ∧ gI t 252 (5 * n + 3) = zI C ∧ gI t 252 (5 * n + 4) = zI D ∧ gI t 252 (5 * n + 5) = zI E
/-- the rest of a line, on both sides -/
def RsT (N : Nat) (bt : Nat → Int) (nb nk n : Nat) (A : Int) (p : Nat) (s s2 : SM) (v : Int32) (T t1 : SM) (v1 : Int32) : Prop := Fq (ByN n) TkL s s2 ∧ Fq (BxN n) TxL T t1 ∧ ((v = 1 ∧ v1 = 1 ∧ gI s2 3 2 = gI s 3 2 ∧ gI t1 248 15 = gI T 248 15 ∧ ∃ q, ∃ B C D E : Int, p ≤ q ∧ BhX N bt nb nk q s2 t1 ∧ LnP nb nk A B C D E ∧ LnN s2 n A B C D E ∧ LnR4 t1 n B C D E) ∨ (v = 0 ∧ v1 = 0 ∧ ∃ f A', FtY s2 f A' ∧ FtX t1 f A'))
section
variable {s t T : SM} {N : Nat} {bt : Nat → Int} {nb nk p n : Nat}
theorem rs_dies (hN : N ≤ 640) (hn : n < 40) (h : BhX N bt nb nk p s T) (e25 : gI s 25 0 = zI (n : Int)) (hz : ∀ j, 5 * n + 2 ≤ j → j ≤ 5 * n + 5 → gI T 252 j = 0) (hT : mX12_next (pI t 252 (5 * n + 1) 4) = T) (rT : rX12_next (pI t 252 (5 * n + 1) 4)) : ∃ t1 v1, ST 1 (fun m => (lX12_bookLine m).1 t 4 (zI ((5 * n + 1 : Nat) : Int)) 5) (fun m => (qX12_bookLine m).1 t 4 (zI ((5 * n + 1 : Nat) : Int)) 5) (fun _ => (v1, t1)) (fun _ => True) ∧ rX0_readRest s 25 5 4 ∧ RsT N bt nb nk n 4 p s (mX0_readRest s 25 5 4) (vX0_readRest s 25 5 4) T t1 v1 := by
  obtain ⟨s2, y1, y2, x1, x2, fy, cs⟩ := rs_two hN hn h e25
  have up : ∀ c i, Bx2 n c i → BxN n c i := fun c i hc => by omega
  have l5 : (5 : Int32) ≤ 5 := by decide
  have n43 : ¬ (4 : Int32) = 3 := by decide
  have n45 : ¬ (4 : Int32) = 5 := by decide
  have n41 : ¬ (4 : Int32) = 1 := by decide
  have n42 : ¬ (4 : Int32) = 2 := by decide
  have n40 : ¬ (4 : Int32) = 0 := by decide
  have n44 : ¬ ¬ (4 : Int32) = 4 := fun hc => hc rfl
  have k10 : ¬ (1 : Int32) = 0 := by decide
  have c0 : ((0 : Int32)).toNatClampNeg = 0 := rfl
  have ca : (zI ((5 * n + 1 : Nat) : Int)).toNatClampNeg = 5 * n + 1 := by rw [z_cl (by omega)]; exact Int.toNat_natCast _
  have i1 : zI ((5 * n + 1 : Nat) : Int) + 1 = zI ((5 * n + 2 : Nat) : Int) := by rw [zl1, z_add]; congr 1
  have i2 : zI ((5 * n + 1 : Nat) : Int) + 2 = zI ((5 * n + 3 : Nat) : Int) := by rw [zl2, z_add]; congr 1
  have c1 : (zI ((5 * n + 2 : Nat) : Int)).toNatClampNeg = 5 * n + 2 := by rw [z_cl (by omega)]; exact Int.toNat_natCast _
  have c2 : (zI ((5 * n + 3 : Nat) : Int)).toNatClampNeg = 5 * n + 3 := by rw [z_cl (by omega)]; exact Int.toNat_natCast _
  have v0 : vp_in (zI ((5 * n + 1 : Nat) : Int)) 201 := by rw [z_in (by omega)]; omega
  have v1 : vp_in (zI ((5 * n + 2 : Nat) : Int)) 201 := by rw [z_in (by omega)]; omega
  have v2 : vp_in (zI ((5 * n + 3 : Nat) : Int)) 201 := by rw [z_in (by omega)]; omega
  have MY : mX0_readRest s 25 5 4 = s2 := by
    unfold mX0_readRest
    rw [if_neg n40, if_neg n41, if_neg n42, if_neg n43, if_pos rfl, y1]
  have VY : vX0_readRest s 25 5 4 = vX0_readTwoBodies s 25 5 := by
    unfold vX0_readRest
    rw [if_neg n40, if_neg n41, if_neg n42, if_neg n43, if_pos rfl]
  have RY : rX0_readRest s 25 5 4 := by
    unfold rX0_readRest
    exact ⟨fun hc => absurd hc n40, fun hc => absurd hc n41, fun hc => absurd hc n42, fun _ => y2⟩
  rw [MY, VY]
  rcases cs with ⟨e1, e2, f1, f, A, e3, e4⟩ | ⟨t2, ht2, e1, e2, e3, ⟨e4, e5, f3, f, A, e6, e7⟩ | ⟨t4, q, B, C, ht4, d1, d2, d3, d4, d5, d6, d7, d8, d9, d10, d11, d12, d13⟩⟩
  · refine ⟨_, 0, ST_1 fun m => ?_, RY, fy, Fq_mo f1 up (fun _ _ h => h), Or.inr ⟨e1, rfl, f, A, e3, e4⟩⟩
    show tX12_bookLine_122 (lX12_bookLine m) t 4 (zI ((5 * n + 1 : Nat) : Int)) 5 = _ ∧ (_ → uX12_bookLine_122 (qX12_bookLine m) t 4 (zI ((5 * n + 1 : Nat) : Int)) 5)
    unfold tX12_bookLine_122 uX12_bookLine_122
    rw [if_pos l5, if_neg n43, if_neg n45, if_neg n41, if_neg n42, ca, hT, c0, x2]
    dsimp only
    rw [e2, if_pos rfl]
    exact ⟨rfl, fun _ => ⟨fun _ => ⟨v0, rT, fun _ _ => ⟨fun hc => absurd hc n41, fun _ => ⟨fun _ => ⟨x1, fun s2 _ hc => absurd rfl hc⟩, fun hc => absurd hc n42⟩⟩⟩, fun hc => absurd l5 hc⟩⟩
  · refine ⟨_, 0, ST_1 fun m => ?_, RY, fy, Fq_mo f3 up (fun _ _ h => h), Or.inr ⟨e4, rfl, f, A, e6, e7⟩⟩
    show tX12_bookLine_122 (lX12_bookLine m) t 4 (zI ((5 * n + 1 : Nat) : Int)) 5 = _ ∧ (_ → uX12_bookLine_122 (qX12_bookLine m) t 4 (zI ((5 * n + 1 : Nat) : Int)) 5)
    unfold tX12_bookLine_122 uX12_bookLine_122
    rw [if_pos l5, if_neg n43, if_neg n45, if_neg n41, if_neg n42, ca, hT, c0, x2]
    dsimp only
    rw [e1, if_neg k10, i1, c1, ← ht2, e3, e5, if_pos rfl]
    refine ⟨rfl, fun _ => ⟨fun _ => ⟨v0, rT, fun _ _ => ⟨fun hc => absurd hc n41, fun _ => ⟨fun _ => ⟨x1, fun s2' h2 _ => ?_⟩, fun hc => absurd hc n42⟩⟩⟩, fun hc => absurd l5 hc⟩⟩
    rw [h2, ← ht2, e3, e5]
    exact ⟨v1, e2, fun _ _ hc => absurd rfl hc⟩
  · refine ⟨t4, 1, ST_1 fun m => ?_, RY, fy, Fq_mo d5 up (fun _ _ h => h), Or.inl ⟨d2, rfl, d12, d13, q, B, C, 0, 0, d3, d4, ⟨by omega, fun hc => absurd hc (by decide), fun hc => absurd hc (by decide), fun hc => absurd hc (by decide), fun _ => ⟨d6, d7⟩⟩, ⟨fun hc => absurd hc (by decide), fun hc => absurd hc (by decide), fun hc => absurd hc (by decide), fun _ => ⟨d8, d9⟩⟩, d10, d11, ?_, ?_⟩⟩
    · show tX12_bookLine_122 (lX12_bookLine m) t 4 (zI ((5 * n + 1 : Nat) : Int)) 5 = _ ∧ (_ → uX12_bookLine_122 (qX12_bookLine m) t 4 (zI ((5 * n + 1 : Nat) : Int)) 5)
      unfold tX12_bookLine_122 uX12_bookLine_122
      rw [if_pos l5, if_neg n43, if_neg n45, if_neg n41, if_neg n42, ca, hT, c0, x2]
      dsimp only
      rw [e1, if_neg k10, i1, c1, ← ht2, e3, d1, if_neg k10, if_pos rfl, i2, c2, ← ht4]
      refine ⟨rfl, fun _ => ⟨fun _ => ⟨v0, rT, fun _ _ => ⟨fun hc => absurd hc n41, fun _ => ⟨fun _ => ⟨x1, fun s2' h2 _ => ?_⟩, fun hc => absurd hc n42⟩⟩⟩, fun hc => absurd l5 hc⟩⟩
      rw [h2, ← ht2, e3]
      exact ⟨v1, e2, fun s4' h4 _ => ⟨v2, fun hc => absurd hc n44⟩⟩
    · rw [d5.1 252 _ (by omega)]; exact hz _ (by omega) (by omega)
    · rw [d5.1 252 _ (by omega)]; exact hz _ (by omega) (by omega)
end
