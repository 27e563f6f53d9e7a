-- needs: 6zd.bkd
section
variable {s t T : SM} {N : Nat} {bt : Nat → Int} {nb nk p n : Nat}
theorem rs_none {A : Int} (hA : A = 3 ∨ A = 5) (hn : n < 40) (h : BhX N bt nb nk p s T) (hz : ∀ j, 5 * n + 2 ≤ j → j ≤ 5 * n + 5 → gI T 252 j = 0) (hT : mX12_next (pI t 252 (5 * n + 1) (zI A)) = T) (rT : rX12_next (pI t 252 (5 * n + 1) (zI A))) : ∃ t1 v1, ST 1 (fun m => (lX12_bookLine m).1 t (zI A) (zI ((5 * n + 1 : Nat) : Int)) 5) (fun m => (qX12_bookLine m).1 t (zI A) (zI ((5 * n + 1 : Nat) : Int)) 5) (fun _ => (v1, t1)) (fun _ => True) ∧ rX0_readRest s 25 5 (zI A) ∧ RsT N bt nb nk n A p s (mX0_readRest s 25 5 (zI A)) (vX0_readRest s 25 5 (zI A)) T t1 v1 := by
  have l5 : (5 : Int32) ≤ 5 := by decide
  have ca : (zI ((5 * n + 1 : Nat) : Int)).toNatClampNeg = 5 * n + 1 := by rw [z_cl (by omega)]; exact Int.toNat_natCast _
  have v0 : vp_in (zI ((5 * n + 1 : Nat) : Int)) 201 := by rw [z_in (by omega)]; omega
  have n0 : ¬ zI A = 0 := by rw [zl0, z_eq (by omega) (by omega)]; omega
  have n1 : ¬ zI A = 1 := by rw [zl1, z_eq (by omega) (by omega)]; omega
  have n2 : ¬ zI A = 2 := by rw [zl2, z_eq (by omega) (by omega)]; omega
  have n4 : ¬ zI A = 4 := by rw [zl4, z_eq (by omega) (by omega)]; omega
  have n35 : zI A = 3 ∨ (¬ zI A = 3 ∧ zI A = 5) := by rcases hA with h | h <;> rw [h] <;> decide
  have MY : mX0_readRest s 25 5 (zI A) = s := by
    unfold mX0_readRest
    rw [if_neg n0, if_neg n1, if_neg n2]
    by_cases c : zI A = 3
    · rw [if_pos c]
    · rw [if_neg c, if_neg n4]
  have VY : vX0_readRest s 25 5 (zI A) = 1 := by
    unfold vX0_readRest
    rw [if_neg n0, if_neg n1, if_neg n2]
    by_cases c : zI A = 3
    · rw [if_pos c]
    · rw [if_neg c, if_neg n4]
  have RY : rX0_readRest s 25 5 (zI A) := by
    unfold rX0_readRest
    exact ⟨fun hc => absurd hc n0, fun hc => absurd hc n1, fun hc => absurd hc n2, fun hc => absurd hc n4⟩
  rw [MY, VY]
  refine ⟨T, 1, ST_1 fun m => ?_, RY, Fq_rf _ _ _, Fq_rf _ _ _, Or.inl ⟨rfl, rfl, rfl, rfl, p, 0, 0, 0, 0, Nat.le_refl _, h, ⟨by omega, fun hc => by omega, fun hc => by omega, fun hc => by omega, fun hc => by omega⟩, ⟨fun hc => by omega, fun hc => by omega, fun hc => by omega, fun hc => by omega⟩, hz _ (by omega) (by omega), hz _ (by omega) (by omega), hz _ (by omega) (by omega), hz _ (by omega) (by omega)⟩⟩
  show tX12_bookLine_122 (lX12_bookLine m) t (zI A) (zI ((5 * n + 1 : Nat) : Int)) 5 = _ ∧ (_ → uX12_bookLine_122 (qX12_bookLine m) t (zI A) (zI ((5 * n + 1 : Nat) : Int)) 5)
  unfold tX12_bookLine_122 uX12_bookLine_122
  rw [if_pos l5, ca, hT]
  rcases n35 with c | ⟨c, c'⟩
  · rw [if_pos c]
    exact ⟨rfl, fun _ => ⟨fun _ => ⟨v0, rT, fun hc => absurd c hc⟩, fun hc => absurd l5 hc⟩⟩
  · rw [if_neg c, if_pos c']
    exact ⟨rfl, fun _ => ⟨fun _ => ⟨v0, rT, fun _ hc => absurd c' hc⟩, fun hc => absurd l5 hc⟩⟩
/-- the DEAL of a line, on both sides -/
theorem rs_num (hN : N ≤ 640) (hn : n < 40) (h : BhX N bt nb nk p s T) (e25 : gI s 25 0 = zI (n : Int)) : rX0_readDeal s 25 ∧ rX12_takes T 0 59 ∧ Fq (fun c i => YtI c i ∨ (c = 27 ∧ i = n)) TkL s (mX0_readDeal s 25) ∧ ((vX0_readDeal s 25 = 0 ∧ vX12_takes T 0 59 = 0 ∧ Fq XtI TxL T (mX12_takes T 0 59) ∧ ∃ f A, FtY (mX0_readDeal s 25) f A ∧ FtX (mX12_takes T 0 59) f A) ∨ (vX0_readDeal s 25 = 1 ∧ vX12_takes T 0 59 = 1 ∧ ∃ t2 q, ∃ B : Int, t2 = pI (mX12_takes T 0 59) 252 (5 * n + 2) (gI (mX12_takes T 0 59) 248 18) ∧ p ≤ q ∧ (0 ≤ B ∧ B ≤ 59) ∧ BhX N bt nb nk q (mX0_readDeal s 25) t2 ∧ Fq (fun c i => XtI c i ∨ (c = 252 ∧ i = 5 * n + 2)) TxL T t2 ∧ gI (mX0_readDeal s 25) 27 n = zI B ∧ gI t2 252 (5 * n + 2) = zI B ∧ gI (mX0_readDeal s 25) 3 2 = gI s 3 2 ∧ gI t2 248 15 = gI T 248 15)) := by
  obtain ⟨a1, a2, a3, a4, a5⟩ := bk_num hN h (lo := 0) (hi := 59) (by omega)
  have z1 : zI 0 = 0 := rfl
  have z99 : zI 59 = 59 := rfl
  rw [z1, z99] at a1 a2 a3 a4 a5
  have cn : (zI (n : Int)).toNatClampNeg = n := by rw [z_cl (by omega)]; exact Int.toNat_natCast _
  have vn : vp_in (zI (n : Int)) 40 := by rw [z_in (by omega)]; omega
  obtain ⟨s1, hs1⟩ : ∃ s1, s1 = mX9_takeNumber s 0 59 := ⟨_, rfl⟩
  obtain ⟨t1, ht1⟩ : ∃ t1, t1 = mX12_takes T 0 59 := ⟨_, rfl⟩
  rw [← hs1] at a3 a5
  rw [← ht1] at a4 a5 ⊢
  have e251 : gI s1 25 0 = zI (n : Int) := by rw [a3.1 25 0 (by omega)]; exact e25
  have k10 : ¬ (1 : Int32) = 0 := by decide
  rcases a5 with ⟨b1, b2, b3, b4, q, x, b5, b6, b7, b8, b9⟩ | ⟨b1, b2, f, A, b3, b4⟩
  · obtain ⟨s2, hs2⟩ : ∃ s2, s2 = pI s1 27 n (zI x) := ⟨_, rfl⟩
    obtain ⟨t2, ht2⟩ : ∃ t2, t2 = pI t1 252 (5 * n + 2) (gI t1 248 18) := ⟨_, rfl⟩
    have g2 : Fq (fun c i => c = 27 ∧ i = n) (fun _ _ => False) s1 s2 := by rw [hs2]; exact Fq_p _ ⟨rfl, rfl⟩
    have g2' : Fq (fun c i => c = 252 ∧ i = 5 * n + 2) (fun _ _ => False) t1 t2 := by rw [ht2]; exact Fq_p _ ⟨rfl, rfl⟩
    have n1 : ¬ vX9_takeNumber s 0 59 = 0 := by rw [b1]; exact k10
    have hs2q : pI s1 (25 + 2) n (zI x) = s2 := hs2.symm
    have EM : mX0_readDeal s 25 = s2 := by
      unfold mX0_readDeal
      rw [if_neg n1, ← hs1, e251, cn, b7, hs2q]
    have EV : vX0_readDeal s 25 = 1 := by unfold vX0_readDeal; rw [if_neg n1]
    have RY : rX0_readDeal s 25 := by
      unfold rX0_readDeal
      rw [← hs1, e251]
      exact ⟨a1, fun _ => vn⟩
    rw [EM]
    refine ⟨RY, a2, Fq_tr (Fq_mo a3 (fun c i hc => Or.inl hc) (fun c i hc => hc)) (Fq_mo g2 (fun c i hc => Or.inr hc) (fun _ _ h => h.elim)), Or.inr ⟨EV, b2, t2, q, x, ht2, b5, b6, BhX_st b9 g2 g2' (fun c i hc => by omega) (fun c i hc => by omega), Fq_tr (Fq_mo a4 (fun c i hc => Or.inl hc) (fun c i hc => hc)) (Fq_mo g2' (fun c i hc => Or.inr hc) (fun _ _ h => h.elim)), ?_, ?_, ?_, ?_⟩⟩
    · rw [hs2, gI_pI, if_pos ⟨rfl, rfl⟩]
    · rw [ht2, gI_pI, if_pos ⟨rfl, rfl⟩, b8]
    · rw [g2.1 3 2 (by omega), b3]
    · rw [g2'.1 248 15 (by omega), b4]
  · have EM : mX0_readDeal s 25 = s1 := by unfold mX0_readDeal; rw [if_pos b1, ← hs1]
    have EV : vX0_readDeal s 25 = 0 := by unfold vX0_readDeal; rw [if_pos b1]
    have RY : rX0_readDeal s 25 := by unfold rX0_readDeal; exact ⟨a1, fun hc => absurd b1 hc⟩
    rw [EM]
    exact ⟨RY, a2, Fq_mo a3 (fun c i hc => Or.inl hc) (fun c i hc => hc), Or.inl ⟨EV, b2, a4, f, A, b3, b4⟩⟩
theorem rs_strike (hN : N ≤ 640) (hn : n < 40) (h : BhX N bt nb nk p s T) (e25 : gI s 25 0 = zI (n : Int)) (hz : ∀ j, 5 * n + 2 ≤ j → j ≤ 5 * n + 5 → gI T 252 j = 0) (hT : mX12_next (pI t 252 (5 * n + 1) 1) = T) (rT : rX12_next (pI t 252 (5 * n + 1) 1)) : ∃ t1 v1, ST 2 (fun m => (lX12_bookLine m).1 t 1 (zI ((5 * n + 1 : Nat) : Int)) 5) (fun m => (qX12_bookLine m).1 t 1 (zI ((5 * n + 1 : Nat) : Int)) 5) (fun _ => (v1, t1)) (fun _ => True) ∧ rX0_readRest s 25 5 1 ∧ RsT N bt nb nk n 1 p s (mX0_readRest s 25 5 1) (vX0_readRest s 25 5 1) T t1 v1 := by
  obtain ⟨y2, x1, fy, cs⟩ := rs_num hN hn h e25
  have l5 : (5 : Int32) ≤ 5 := by decide
  have n13 : ¬ (1 : Int32) = 3 := by decide
  have n15 : ¬ (1 : Int32) = 5 := by decide
  have n12 : ¬ (1 : Int32) = 2 := by decide
  have n14 : ¬ (1 : Int32) = 4 := by decide
  have k10 : ¬ (1 : Int32) = 0 := by decide
  have n11 : ¬ ¬ (1 : Int32) = 1 := fun hc => hc rfl
  have ca : (zI ((5 * n + 1 : Nat) : Int)).toNatClampNeg = 5 * n + 1 := by rw [z_cl (by omega)]; exact Int.toNat_natCast _
  have i1 : zI ((5 * n + 1 : Nat) : Int) + 1 = zI ((5 * n + 2 : Nat) : Int) := by rw [zl1, z_add]; congr 1
  have c1 : (zI ((5 * n + 2 : Nat) : Int)).toNatClampNeg = 5 * n + 2 := by rw [z_cl (by omega)]; exact Int.toNat_natCast _
  have v0 : vp_in (zI ((5 * n + 1 : Nat) : Int)) 201 := by rw [z_in (by omega)]; omega
  have v1 : vp_in (zI ((5 * n + 2 : Nat) : Int)) 201 := by rw [z_in (by omega)]; omega
  have MY : mX0_readRest s 25 5 1 = mX0_readDeal s 25 := by unfold mX0_readRest; rw [if_neg k10, if_pos rfl]
  have VY : vX0_readRest s 25 5 1 = vX0_readDeal s 25 := by unfold vX0_readRest; rw [if_neg k10, if_pos rfl]
  have RY : rX0_readRest s 25 5 1 := by
    unfold rX0_readRest
    exact ⟨fun hc => absurd hc k10, fun _ => y2, fun hc => absurd hc n12, fun hc => absurd hc n14⟩
  rw [MY, VY]
  have fyy : Fq (ByN n) TkL s (mX0_readDeal s 25) := Fq_mo fy (fun c i hc => by omega) (fun _ _ h => h)
  have p1 : ST 1 (fun m => (lX12_bookLine m).1 t 1 (zI ((5 * n + 1 : Nat) : Int)) 5) (fun m => (qX12_bookLine m).1 t 1 (zI ((5 * n + 1 : Nat) : Int)) 5) (fun m => (lX12_bookLine m).2.1 T 1 (zI ((5 * n + 1 : Nat) : Int)) 5) (fun m => (qX12_bookLine m).2.1 T 1 (zI ((5 * n + 1 : Nat) : Int)) 5) := ST_1 fun m => by
    show tX12_bookLine_122 (lX12_bookLine m) t 1 (zI ((5 * n + 1 : Nat) : Int)) 5 = _ ∧ (_ → uX12_bookLine_122 (qX12_bookLine m) t 1 (zI ((5 * n + 1 : Nat) : Int)) 5)
    unfold tX12_bookLine_122 uX12_bookLine_122
    rw [if_pos l5, if_neg n13, if_neg n15, if_pos rfl, ca, hT]
    exact ⟨rfl, fun hh => ⟨fun _ => ⟨v0, rT, fun _ _ => ⟨fun _ => hh, fun hc => absurd rfl hc⟩⟩, fun hc => absurd l5 hc⟩⟩
  rcases cs with ⟨e1, e2, f1, f, A, e3, e4⟩ | ⟨e1, e2, t2, q, B, ht2, d1, d2, d3, d4, d5, d6, d7, d8⟩
  · refine ⟨_, 0, ST_trans (B1 := 1) (B2 := 1) p1 (ST_1 fun m => ?_), RY, fyy, Fq_mo f1 (fun c i hc => Or.inl hc) (fun _ _ h => h), Or.inr ⟨e1, rfl, f, A, e3, e4⟩⟩
    show tX12_bookLine_175 (lX12_bookLine m) T 1 (zI ((5 * n + 1 : Nat) : Int)) 5 = _ ∧ (_ → uX12_bookLine_175 (qX12_bookLine m) T 1 (zI ((5 * n + 1 : Nat) : Int)) 5)
    unfold tX12_bookLine_175 uX12_bookLine_175
    rw [if_pos e2]
    exact ⟨rfl, fun _ => ⟨x1, fun hc => absurd e2 hc⟩⟩
  · have ne : ¬ vX12_takes T 0 59 = 0 := by rw [e2]; exact k10
    refine ⟨t2, 1, ST_trans (B1 := 1) (B2 := 1) p1 (ST_1 fun m => ?_), RY, fyy, Fq_mo d4 (fun c i hc => by omega) (fun _ _ h => h), Or.inl ⟨e1, rfl, d7, d8, q, B, 0, 0, 0, d1, d3, ⟨by omega, fun hc => absurd hc (by decide), fun _ => d2, fun hc => absurd hc (by decide), fun hc => absurd hc (by decide)⟩, ⟨fun hc => absurd hc (by decide), fun _ => d5, fun hc => absurd hc (by decide), fun hc => absurd hc (by decide)⟩, d6, ?_, ?_, ?_⟩⟩
    · show tX12_bookLine_175 (lX12_bookLine m) T 1 (zI ((5 * n + 1 : Nat) : Int)) 5 = _ ∧ (_ → uX12_bookLine_175 (qX12_bookLine m) T 1 (zI ((5 * n + 1 : Nat) : Int)) 5)
      unfold tX12_bookLine_175 uX12_bookLine_175
      rw [if_neg ne, i1, c1, ← ht2]
      dsimp only
      rw [if_pos rfl]
      exact ⟨rfl, fun _ => ⟨x1, fun _ => ⟨v1, fun _ _ hc => absurd rfl hc⟩⟩⟩
    · rw [d4.1 252 _ (by omega)]; exact hz _ (by omega) (by omega)
    · rw [d4.1 252 _ (by omega)]; exact hz _ (by omega) (by omega)
    · rw [d4.1 252 _ (by omega)]; exact hz _ (by omega) (by omega)
theorem y_sideEnd {u : SM} (e : gI u 25 0 = zI (n : Int)) (hn : n < 40) : (lX0_readSide FU) u 25 = (1, pI u 28 n (if vX9_says u 109342978500980 = 0 then 1 else 0)) ∧ (qX0_readSide FU) u 25 := ST_fu (ST_1 (F := fun m => lX0_readSide m u 25) (C := fun m => qX0_readSide m u 25) (F' := fun _ => (1, pI u 28 n (if vX9_says u 109342978500980 = 0 then 1 else 0))) (C' := fun _ => True) (fun m => by
    show tX0_readSide_30 (lX0_readSide m) u 25 = _ ∧ (_ → uX0_readSide_30 (qX0_readSide m) u 25)
    have cn : (zI (n : Int)).toNatClampNeg = n := by rw [z_cl (by omega)]; exact Int.toNat_natCast _
    unfold tX0_readSide_30 uX0_readSide_30
    rw [e, cn]
    exact ⟨rfl, fun _ => by rw [z_in (by omega)]; omega⟩)) (by omega)
theorem rs_scar (hN : N ≤ 640) (hn : n < 40) (h : BhX N bt nb nk p s T) (e25 : gI s 25 0 = zI (n : Int)) (hz : ∀ j, 5 * n + 2 ≤ j → j ≤ 5 * n + 5 → gI T 252 j = 0) (hT : mX12_next (pI t 252 (5 * n + 1) 2) = T) (rT : rX12_next (pI t 252 (5 * n + 1) 2)) : ∃ t1 v1, ST 3 (fun m => (lX12_bookLine m).1 t 2 (zI ((5 * n + 1 : Nat) : Int)) 5) (fun m => (qX12_bookLine m).1 t 2 (zI ((5 * n + 1 : Nat) : Int)) 5) (fun _ => (v1, t1)) (fun _ => True) ∧ rX0_readRest s 25 5 2 ∧ RsT N bt nb nk n 2 p s (mX0_readRest s 25 5 2) (vX0_readRest s 25 5 2) T t1 v1 := by
  obtain ⟨y2, x1, fy, cs⟩ := rs_num hN hn h e25
  have l5 : (5 : Int32) ≤ 5 := by decide
  have n23 : ¬ (2 : Int32) = 3 := by decide
  have n25 : ¬ (2 : Int32) = 5 := by decide
  have n21 : ¬ (2 : Int32) = 1 := by decide
  have n20 : ¬ (2 : Int32) = 0 := by decide
  have n24 : ¬ (2 : Int32) = 4 := by decide
  have k10 : ¬ (1 : Int32) = 0 := by decide
  have n22 : ¬ ¬ (2 : Int32) = 2 := fun hc => hc rfl
  have ca : (zI ((5 * n + 1 : Nat) : Int)).toNatClampNeg = 5 * n + 1 := by rw [z_cl (by omega)]; exact Int.toNat_natCast _
  have i1 : zI ((5 * n + 1 : Nat) : Int) + 1 = zI ((5 * n + 2 : Nat) : Int) := by rw [zl1, z_add]; congr 1
  have c1 : (zI ((5 * n + 2 : Nat) : Int)).toNatClampNeg = 5 * n + 2 := by rw [z_cl (by omega)]; exact Int.toNat_natCast _
  have i2 : zI ((5 * n + 1 : Nat) : Int) + 2 = zI ((5 * n + 3 : Nat) : Int) := by rw [zl2, z_add]; congr 1
  have c2 : (zI ((5 * n + 3 : Nat) : Int)).toNatClampNeg = 5 * n + 3 := by rw [z_cl (by omega)]; exact Int.toNat_natCast _
  have v0 : vp_in (zI ((5 * n + 1 : Nat) : Int)) 201 := by rw [z_in (by omega)]; omega
  have v1 : vp_in (zI ((5 * n + 2 : Nat) : Int)) 201 := by rw [z_in (by omega)]; omega
  have v2 : vp_in (zI ((5 * n + 3 : Nat) : Int)) 201 := by rw [z_in (by omega)]; omega
  obtain ⟨s1, hs1⟩ : ∃ s1, s1 = mX0_readDeal s 25 := ⟨_, rfl⟩
  rw [← hs1] at fy cs
  have MV : (vX0_readDeal s 25 = 0 → mX0_readRest s 25 5 2 = s1 ∧ vX0_readRest s 25 5 2 = 0) ∧ (¬ vX0_readDeal s 25 = 0 → mX0_readRest s 25 5 2 = mX0_readSide s1 25 ∧ vX0_readRest s 25 5 2 = if vX0_readSide s1 25 = 0 then 0 else 1) := by
    unfold mX0_readRest vX0_readRest
    rw [if_neg n20, if_neg n21, if_pos rfl, if_neg n20, if_neg n21, if_pos rfl, ← hs1]
    exact ⟨fun hc => by rw [if_pos hc, if_pos hc]; exact ⟨rfl, rfl⟩, fun hc => by rw [if_neg hc, if_neg hc]; exact ⟨rfl, rfl⟩⟩
  have RY : (¬ vX0_readDeal s 25 = 0 → rX0_readSide s1 25) → rX0_readRest s 25 5 2 := by
    intro hh
    unfold rX0_readRest
    rw [← hs1]
    exact ⟨fun hc => absurd hc n20, fun hc => absurd hc n21, fun _ => ⟨y2, hh⟩, fun hc => absurd hc n24⟩
  have fyy : Fq (ByN n) TkL s s1 := Fq_mo fy (fun c i hc => by omega) (fun _ _ h => h)
  have p1 : ST 1 (fun m => (lX12_bookLine m).1 t 2 (zI ((5 * n + 1 : Nat) : Int)) 5) (fun m => (qX12_bookLine m).1 t 2 (zI ((5 * n + 1 : Nat) : Int)) 5) (fun m => (lX12_bookLine m).2.1 T 2 (zI ((5 * n + 1 : Nat) : Int)) 5) (fun m => (qX12_bookLine m).2.1 T 2 (zI ((5 * n + 1 : Nat) : Int)) 5) := ST_1 fun m => by
    show tX12_bookLine_122 (lX12_bookLine m) t 2 (zI ((5 * n + 1 : Nat) : Int)) 5 = _ ∧ (_ → uX12_bookLine_122 (qX12_bookLine m) t 2 (zI ((5 * n + 1 : Nat) : Int)) 5)
    unfold tX12_bookLine_122 uX12_bookLine_122
    rw [if_pos l5, if_neg n23, if_neg n25, if_neg n21, if_pos rfl, ca, hT]
    exact ⟨rfl, fun hh => ⟨fun _ => ⟨v0, rT, fun _ _ => ⟨fun hc => absurd hc n21, fun _ => ⟨fun hc => absurd rfl hc, fun _ => hh⟩⟩⟩, fun hc => absurd l5 hc⟩⟩
  rcases cs with ⟨e1, e2, f1, f, A, e3, e4⟩ | ⟨e1, e2, t2, q, B, ht2, d1, d2, d3, d4, d5, d6, d7, d8⟩
  · rw [(MV.1 e1).1, (MV.1 e1).2]
    refine ⟨_, 0, ST_mono (ST_trans (B1 := 1) (B2 := 1) p1 (ST_1 fun m => ?_)) (by omega), RY (fun hc => absurd e1 hc), fyy, Fq_mo f1 (fun c i hc => Or.inl hc) (fun _ _ h => h), Or.inr ⟨rfl, rfl, f, A, e3, e4⟩⟩
    show tX12_bookLine_175 (lX12_bookLine m) T 2 (zI ((5 * n + 1 : Nat) : Int)) 5 = _ ∧ (_ → uX12_bookLine_175 (qX12_bookLine m) T 2 (zI ((5 * n + 1 : Nat) : Int)) 5)
    unfold tX12_bookLine_175 uX12_bookLine_175
    rw [if_pos e2]
    exact ⟨rfl, fun _ => ⟨x1, fun hc => absurd e2 hc⟩⟩
  · have ne : ¬ vX12_takes T 0 59 = 0 := by rw [e2]; exact k10
    have nd : ¬ vX0_readDeal s 25 = 0 := by rw [e1]; exact k10
    rw [(MV.2 nd).1, (MV.2 nd).2]
    -- the side
    obtain ⟨h1, h2, h3, h4, h5, h6, h7⟩ := d3
    obtain ⟨s2, g1, g2, g3, g4⟩ := y_next h1 hN h5 h4
    have hk := tok_S (N := N) bt q
    obtain ⟨hEa, hE⟩ := tok_E bt h5
    obtain ⟨k, hkd⟩ : ∃ k, k = tokF N bt q := ⟨_, rfl⟩
    rw [← hkd] at g4 h6 hk hEa hE
    have yc := y_says g4 hk 109342978500980
    have yd := y_says g4 hk 1684365940
    have xc := x_says h6 hk 109342978500980
    have xd := x_says h6 hk 1684365940
    have e252 : gI s2 25 0 = zI (n : Int) := by rw [g3.1 25 0 (by omega), fy.1 25 0 (by omega)]; exact e25
    obtain ⟨E1, E2⟩ := y_sideEnd e252 hn
    have RS : rX0_readSide s1 25 := by
      unfold rX0_readSide
      rw [g1]
      exact ⟨g2, fun _ => E2, fun _ _ => E2⟩
    have fd4 : Fq (BxN n) TxL T t2 := Fq_mo d4 (fun c i hc => by omega) (fun _ _ h => h)
    by_cases ok : (k.1 = 1 ∧ k.2.2.2.1 = 109342978500980) ∨ (k.1 = 1 ∧ k.2.2.2.1 = 1684365940)
    · obtain ⟨C, hC⟩ : ∃ C : Int, C = (if k.1 = 1 ∧ k.2.2.2.1 = 109342978500980 then 0 else 1) := ⟨_, rfl⟩
      have hC01 : C = 0 ∨ C = 1 := by rw [hC]; split; exact Or.inl rfl; exact Or.inr rfl
      have eyC : (if vX9_says s2 109342978500980 = 0 then (1 : Int32) else 0) = zI C := by
        rw [yc, hC]
        by_cases c : k.1 = 1 ∧ k.2.2.2.1 = 109342978500980
        · rw [if_neg (by rw [bI_0]; exact fun hh => hh c), if_pos c]; rfl
        · rw [if_pos (by rw [bI_0]; exact c), if_neg c]; rfl
      have exC : (if vX12_isWord t2 1684365940 = 0 then (0 : Int32) else 1) = zI C := by
        rw [xd, hC]
        by_cases c : k.1 = 1 ∧ k.2.2.2.1 = 109342978500980
        · rw [if_pos (by rw [bI_0]; exact fun hh => absurd (c.2.symm.trans hh.2) (by decide)), if_pos c]; rfl
        · rw [if_neg (by rw [bI_0]; exact fun hh => hh (ok.resolve_left c)), if_neg c]; rfl
      rw [eyC] at E1
      obtain ⟨s3, hs3⟩ : ∃ s3, s3 = pI s2 28 n (zI C) := ⟨_, rfl⟩
      rw [← hs3] at E1
      obtain ⟨t3, ht3⟩ : ∃ t3, t3 = pI t2 252 (5 * n + 3) (zI C) := ⟨_, rfl⟩
      have w3 : Fq (fun c i => c = 28 ∧ i = n) (fun _ _ => False) s2 s3 := by rw [hs3]; exact Fq_p _ ⟨rfl, rfl⟩
      have w3' : Fq (fun c i => c = 252 ∧ i = 5 * n + 3) (fun _ _ => False) t2 t3 := by rw [ht3]; exact Fq_p _ ⟨rfl, rfl⟩
      have ES : fX0_readSide s1 25 = (1, s3) := by
        unfold fX0_readSide
        rw [g1, yc, yd]
        by_cases c : k.1 = 1 ∧ k.2.2.2.1 = 109342978500980
        · rw [if_neg (by rw [bI_0]; exact fun hh => hh c), E1]
        · rw [if_pos (by rw [bI_0]; exact c), if_neg (by rw [bI_0]; exact fun hh => hh (ok.resolve_left c)), E1]
      have EM : mX0_readSide s1 25 = s3 := by unfold mX0_readSide; rw [ES]
      have EV : vX0_readSide s1 25 = 1 := by unfold vX0_readSide; rw [ES]
      have hs3' : TkS t3 N bt := TkS_fq h2 w3' (fun c i hc => by omega)
      have hx3 : TkX t3 N k := TkX_fq h6 w3' (fun c i hc => by omega) (fun _ _ _ h => h)
      obtain ⟨t4, r1, r2, r3, r4⟩ := x_next hs3' hN hE hx3.2.2.1
      rw [EM, EV, if_neg k10]
      have fs3 : Fq (ByN n) TkL s s3 := Fq_tr fyy (Fq_tr (Fq_mo g3 (fun c i hc => by omega) (fun _ _ h => h)) (Fq_mo w3 (fun c i hc => by omega) (fun _ _ h => h.elim)))
      have r3' : Fq XtI TxL t3 t4 := Fq_mo r3 (fun c i hc => by omega) (fun _ _ h => h)
      have ft4 : Fq (BxN n) TxL T t4 := Fq_tr fd4 (Fq_tr (Fq_mo w3' (fun c i hc => by omega) (fun _ _ h => h.elim)) (Fq_mo r3' (fun c i hc => Or.inl hc) (fun _ _ h => h)))
      refine ⟨t4, 1, ST_mono (ST_trans (B1 := 1) (B2 := 2) p1 (ST_trans (B1 := 1) (B2 := 1) (ST_1 (F' := fun m => (lX12_bookLine m).2.2 t2 2 (zI ((5 * n + 1 : Nat) : Int)) 5) (C' := fun m => (qX12_bookLine m).2.2 t2 2 (zI ((5 * n + 1 : Nat) : Int)) 5) (fun m => ?_)) (ST_1 fun m => ?_))) (by omega), RY (fun _ => RS), fs3, ft4, Or.inl ⟨rfl, rfl, ?_, ?_, k.2.2.1, B, C, 0, 0, by omega, ⟨TpY_fq (TpY_fq h1 g3 (fun c i hc => by omega)) w3 (fun c i hc => by omega), TkS_fq hs3' r3 (fun c i hc => by omega), fun i hi => by rw [r3.2.1 254 i (by omega), w3'.2.1 254 i (fun h => h)]; exact h3 i hi, by rw [w3.1 3 7 (by omega)]; exact g4.2.2.1, hE, r4, CtR_fq (CtR_fq h7 g3 w3' (fun i hi => by omega) (fun c i hc => by omega) (fun i hi => by omega) (fun _ h => h)) w3 r3 (fun i hi => by omega) (fun _ _ _ h => h) (fun i hi => by omega) (fun i => by omega)⟩, ⟨by omega, fun hc => absurd hc (by decide), fun hc => absurd hc (by decide), fun _ => ⟨d2, hC01⟩, fun hc => absurd hc (by decide)⟩, ⟨fun hc => absurd hc (by decide), fun hc => absurd hc (by decide), fun _ => ⟨?_, ?_⟩, fun hc => absurd hc (by decide)⟩, ?_, ?_, ?_, ?_⟩⟩
      · show tX12_bookLine_175 (lX12_bookLine m) T 2 (zI ((5 * n + 1 : Nat) : Int)) 5 = _ ∧ (_ → uX12_bookLine_175 (qX12_bookLine m) T 2 (zI ((5 * n + 1 : Nat) : Int)) 5)
        unfold tX12_bookLine_175 uX12_bookLine_175
        rw [if_neg ne, i1, c1, ← ht2]
        dsimp only
        rw [if_neg n21, xc, xd]
        by_cases c : k.1 = 1 ∧ k.2.2.2.1 = 109342978500980
        · rw [if_neg (by rw [bI_0]; exact fun hh => hh c)]
          refine ⟨rfl, fun hh => ⟨x1, fun _ => ⟨v1, fun s2' hs _ => ?_⟩⟩⟩
          rw [hs]
          exact ⟨fun _ => hh, fun _ _ => hh⟩
        · rw [if_pos (by rw [bI_0]; exact c), if_neg (by rw [bI_0]; exact fun hh => hh (ok.resolve_left c))]
          refine ⟨rfl, fun hh => ⟨x1, fun _ => ⟨v1, fun s2' hs _ => ?_⟩⟩⟩
          rw [hs]
          exact ⟨fun _ => hh, fun _ _ => hh⟩
      · show tX12_bookLine_232 (lX12_bookLine m) t2 2 (zI ((5 * n + 1 : Nat) : Int)) 5 = _ ∧ (_ → uX12_bookLine_232 (qX12_bookLine m) t2 2 (zI ((5 * n + 1 : Nat) : Int)) 5)
        unfold tX12_bookLine_232 uX12_bookLine_232
        rw [i2, c2, exC, ← ht3]
        dsimp only
        rw [r1]
        exact ⟨rfl, fun _ => ⟨v2, fun s2' hs => by rw [hs]; exact r2⟩⟩
      · rw [w3.1 3 2 (by omega), g3.1 3 2 (by omega)]; exact d7
      · rw [r3.1 248 15 (by omega), w3'.1 248 15 (by omega)]; exact d8
      · rw [w3.1 27 n (by omega), g3.1 27 n (by omega)]; exact d5
      · rw [hs3, gI_pI, if_pos ⟨rfl, rfl⟩]
      · rw [r3.1 252 _ (by omega), w3'.1 252 _ (by omega)]; exact d6
      · rw [r3.1 252 _ (by omega), ht3, gI_pI, if_pos ⟨rfl, rfl⟩]
      · rw [r3.1 252 _ (by omega), w3'.1 252 _ (by omega), d4.1 252 _ (by omega)]; exact hz _ (by omega) (by omega)
      · rw [r3.1 252 _ (by omega), w3'.1 252 _ (by omega), d4.1 252 _ (by omega)]; exact hz _ (by omega) (by omega)
    · have nc : ¬ (k.1 = 1 ∧ k.2.2.2.1 = 109342978500980) := fun hh => ok (Or.inl hh)
      have nd' : ¬ (k.1 = 1 ∧ k.2.2.2.1 = 1684365940) := fun hh => ok (Or.inr hh)
      obtain ⟨-, r2, r3⟩ := y_ref g4 1
      obtain ⟨-, q2, q3⟩ := x_bad h6 1
      have ES : fX0_readSide s1 25 = (0, mX9_refuse s2 1) := by
        unfold fX0_readSide
        rw [g1, yc, yd, if_pos (by rw [bI_0]; exact nc), if_pos (by rw [bI_0]; exact nd')]; rfl
      have EM : mX0_readSide s1 25 = mX9_refuse s2 1 := by unfold mX0_readSide; rw [ES]
      have EV : vX0_readSide s1 25 = 0 := by unfold vX0_readSide; rw [ES]
      rw [EM, EV, if_pos rfl]
      refine ⟨mX12_bad t2 1, 0, ST_mono (ST_trans (B1 := 1) (B2 := 1) p1 (ST_1 fun m => ?_)) (by omega), RY (fun _ => RS), Fq_tr fyy (Fq_tr (Fq_mo g3 (fun c i hc => by omega) (fun _ _ h => h)) (Fq_mo r3 (fun c i hc => Or.inl hc) (fun _ _ h => h))), Fq_tr fd4 (Fq_mo q3 (fun c i hc => Or.inl hc) (fun _ _ h => h)), Or.inr ⟨rfl, rfl, _, _, r2, q2⟩⟩
      show tX12_bookLine_175 (lX12_bookLine m) T 2 (zI ((5 * n + 1 : Nat) : Int)) 5 = _ ∧ (_ → uX12_bookLine_175 (qX12_bookLine m) T 2 (zI ((5 * n + 1 : Nat) : Int)) 5)
      unfold tX12_bookLine_175 uX12_bookLine_175
      rw [if_neg ne, i1, c1, ← ht2]
      dsimp only
      rw [if_neg n21, xc, xd, if_pos (by rw [bI_0]; exact nc), if_pos (by rw [bI_0]; exact nd')]
      refine ⟨rfl, fun _ => ⟨x1, fun _ => ⟨v1, fun s2' hs _ => ?_⟩⟩⟩
      rw [hs, xc, xd]
      exact ⟨fun hc => absurd (by rw [bI_0]; exact nc) hc, fun _ hc => absurd (by rw [bI_0]; exact nd') hc⟩
end
