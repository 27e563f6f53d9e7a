-- needs: 6zc.bkc
abbrev By3 (n c i : Nat) : Prop := YtI c i ∨ (29 ≤ c ∧ c ≤ 30 ∧ i = n)
abbrev Bx3 (n c i : Nat) : Prop := XtI c i ∨ (c = 252 ∧ 5 * n + 4 ≤ i ∧ i ≤ 5 * n + 5)
section
variable {s t T : SM} {N : Nat} {bt : Nat → Int} {nb nk p n : Nat}
theorem rs_sk (hN : N ≤ 640) (hn : n < 40) (h : BhX N bt nb nk p s T) (e25 : gI s 25 0 = zI (n : Int)) : ∃ s2, mX0_readSumAndKind s 25 5 = s2 ∧ rX0_readSumAndKind s 25 5 ∧ rX12_takes T 1 99 ∧ Fq (By3 n) TkL s s2 ∧ ((vX0_readSumAndKind s 25 5 = 0 ∧ vX12_takes T 1 99 = 0 ∧ Fq (Bx3 n) TxL T (mX12_takes T 1 99) ∧ ∃ f A, FtY s2 f A ∧ FtX (mX12_takes T 1 99) f A) ∨ ∃ t2, t2 = pI (mX12_takes T 1 99) 252 (5 * n + 4) (gI (mX12_takes T 1 99) 248 18) ∧ vX12_takes T 1 99 = 1 ∧ rX12_takesName t2 9 (zI (nk : Int)) ∧ gI t2 250 1 = zI (nk : Int) ∧ ((vX0_readSumAndKind s 25 5 = 0 ∧ vX12_takesName t2 9 (zI (nk : Int)) = 0 ∧ Fq (Bx3 n) TxL T (mX12_takesName t2 9 (zI (nk : Int))) ∧ ∃ f A, FtY s2 f A ∧ FtX (mX12_takesName t2 9 (zI (nk : Int))) f A) ∨ ∃ t4 q, ∃ D E : Int, t4 = pI (mX12_takesName t2 9 (zI (nk : Int))) 252 (5 * n + 5) (gI (mX12_takesName t2 9 (zI (nk : Int))) 248 18) ∧ vX12_takesName t2 9 (zI (nk : Int)) = 1 ∧ vX0_readSumAndKind s 25 5 = 1 ∧ p ≤ q ∧ BhX N bt nb nk q s2 t4 ∧ Fq (Bx3 n) TxL T t4 ∧ (1 ≤ D ∧ D ≤ 99) ∧ (0 ≤ E ∧ E < nk) ∧ gI s2 29 n = zI D ∧ gI s2 30 n = zI E ∧ gI t4 252 (5 * n + 4) = zI D ∧ gI t4 252 (5 * n + 5) = zI E ∧ gI s2 3 2 = gI s 3 2 ∧ gI t4 248 15 = gI T 248 15)) := by
  obtain ⟨a1, a2, a3, a4, a5⟩ := bk_num hN h (lo := 1) (hi := 99) (by omega)
  have z1 : zI 1 = 1 := rfl
  have z99 : zI 99 = 99 := rfl
  rw [z1, z99] at a1 a2 a3 a4 a5
  have cn : (zI (n : Int)).toNatClampNeg = n := by rw [z_cl (by omega)]; exact Int.toNat_natCast _
  have vn : vp_in (zI (n : Int)) 40 := by rw [z_in (by omega)]; omega
  obtain ⟨s1, hs1⟩ : ∃ s1, s1 = mX9_takeNumber s 1 99 := ⟨_, rfl⟩
  obtain ⟨t1, ht1⟩ : ∃ t1, t1 = mX12_takes T 1 99 := ⟨_, rfl⟩
  rw [← hs1] at a3 a5
  rw [← ht1] at a4 a5 ⊢
  have e250 : gI T 250 1 = zI (nk : Int) := h.2.2.2.2.2.2.2.2.2.2.2.1
  have e251 : gI s1 25 0 = zI (n : Int) := by rw [a3.1 25 0 (by omega)]; exact e25
  have k10 : ¬ (1 : Int32) = 0 := by decide
  rcases a5 with ⟨b1, b2, b3, b4, q, x, b5, b6, b7, b8, b9⟩ | ⟨b1, b2, f, A, b3, b4⟩
  · obtain ⟨s2, hs2⟩ : ∃ s2, s2 = pI s1 29 n (zI x) := ⟨_, rfl⟩
    obtain ⟨t2, ht2⟩ : ∃ t2, t2 = pI t1 252 (5 * n + 4) (gI t1 248 18) := ⟨_, rfl⟩
    have g2 : Fq (fun c i => c = 29 ∧ i = n) (fun _ _ => False) s1 s2 := by rw [hs2]; exact Fq_p _ ⟨rfl, rfl⟩
    have g2' : Fq (fun c i => c = 252 ∧ i = 5 * n + 4) (fun _ _ => False) t1 t2 := by rw [ht2]; exact Fq_p _ ⟨rfl, rfl⟩
    have h2 : BhX N bt nb nk q s2 t2 := BhX_st b9 g2 g2' (fun c i hc => by omega) (fun c i hc => by omega)
    obtain ⟨c1, c2, c3, c4, c5⟩ := bk_kind hN h2
    obtain ⟨s3, hs3⟩ : ∃ s3, s3 = mX9_takeKind s2 5 := ⟨_, rfl⟩
    obtain ⟨t3, ht3⟩ : ∃ t3, t3 = mX12_takesName t2 9 (zI (nk : Int)) := ⟨_, rfl⟩
    rw [← hs3] at c3 c5
    rw [← ht3] at c4 c5
    have e253 : gI s3 25 0 = zI (n : Int) := by rw [c3.1 25 0 (by omega), g2.1 25 0 (by omega)]; exact e251
    have hs2q : pI s1 (25 + 4) n (zI x) = s2 := hs2.symm
    have fy3 : Fq (By3 n) TkL s s3 := Fq_tr (Fq_mo a3 (fun c i hc => Or.inl hc) (fun c i hc => hc)) (Fq_tr (Fq_mo g2 (fun c i hc => by omega) (fun _ _ h => h.elim)) (Fq_mo c3 (fun c i hc => Or.inl hc) (fun c i hc => hc)))
    have fx3 : Fq (Bx3 n) TxL T t3 := Fq_tr (Fq_mo a4 (fun c i hc => Or.inl hc) (fun c i hc => hc)) (Fq_tr (Fq_mo g2' (fun c i hc => by omega) (fun _ _ h => h.elim)) (Fq_mo c4 (fun c i hc => Or.inl hc) (fun c i hc => hc)))
    have RY : rX0_readSumAndKind s 25 5 := by
      unfold rX0_readSumAndKind
      rw [← hs1, e251, cn, b7, hs2q]
      exact ⟨a1, fun _ => ⟨vn, fun s2' h2 => by rw [h2, ← hs3]; exact ⟨c1, fun _ => by rw [e253]; exact vn⟩⟩⟩
    have n1 : ¬ vX9_takeNumber s 1 99 = 0 := by rw [b1]; exact k10
    rcases c5 with ⟨d1, d2, d3, d4, q2, y, d5, d6, d7, d8, d9⟩ | ⟨d1, d2, f, A, d3, d4⟩
    · obtain ⟨s4, hs4⟩ : ∃ s4, s4 = pI s3 30 n (zI y) := ⟨_, rfl⟩
      obtain ⟨t4, ht4⟩ : ∃ t4, t4 = pI t3 252 (5 * n + 5) (gI t3 248 18) := ⟨_, rfl⟩
      have g4 : Fq (fun c i => c = 30 ∧ i = n) (fun _ _ => False) s3 s4 := by rw [hs4]; exact Fq_p _ ⟨rfl, rfl⟩
      have g4' : Fq (fun c i => c = 252 ∧ i = 5 * n + 5) (fun _ _ => False) t3 t4 := by rw [ht4]; exact Fq_p _ ⟨rfl, rfl⟩
      have hs4q : pI s3 (25 + 5) n (zI y) = s4 := hs4.symm
      have n2 : ¬ vX9_takeKind s2 5 = 0 := by rw [d1]; exact k10
      have EM : mX0_readSumAndKind s 25 5 = s4 := by
        unfold mX0_readSumAndKind
        rw [if_neg n1, ← hs1, e251, cn, b7, hs2q]
        dsimp only
        rw [if_neg n2, ← hs3, e253, cn, d7, hs4q]
      have EV : vX0_readSumAndKind s 25 5 = 1 := by
        unfold vX0_readSumAndKind
        rw [if_neg n1, ← hs1, e251, cn, b7, hs2q]
        dsimp only
        rw [if_neg n2]
      refine ⟨s4, EM, RY, a2, Fq_tr fy3 (Fq_mo g4 (fun c i hc => by omega) (fun _ _ h => h.elim)), Or.inr ⟨t2, ht2, b2, c2, by rw [g2'.1 250 1 (by omega), a4.1 250 1 (by omega)]; exact e250, Or.inr ⟨t4, q2, x, y, by rw [← ht3]; exact ht4, d2, EV, by omega, BhX_st d9 g4 g4' (fun c i hc => by omega) (fun c i hc => by omega), Fq_tr fx3 (Fq_mo g4' (fun c i hc => by omega) (fun _ _ h => h.elim)), b6, d6, ?_, ?_, ?_, ?_, ?_, ?_⟩⟩⟩
      · rw [g4.1 29 n (by omega), c3.1 29 n (by omega), hs2, gI_pI, if_pos ⟨rfl, rfl⟩]
      · rw [hs4, gI_pI, if_pos ⟨rfl, rfl⟩]
      · rw [g4'.1 252 _ (by omega), c4.1 252 _ (by omega), ht2, gI_pI, if_pos ⟨rfl, rfl⟩, b8]
      · rw [ht4, gI_pI, if_pos ⟨rfl, rfl⟩, d8]
      · rw [g4.1 3 2 (by omega), d3, g2.1 3 2 (by omega), b3]
      · rw [g4'.1 248 15 (by omega), d4, g2'.1 248 15 (by omega), b4]
    · have EM : mX0_readSumAndKind s 25 5 = s3 := by
        unfold mX0_readSumAndKind
        rw [if_neg n1, ← hs1, e251, cn, b7, hs2q]
        dsimp only
        rw [if_pos d1, ← hs3]
      have EV : vX0_readSumAndKind s 25 5 = 0 := by
        unfold vX0_readSumAndKind
        rw [if_neg n1, ← hs1, e251, cn, b7, hs2q]
        dsimp only
        rw [if_pos d1]
      exact ⟨s3, EM, RY, a2, fy3, Or.inr ⟨t2, ht2, b2, c2, by rw [g2'.1 250 1 (by omega), a4.1 250 1 (by omega)]; exact e250, Or.inl ⟨EV, d2, by rw [← ht3]; exact fx3, f, A, d3, by rw [← ht3]; exact d4⟩⟩⟩
  · have EM : mX0_readSumAndKind s 25 5 = s1 := by
      unfold mX0_readSumAndKind
      rw [if_pos b1, ← hs1]
    have EV : vX0_readSumAndKind s 25 5 = 0 := by
      unfold vX0_readSumAndKind
      rw [if_pos b1]
    have RY : rX0_readSumAndKind s 25 5 := by
      unfold rX0_readSumAndKind
      exact ⟨a1, fun hc => absurd b1 hc⟩
    exact ⟨s1, EM, RY, a2, Fq_mo a3 (fun c i hc => Or.inl hc) (fun c i hc => hc), Or.inl ⟨EV, b2, Fq_mo a4 (fun c i hc => Or.inl hc) (fun c i hc => hc), f, A, b3, b4⟩⟩
theorem rs_deal (hN : N ≤ 640) (hn : n < 40) (h : BhX N bt nb nk p s T) (e25 : gI s 25 0 = zI (n : Int)) (hz : ∀ j, 5 * n + 2 ≤ j → j ≤ 5 * n + 5 → gI T 252 j = 0) (hT : mX12_next (pI t 252 (5 * n + 1) 0) = T) (rT : rX12_next (pI t 252 (5 * n + 1) 0)) : ∃ t1 v1, ST 1 (fun m => (lX12_bookLine m).1 t 0 (zI ((5 * n + 1 : Nat) : Int)) 5) (fun m => (qX12_bookLine m).1 t 0 (zI ((5 * n + 1 : Nat) : Int)) 5) (fun _ => (v1, t1)) (fun _ => True) ∧ rX0_readRest s 25 5 0 ∧ RsT N bt nb nk n 0 p s (mX0_readRest s 25 5 0) (vX0_readRest s 25 5 0) T t1 v1 := by
  obtain ⟨s2, y1, y2, x1, x2, fy, cs⟩ := rs_two hN hn h e25
  have up : ∀ c i, Bx2 n c i → BxN n c i := fun c i hc => by omega
  have up3 : ∀ c i, Bx3 n c i → BxN n c i := fun c i hc => by omega
  have upy : ∀ c i, By3 n c i → ByN n c i := fun c i hc => by omega
  have l5 : (5 : Int32) ≤ 5 := by decide
  have n43 : ¬ (0 : Int32) = 3 := by decide
  have n45 : ¬ (0 : Int32) = 5 := by decide
  have n41 : ¬ (0 : Int32) = 1 := by decide
  have n42 : ¬ (0 : Int32) = 2 := by decide
  have n44 : ¬ (0 : Int32) = 4 := by decide
  have k10 : ¬ (1 : Int32) = 0 := by decide
  have c0 : ((0 : Int32)).toNatClampNeg = 0 := rfl
  have c1' : ((1 : Int32)).toNatClampNeg = 1 := rfl
  have ca : (zI ((5 * n + 1 : Nat) : Int)).toNatClampNeg = 5 * n + 1 := by rw [z_cl (by omega)]; exact Int.toNat_natCast _
  have i1 : zI ((5 * n + 1 : Nat) : Int) + 1 = zI ((5 * n + 2 : Nat) : Int) := by rw [zl1, z_add]; congr 1
  have i2 : zI ((5 * n + 1 : Nat) : Int) + 2 = zI ((5 * n + 3 : Nat) : Int) := by rw [zl2, z_add]; congr 1
  have i3 : zI ((5 * n + 1 : Nat) : Int) + 3 = zI ((5 * n + 4 : Nat) : Int) := by rw [zl3, z_add]; congr 1
  have i4 : zI ((5 * n + 1 : Nat) : Int) + 4 = zI ((5 * n + 5 : Nat) : Int) := by rw [zl4, z_add]; congr 1
  have c1 : (zI ((5 * n + 2 : Nat) : Int)).toNatClampNeg = 5 * n + 2 := by rw [z_cl (by omega)]; exact Int.toNat_natCast _
  have c2 : (zI ((5 * n + 3 : Nat) : Int)).toNatClampNeg = 5 * n + 3 := by rw [z_cl (by omega)]; exact Int.toNat_natCast _
  have c3 : (zI ((5 * n + 4 : Nat) : Int)).toNatClampNeg = 5 * n + 4 := by rw [z_cl (by omega)]; exact Int.toNat_natCast _
  have c4 : (zI ((5 * n + 5 : Nat) : Int)).toNatClampNeg = 5 * n + 5 := by rw [z_cl (by omega)]; exact Int.toNat_natCast _
  have v0 : vp_in (zI ((5 * n + 1 : Nat) : Int)) 201 := by rw [z_in (by omega)]; omega
  have v1 : vp_in (zI ((5 * n + 2 : Nat) : Int)) 201 := by rw [z_in (by omega)]; omega
  have v2 : vp_in (zI ((5 * n + 3 : Nat) : Int)) 201 := by rw [z_in (by omega)]; omega
  have v3 : vp_in (zI ((5 * n + 4 : Nat) : Int)) 201 := by rw [z_in (by omega)]; omega
  have v4 : vp_in (zI ((5 * n + 5 : Nat) : Int)) 201 := by rw [z_in (by omega)]; omega
  have RY : (¬ vX0_readTwoBodies s 25 5 = 0 → rX0_readSumAndKind s2 25 5) → rX0_readRest s 25 5 0 := by
    intro hh
    unfold rX0_readRest
    rw [y1]
    exact ⟨fun _ => ⟨y2, hh⟩, fun hc => absurd hc n41, fun hc => absurd hc n42, fun hc => absurd hc n44⟩
  have MV : (vX0_readTwoBodies s 25 5 = 0 → mX0_readRest s 25 5 0 = s2 ∧ vX0_readRest s 25 5 0 = 0) ∧ (¬ vX0_readTwoBodies s 25 5 = 0 → mX0_readRest s 25 5 0 = mX0_readSumAndKind s2 25 5 ∧ vX0_readRest s 25 5 0 = if vX0_readSumAndKind s2 25 5 = 0 then 0 else 1) := by
    unfold mX0_readRest vX0_readRest
    rw [if_pos rfl, if_pos rfl, y1]
    exact ⟨fun hc => by rw [if_pos hc, if_pos hc]; exact ⟨rfl, rfl⟩, fun hc => by rw [if_neg hc, if_neg hc]; exact ⟨rfl, rfl⟩⟩
  rcases cs with ⟨e1, e2, f1, f, A, e3, e4⟩ | ⟨t2, ht2, e1, e2, e3, ⟨e4, e5, f3, f, A, e6, e7⟩ | ⟨t4, q, B, C, ht4, d1, d2, d3, d4, d5, d6, d7, d8, d9, d10, d11, d12, d13⟩⟩
  · rw [(MV.1 e1).1, (MV.1 e1).2]
    refine ⟨_, 0, ST_1 fun m => ?_, RY (fun hc => absurd e1 hc), fy, Fq_mo f1 up (fun _ _ h => h), Or.inr ⟨rfl, rfl, f, A, e3, e4⟩⟩
    show tX12_bookLine_122 (lX12_bookLine m) t 0 (zI ((5 * n + 1 : Nat) : Int)) 5 = _ ∧ (_ → uX12_bookLine_122 (qX12_bookLine m) t 0 (zI ((5 * n + 1 : Nat) : Int)) 5)
    unfold tX12_bookLine_122 uX12_bookLine_122
    rw [if_pos l5, if_neg n43, if_neg n45, if_neg n41, if_neg n42, ca, hT, c0, x2]
    dsimp only
    rw [e2, if_pos rfl]
    exact ⟨rfl, fun _ => ⟨fun _ => ⟨v0, rT, fun _ _ => ⟨fun hc => absurd hc n41, fun _ => ⟨fun _ => ⟨x1, fun s2 _ hc => absurd rfl hc⟩, fun hc => absurd hc n42⟩⟩⟩, fun hc => absurd l5 hc⟩⟩
  · rw [(MV.1 e4).1, (MV.1 e4).2]
    refine ⟨_, 0, ST_1 fun m => ?_, RY (fun hc => absurd e4 hc), fy, Fq_mo f3 up (fun _ _ h => h), Or.inr ⟨rfl, rfl, f, A, e6, e7⟩⟩
    show tX12_bookLine_122 (lX12_bookLine m) t 0 (zI ((5 * n + 1 : Nat) : Int)) 5 = _ ∧ (_ → uX12_bookLine_122 (qX12_bookLine m) t 0 (zI ((5 * n + 1 : Nat) : Int)) 5)
    unfold tX12_bookLine_122 uX12_bookLine_122
    rw [if_pos l5, if_neg n43, if_neg n45, if_neg n41, if_neg n42, ca, hT, c0, x2]
    dsimp only
    rw [e1, if_neg k10, i1, c1, ← ht2, e3, e5, if_pos rfl]
    refine ⟨rfl, fun _ => ⟨fun _ => ⟨v0, rT, fun _ _ => ⟨fun hc => absurd hc n41, fun _ => ⟨fun _ => ⟨x1, fun s2' h2 _ => ?_⟩, fun hc => absurd hc n42⟩⟩⟩, fun hc => absurd l5 hc⟩⟩
    rw [h2, ← ht2, e3, e5]
    exact ⟨v1, e2, fun _ _ hc => absurd rfl hc⟩
  · have e252 : gI s2 25 0 = zI (n : Int) := by rw [fy.1 25 0 (by omega)]; exact e25
    obtain ⟨s3, w1, w2, w3, fw, ws⟩ := rs_sk hN hn d4 e252
    have n2 : ¬ vX0_readTwoBodies s 25 5 = 0 := by rw [d2]; exact k10
    rw [(MV.2 n2).1, (MV.2 n2).2, w1]
    have fyy : Fq (ByN n) TkL s s3 := Fq_tr fy (Fq_mo fw upy (fun _ _ h => h))
    have fx4 : Fq (BxN n) TxL T t4 := Fq_mo d5 up (fun _ _ h => h)
    have RR' : rX0_readRest s 25 5 0 := RY (fun _ => w2)
    -- the reference's way to here
    have way : ∀ (m : Nat) (X : Int32 × SM), (if vX12_takes t4 1 99 = 0 then ((0 : Int32), mX12_takes t4 1 99) else ((fun (s7 : SM) => (if (vX12_takesName s7 (9 : Int32) (gI s7 250 ((1 : Int32)).toNatClampNeg)) = 0 then ((0 : Int32), (mX12_takesName s7 (9 : Int32) (gI s7 250 ((1 : Int32)).toNatClampNeg))) else ((fun (s9 : SM) => ((1 : Int32), s9)) (pI (mX12_takesName s7 (9 : Int32) (gI s7 250 ((1 : Int32)).toNatClampNeg)) 252 ((zI ((5 * n + 1 : Nat) : Int) + (4 : Int32))).toNatClampNeg (gI (mX12_takesName s7 (9 : Int32) (gI s7 250 ((1 : Int32)).toNatClampNeg)) 248 18))))) (pI (mX12_takes t4 (1 : Int32) (99 : Int32)) 252 ((zI ((5 * n + 1 : Nat) : Int) + (3 : Int32))).toNatClampNeg (gI (mX12_takes t4 (1 : Int32) (99 : Int32)) 248 18)))) = X → (¬ vX12_takes t4 1 99 = 0 → ∀ s7, s7 = pI (mX12_takes t4 1 99) 252 (5 * n + 4) (gI (mX12_takes t4 1 99) 248 18) → rX12_takesName s7 9 (gI s7 250 1)) → tX12_bookLine_122 (lX12_bookLine m) t 0 (zI ((5 * n + 1 : Nat) : Int)) 5 = X ∧ uX12_bookLine_122 (qX12_bookLine m) t 0 (zI ((5 * n + 1 : Nat) : Int)) 5 := by
      intro m X hX hR
      unfold tX12_bookLine_122 uX12_bookLine_122
      rw [if_pos l5, if_neg n43, if_neg n45, if_neg n41, if_neg n42, ca, hT, c0, x2]
      dsimp only
      rw [e1, if_neg k10, i1, c1, ← ht2, e3, d1, if_neg k10, if_neg n44, i2, c2, ← ht4]
      refine ⟨hX, fun _ => ⟨v0, rT, fun _ _ => ⟨fun hc => absurd hc n41, fun _ => ⟨fun _ => ⟨x1, fun s2' h2 _ => ?_⟩, fun hc => absurd hc n42⟩⟩⟩, fun hc => absurd l5 hc⟩
      rw [h2, ← ht2, e3]
      refine ⟨v1, e2, fun s4' h4 _ => ⟨v2, fun _ => ?_⟩⟩
      rw [h4, ← ht4, i3, c3]
      exact ⟨w3, fun hh => ⟨v3, fun s7 h7 => ⟨hR hh s7 h7, fun _ => by rw [i4]; exact v4⟩⟩⟩
    rcases ws with ⟨e1, e2, f1, f, A, e3, e4⟩ | ⟨u2, hu2, e1', e2', e3', ⟨e4, e5, f3, f, A, e6, e7⟩ | ⟨u4, q', D, E, hu4, g1, g2, g3, g4, g5, g6, g7, g8, g9, g10, g11, g12, g13⟩⟩
    · rw [e1, if_pos rfl]
      refine ⟨_, 0, ST_1 fun m => ?_, RR', fyy, Fq_tr fx4 (Fq_mo f1 up3 (fun _ _ h => h)), Or.inr ⟨rfl, rfl, f, A, e3, e4⟩⟩
      obtain ⟨q1, q2⟩ := way m (0, mX12_takes t4 1 99) (by rw [if_pos e2]) (fun hc => absurd e2 hc)
      exact ⟨q1, fun _ => q2⟩
    · rw [e4, if_pos rfl]
      refine ⟨_, 0, ST_1 fun m => ?_, RR', fyy, Fq_tr fx4 (Fq_mo f3 up3 (fun _ _ h => h)), Or.inr ⟨rfl, rfl, f, A, e6, e7⟩⟩
      obtain ⟨q1, q2⟩ := way m (0, mX12_takesName u2 9 (zI (nk : Int))) (by rw [e1', if_neg k10, i3, c3, ← hu2]; dsimp only; rw [c1', e3', e5, if_pos rfl]) (fun _ s7 h7 => by rw [h7, ← hu2, e3']; exact e2')
      exact ⟨q1, fun _ => q2⟩
    · rw [g2, if_neg k10]
      refine ⟨u4, 1, ST_1 fun m => ?_, RR', fyy, Fq_tr fx4 (Fq_mo g5 up3 (fun _ _ h => h)), Or.inl ⟨rfl, rfl, by rw [g12, d12], by rw [g13, d13], q', B, C, D, E, by omega, g4, ⟨by omega, fun _ => ⟨d6, d7, g6, g7⟩, fun hc => absurd hc (by decide), fun hc => absurd hc (by decide), fun hc => absurd hc (by decide)⟩, ⟨fun _ => ⟨by rw [fw.1 27 n (by omega)]; exact d8, by rw [fw.1 28 n (by omega)]; exact d9, g8, g9⟩, fun hc => absurd hc (by decide), fun hc => absurd hc (by decide), fun hc => absurd hc (by decide)⟩, by rw [g5.1 252 _ (by omega)]; exact d10, by rw [g5.1 252 _ (by omega)]; exact d11, g10, g11⟩⟩
      obtain ⟨q1, q2⟩ := way m (1, u4) (by rw [e1', if_neg k10, i3, c3, ← hu2]; dsimp only; rw [c1', e3', g1, if_neg k10, i4, c4, ← hu4]) (fun _ s7 h7 => by rw [h7, ← hu2, e3']; exact e2')
      exact ⟨q1, fun _ => q2⟩
end
