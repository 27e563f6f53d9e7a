-- needs: 6zg.bkg
section
variable {s t : SM} {N : Nat} {bt : Nat → Int}
/-- the book takes over the draft -/
theorem y_bookCopy (s : SM) : gI (mX0_copyFrom s 19 25) 19 0 = gI s 25 0 ∧ (∀ c i, 20 ≤ c → c ≤ 24 → i < 40 → gI (mX0_copyFrom s 19 25) c i = gI s (c + 6) i) ∧ Fq (fun c _ => 19 ≤ c ∧ c ≤ 24) (fun _ _ => False) s (mX0_copyFrom s 19 25) := by
  unfold mX0_copyFrom
  dsimp only
  have z0 : ((0 : Int32)).toNatClampNeg = 0 := rfl
  have z40 : ((40 : Int32)).toNatClampNeg = 40 := rfl
  simp only [z0, z40, Nat.reduceAdd]
  refine ⟨?_, fun c i h1 h2 hi => ?_, ?_⟩
  · simp only [gI_pI, gI_cI, Nat.reduceEqDiff, and_true, and_false, false_and, true_and, if_true, if_false]
  · obtain rfl | rfl | rfl | rfl | rfl : c = 20 ∨ c = 21 ∨ c = 22 ∨ c = 23 ∨ c = 24 := by omega
    all_goals simp only [gI_pI, gI_cI, Nat.reduceAdd, Nat.reduceEqDiff, and_true, and_false, false_and, true_and, if_true, if_false, va_lo _ _ hi]
  · exact Fq_tr (Fq_cI _ _ (by omega)) (Fq_tr (Fq_cI _ _ (by omega)) (Fq_tr (Fq_cI _ _ (by omega)) (Fq_tr (Fq_cI _ _ (by omega)) (Fq_tr (Fq_cI _ _ (by omega)) (Fq_p _ (by omega))))))
/-- the reference's book, read to its end -/
theorem x_bookTail {n : Nat} (hn : n ≤ 40) (t : SM) (h : gI t 248 36 = zI (n : Int)) : ∃ t', ST 300 (fun m => (lX12_book m).2 t 0) (fun m => (qX12_book m).2 t 0) (fun _ => (zI (n : Int), t')) (fun _ => True) ∧ (∀ k, k ≤ 5 * n → gI t' 250 (586 + k) = gI t 252 k) ∧ Fq (fun c i => c = 250 ∧ 586 ≤ i ∧ i ≤ 586 + 5 * n) (fun _ _ => False) t t' := by
  have e5 : 5 * zI (n : Int) = zI ((5 * n : Nat) : Int) := by rw [show (5 : Int32) = zI 5 from rfl, z_mul]; congr 1
  obtain ⟨t', ⟨i1, i2⟩, st⟩ := ST_up (B := 1) (5 * n + 1) (fun (d : Nat) (u : SM) => (∀ k, k < d → gI u 250 (586 + k) = gI t 252 k) ∧ Fq (fun c i => c = 250 ∧ 586 ≤ i ∧ i ≤ 586 + 5 * n) (fun _ _ => False) t u) (fun d u m => (lX12_book m).2 u (zI (d : Int))) (fun d u m => (qX12_book m).2 u (zI (d : Int))) (fun d u hd ⟨a1, a2⟩ => by
    have e36 : gI u 248 36 = zI (n : Int) := by rw [a2.1 248 36 (by omega)]; exact h
    have n1 : ¬ zI ((5 * n : Nat) : Int) < zI (d : Int) := by rw [z_lt (by omega) (by omega)]; omega
    have cj : (zI (d : Int)).toNatClampNeg = d := by rw [z_cl (by omega)]; exact Int.toNat_natCast _
    have ea : 586 + zI (d : Int) = zI ((586 + d : Nat) : Int) := by rw [show (586 : Int32) = zI 586 from rfl, z_add]; congr 1
    have ca : (zI ((586 + d : Nat) : Int)).toNatClampNeg = 586 + d := by rw [z_cl (by omega)]; exact Int.toNat_natCast _
    have e1 : zI (d : Int) + 1 = zI ((d + 1 : Nat) : Int) := by rw [zl1, z_add]; congr 1
    have e252 : gI u 252 d = gI t 252 d := a2.1 252 d (by omega)
    refine ⟨pI u 250 (586 + d) (gI t 252 d), ⟨fun k hk => ?_, Fq_tr a2 (Fq_p _ (by omega))⟩, ST_1 fun m => ?_⟩
    · rw [gI_pI]
      by_cases hq : k = d
      · rw [if_pos ⟨rfl, by omega⟩, hq]
      · rw [if_neg (by omega)]; exact a1 k (by omega)
    · show tX12_book_81 (lX12_book m) u (zI (d : Int)) = _ ∧ (_ → uX12_book_81 (qX12_book m) u (zI (d : Int)))
      unfold tX12_book_81 uX12_book_81
      rw [e36, e5, if_neg n1, ea, ca, cj, e252, e1]
      exact ⟨rfl, fun hh _ => ⟨by rw [z_in (by omega)]; omega, by rw [z_in (by omega)]; omega, hh⟩⟩) (5 * n + 1) 0 t (by omega) ⟨fun k hk => absurd hk (by omega), Fq_rf _ _ _⟩
  have e36 : gI t' 248 36 = zI (n : Int) := by rw [i2.1 248 36 (by omega)]; exact h
  have l1 : zI ((5 * n : Nat) : Int) < zI ((5 * n + 1 : Nat) : Int) := by rw [z_lt (by omega) (by omega)]; omega
  have p1 : ST 1 (fun m => (lX12_book m).2 t' (zI ((5 * n + 1 : Nat) : Int))) (fun m => (qX12_book m).2 t' (zI ((5 * n + 1 : Nat) : Int))) (fun _ => (zI (n : Int), t')) (fun _ => True) := by
    refine ST_1 fun m => ?_
    show tX12_book_81 (lX12_book m) t' (zI ((5 * n + 1 : Nat) : Int)) = _ ∧ (_ → uX12_book_81 (qX12_book m) t' (zI ((5 * n + 1 : Nat) : Int)))
    unfold tX12_book_81 uX12_book_81
    rw [e36, e5, if_pos l1]
    exact ⟨rfl, fun _ hc => absurd l1 hc⟩
  exact ⟨t', ST_mono (ST_trans st p1) (by omega), fun k hk => i1 k (by omega), i2⟩
abbrev BxI (c i : Nat) : Prop := c = 250 ∧ 586 ≤ i ∧ i < 787 ∨ c = 252 ∨ (c = 248 ∧ (i ≤ 5 ∨ (11 ≤ i ∧ i ≤ 18) ∨ i = 36))
theorem Xb_Bx {c i : Nat} (h : XbI c i) : BxI c i := by omega
/-- a book's text on both sides -/
theorem bk_read {nb nk : Nat} (hN : N ≤ 640) (hy : TpY s N bt) (hx : TpX t N bt) (hr : ReT t) (hc : CtR s t nb nk) : ∃ s' t', mX0_readFrom s 25 5 = s' ∧ rX0_readFrom s 25 5 ∧ rX12_book t ∧ mX12_book t = t' ∧ Fq YbI TkL s s' ∧ Fq BxI TxL t t' ∧ gI t' 248 2 = 0 ∧ ((vX0_readFrom s 25 5 = 1 ∧ (∃ n t1, DbR s' t1 nb nk n ∧ vX12_book t = zI (n : Int) ∧ gI t1 252 0 = zI (n : Int) ∧ (∀ k, k ≤ 5 * n → gI t' 250 (586 + k) = gI t1 252 k) ∧ ∀ i, (i < 586 ∨ 586 + 5 * n < i) → gI t' 250 i = gI t 250 i) ∧ gI t' 248 15 = 0 ∧ gI s' 3 2 = 0) ∨ (vX0_readFrom s 25 5 = 0 ∧ (∀ i, gI t' 250 i = gI t 250 i) ∧ ∃ f A, FtY s' f A ∧ FtX t' f A ∧ vX12_book t = -1 - zI (A : Int))) := by
  obtain ⟨s0, hs0⟩ : ∃ s0, s0 = mX9_begin (pI s 25 0 0) := ⟨_, rfl⟩
  have f0 : Fq YbI TkL s s0 := by
    rw [hs0]
    unfold mX9_begin
    exact Fq_tr (Fq_p _ (by omega)) (Fq_tr (Fq_p _ (by omega)) (Fq_tr (Fq_p _ (by omega)) (Fq_p _ (by omega))))
  have v0 : gI s0 25 0 = 0 ∧ gI s0 3 7 = 0 ∧ gI s0 3 2 = 0 := by
    rw [hs0]
    unfold mX9_begin
    refine ⟨?_, ?_, ?_⟩
    all_goals simp only [gI_pI]
    all_goals rfl
  obtain ⟨a25, a37, a32⟩ := v0
  obtain ⟨t0, ht0⟩ : ∃ t0, t0 = pI (pI (mX12_taken (pI t 248 0 0) 600) 248 15 0) 248 36 0 := ⟨_, rfl⟩
  have g0 : Fq (fun c i => c = 248 ∧ (i ≤ 5 ∨ i = 15 ∨ i = 36)) (fun _ _ => False) t t0 := by
    rw [ht0]
    unfold mX12_taken
    exact Fq_tr (Fq_p _ (by omega)) (Fq_tr (Fq_p _ (by omega)) (Fq_tr (Fq_p _ (by omega)) (Fq_tr (Fq_p _ (by omega)) (Fq_tr (Fq_p _ (by omega)) (Fq_tr (Fq_p _ (by omega)) (Fq_p _ (by omega)))))))
  have w0 : gI t0 248 2 = 0 ∧ gI t0 248 3 = zI (N : Int) ∧ gI t0 248 4 = zI ((0 : Nat) : Int) ∧ gI t0 248 5 = zI 600 ∧ gI t0 248 15 = 0 ∧ gI t0 248 36 = 0 := by
    rw [ht0]
    unfold mX12_taken
    refine ⟨?_, ?_, ?_, ?_, ?_, ?_⟩
    all_goals simp only [gI_pI]
    all_goals first
    | rfl
    | exact hx.1
  obtain ⟨b2, b3, b4, b5, b15, b36⟩ := w0
  have hs : TkS t0 N bt := ⟨b3, b5, fun i hi => by rw [g0.1 249 i (by omega)]; exact hx.2 i hi⟩
  obtain ⟨t1, x1, x2, x3, x4⟩ := x_next hs hN (Nat.zero_le _) b4
  have gt1 : Fq (fun c i => c = 248 ∧ (i ≤ 5 ∨ (11 ≤ i ∧ i ≤ 15) ∨ i = 36)) TxL t t1 := Fq_tr (Fq_mo g0 (fun c i hc => by omega) (fun _ _ h => h.elim)) (Fq_mo x3 (fun c i hc => by omega) (fun _ _ h => h))
  have hd : DbR s0 t1 nb nk 0 := ⟨by omega, by rw [a25]; rfl, by rw [x3.1 248 36 (by omega), b36]; rfl, fun i hi => absurd hi (by omega)⟩
  obtain ⟨s', t2, d1, d2, d3⟩ := rdb_loop hN (nb := nb) (nk := nk) 40 0 s0 t1 0 (by omega) (Nat.zero_le _) (TpY_fq hy f0 (fun c i hc => by omega)) (TkS_fq hs x3 (fun c i hc => by omega)) (fun i hi => by rw [gt1.2.1 254 i (by omega)]; exact hr i hi) (by rw [a37]; rfl) x4 (CtR_fq hc f0 gt1 (fun i hi => by omega) (fun c i hc => by omega) (fun i hi => by omega) (fun i => by omega)) hd
  have f1 : Fq YbI TkL s s' := Fq_tr f0 d1
  have f2 : Fq BxI TxL t t2 := Fq_tr (Fq_mo gt1 (fun c i hc => by omega) (fun _ _ h => h)) (Fq_mo d2 (fun _ _ hc => Xb_Bx hc) (fun _ _ h => h))
  have g2 : gI t2 248 2 = 0 := by rw [d2.1 248 2 (by omega), x3.1 248 2 (by omega)]; exact b2
  have g250 : ∀ i, gI t2 250 i = gI t 250 i := fun i => by rw [d2.1 250 i (by omega), gt1.1 250 i (by omega)]
  have z0 : zI ((0 : Nat) : Int) = 0 := rfl
  rw [z0] at d3
  have RX : ∀ {q : Prop}, q → (q → (qX12_book FU).1 t1) → rX12_book t := fun hq hh => by
    unfold rX12_book
    rw [← ht0, x1]
    exact ⟨x2, hh hq⟩
  rcases d3 with ⟨e1, e2, ⟨n, m1⟩, e5, e6⟩ | ⟨f, A, e1, e2, e3, e4⟩
  · obtain ⟨mn, m25, m36, mL⟩ := id m1
    obtain ⟨t3, ht3⟩ : ∃ t3, t3 = pI t2 252 0 (zI (n : Int)) := ⟨_, rfl⟩
    have g3 : Fq (fun c i => c = 252 ∧ i = 0) (fun _ _ => False) t2 t3 := by rw [ht3]; exact Fq_p _ ⟨rfl, rfl⟩
    rw [m36, ← ht3] at e2
    obtain ⟨t4, st4, n1, n2⟩ := x_bookTail mn t3 (by rw [g3.1 248 36 (by omega)]; exact m36)
    obtain ⟨EY, RY⟩ := ST_fu e1 (by omega)
    obtain ⟨EX, RX'⟩ := ST_fu (ST_trans e2 st4) (by omega)
    have EY' : fX0_readFrom s 25 5 = (1, s') := by unfold fX0_readFrom; rw [← hs0]; exact EY
    have EX' : fX12_book t = (zI (n : Int), t4) := by unfold fX12_book; rw [← ht0, x1]; exact EX
    refine ⟨s', t4, by unfold mX0_readFrom; rw [EY'], by unfold rX0_readFrom; rw [← hs0]; exact RY, RX trivial (fun _ => RX'), by unfold mX12_book; rw [EX'], f1, Fq_tr f2 (Fq_tr (Fq_mo g3 (fun c i hc => by omega) (fun _ _ h => h.elim)) (Fq_mo n2 (fun c i hc => by omega) (fun _ _ h => h.elim))), ?_, Or.inl ⟨by unfold vX0_readFrom; rw [EY'], ⟨n, t3, DbR_fr m1 rfl (g3.1 248 36 (by omega)) (fun _ _ _ _ => rfl) (fun j hj => g3.1 252 j (by omega)), by unfold vX12_book; rw [EX'], by rw [ht3, gI_pI, if_pos ⟨rfl, rfl⟩], n1, fun i hi => ?_⟩, ?_, ?_⟩⟩
    · rw [n2.1 248 2 (by omega), g3.1 248 2 (by omega)]; exact g2
    · rw [n2.1 250 i (by omega), g3.1 250 i (by omega)]; exact g250 i
    · rw [n2.1 248 15 (by omega), g3.1 248 15 (by omega), e6, x3.1 248 15 (by omega)]; exact b15
    · rw [e5]; exact a32
  · obtain ⟨EY, RY⟩ := ST_fu e1 (by omega)
    obtain ⟨EX, RX'⟩ := ST_fu e2 (by omega)
    have EY' : fX0_readFrom s 25 5 = (0, s') := by unfold fX0_readFrom; rw [← hs0]; exact EY
    have EX' : fX12_book t = (-1 - gI t2 248 16, t2) := by unfold fX12_book; rw [← ht0, x1]; exact EX
    exact ⟨s', t2, by unfold mX0_readFrom; rw [EY'], by unfold rX0_readFrom; rw [← hs0]; exact RY, RX trivial (fun _ => RX'), by unfold mX12_book; rw [EX'], f1, f2, g2, Or.inr ⟨by unfold vX0_readFrom; rw [EY'], g250, f, A, e3, e4, by unfold vX12_book; rw [EX', e4.2]⟩⟩
end
