-- needs: 6k.nam
/-! the lines of a port -/
abbrev PyI (c i : Nat) : Prop := YtI c i ∨ (c = 12 ∧ (i = 6 ∨ i = 7 ∨ i = 8 ∨ i = 9 ∨ i = 12 ∨ i = 13)) ∨ c = 14 ∨ c = 15 ∨ c = 17 ∨ c = 18
abbrev PyL (c i : Nat) : Prop := TkL c i ∨ c = 13 ∨ c = 16
abbrev PxI (c i : Nat) : Prop := XtI c i ∨ c = 251 ∨ (c = 248 ∧ (i = 20 ∨ i = 21))
abbrev PxL (c i : Nat) : Prop := TxL c i ∨ (c = 253 ∧ 15 ≤ i)
def BdR (s t : SM) (nb : Nat) : Prop := nb ≤ 9 ∧ gI s 12 6 = zI (nb : Int) ∧ gI t 251 0 = zI (nb : Int) ∧ ∀ b, b < nb → gL s 13 b = gL t 253 (15 + b) ∧ ∃ r x : Int, (1 ≤ r ∧ r ≤ 99) ∧ (-1 ≤ x ∧ x < nb) ∧ gI s 14 b = zI r ∧ gI t 251 (4 + b) = zI r ∧ gI s 15 b = zI x ∧ gI t 251 (13 + b) = zI x
def KiR (s t : SM) (nk : Nat) : Prop := nk ≤ 6 ∧ gI s 12 7 = zI (nk : Int) ∧ gI t 251 1 = zI (nk : Int) ∧ ∀ k, k < nk → gL s 16 k = gL t 253 (24 + k) ∧ ∃ z y : Int, (1 ≤ z ∧ z ≤ 9) ∧ (0 ≤ y ∧ y ≤ 4) ∧ gI s 17 k = zI z ∧ gI t 251 (22 + k) = zI z ∧ gI s 18 k = zI y ∧ gI t 251 (28 + k) = zI y
def LiR (s t : SM) : Prop := (∃ l : Int, (0 ≤ l ∧ l ≤ 9) ∧ gI s 12 8 = zI l ∧ gI t 251 2 = zI l) ∧ (∃ d : Int, (0 ≤ d ∧ d ≤ 9) ∧ gI s 12 9 = zI d ∧ gI t 251 3 = zI d) ∧ ((gI s 12 12 = 0 ∧ gI t 248 20 = 0) ∨ (gI s 12 12 = 1 ∧ gI t 248 20 = 1)) ∧ ((gI s 12 13 = 0 ∧ gI t 248 21 = 0) ∨ (gI s 12 13 = 1 ∧ gI t 248 21 = 1))
theorem BdR_fq {s s' t t' : SM} {nb : Nat} {A B A' B' : Nat → Nat → Prop} (h : BdR s t nb) (f : Fq A B s s') (f' : Fq A' B' t t') (hA : ∀ c i, (c = 12 ∧ i = 6) ∨ ((c = 14 ∨ c = 15) ∧ i < nb) → ¬ A c i) (hB : ∀ i, i < nb → ¬ B 13 i) (hA' : ∀ i, i = 0 ∨ (4 ≤ i ∧ i < 4 + nb) ∨ (13 ≤ i ∧ i < 13 + nb) → ¬ A' 251 i) (hB' : ∀ i, 15 ≤ i → i < 15 + nb → ¬ B' 253 i) : BdR s' t' nb := by
  obtain ⟨h1, h2, h3, h4⟩ := h
  refine ⟨h1, by rw [f.1 _ _ (hA _ _ (by omega))]; exact h2, by rw [f'.1 _ _ (hA' _ (by omega))]; exact h3, fun b hb => ?_⟩
  obtain ⟨a, r, x, c1, c2, c3, c4, c5, c6⟩ := h4 b hb
  refine ⟨by rw [f.2.1 _ _ (hB _ hb), f'.2.1 _ _ (hB' _ (by omega) (by omega))]; exact a, r, x, c1, c2, ?_, ?_, ?_, ?_⟩
  · rw [f.1 _ _ (hA _ _ (by omega))]; exact c3
  · rw [f'.1 _ _ (hA' _ (by omega))]; exact c4
  · rw [f.1 _ _ (hA _ _ (by omega))]; exact c5
  · rw [f'.1 _ _ (hA' _ (by omega))]; exact c6
theorem KiR_fq {s s' t t' : SM} {nk : Nat} {A B A' B' : Nat → Nat → Prop} (h : KiR s t nk) (f : Fq A B s s') (f' : Fq A' B' t t') (hA : ∀ c i, (c = 12 ∧ i = 7) ∨ ((c = 17 ∨ c = 18) ∧ i < nk) → ¬ A c i) (hB : ∀ i, i < nk → ¬ B 16 i) (hA' : ∀ i, i = 1 ∨ (22 ≤ i ∧ i < 22 + nk) ∨ (28 ≤ i ∧ i < 28 + nk) → ¬ A' 251 i) (hB' : ∀ i, 24 ≤ i → i < 24 + nk → ¬ B' 253 i) : KiR s' t' nk := by
  obtain ⟨h1, h2, h3, h4⟩ := h
  refine ⟨h1, by rw [f.1 _ _ (hA _ _ (by omega))]; exact h2, by rw [f'.1 _ _ (hA' _ (by omega))]; exact h3, fun b hb => ?_⟩
  obtain ⟨a, r, x, c1, c2, c3, c4, c5, c6⟩ := h4 b hb
  refine ⟨by rw [f.2.1 _ _ (hB _ hb), f'.2.1 _ _ (hB' _ (by omega) (by omega))]; exact a, r, x, c1, c2, ?_, ?_, ?_, ?_⟩
  · rw [f.1 _ _ (hA _ _ (by omega))]; exact c3
  · rw [f'.1 _ _ (hA' _ (by omega))]; exact c4
  · rw [f.1 _ _ (hA _ _ (by omega))]; exact c5
  · rw [f'.1 _ _ (hA' _ (by omega))]; exact c6
theorem LiR_fq {s s' t t' : SM} {A B A' B' : Nat → Nat → Prop} (h : LiR s t) (f : Fq A B s s') (f' : Fq A' B' t t') (hA : ∀ i, i = 8 ∨ i = 9 ∨ i = 12 ∨ i = 13 → ¬ A 12 i) (hA' : ∀ c i, (c = 251 ∧ (i = 2 ∨ i = 3)) ∨ (c = 248 ∧ (i = 20 ∨ i = 21)) → ¬ A' c i) : LiR s' t' := by
  obtain ⟨⟨l, a1, a2, a3⟩, ⟨d, b1, b2, b3⟩, c, e⟩ := h
  refine ⟨⟨l, a1, ?_, ?_⟩, ⟨d, b1, ?_, ?_⟩, ?_, ?_⟩
  · rw [f.1 _ _ (hA _ (by omega))]; exact a2
  · rw [f'.1 _ _ (hA' _ _ (by omega))]; exact a3
  · rw [f.1 _ _ (hA _ (by omega))]; exact b2
  · rw [f'.1 _ _ (hA' _ _ (by omega))]; exact b3
  · rw [f.1 _ _ (hA _ (by omega)), f'.1 _ _ (hA' _ _ (by omega))]; exact c
  · rw [f.1 _ _ (hA _ (by omega)), f'.1 _ _ (hA' _ _ (by omega))]; exact e
theorem tok_pos {N : Nat} (bt : Nat → Int) {p : Nat} (hp : p ≤ N) (h : ¬ (tokF N bt p).1 = 0) : p < (tokF N bt p).2.2.1 ∧ p < 600 := by
  obtain ⟨e1, e2, -, -⟩ := skp_a N bt N p
  obtain ⟨f1, f2, -, f4⟩ := rnE_a N bt N (skp N bt N p)
  have f4 := f4 (by omega)
  unfold tokF at h ⊢
  by_cases c : skp N bt N p < N ∧ skp N bt N p < 600
  · rw [if_pos c]
    by_cases c2 : ltr (bt (skp N bt N p)) ∨ dgt (bt (skp N bt N p))
    · rw [if_pos c2]
      show p < rnE N bt N (skp N bt N p) ∧ p < 600
      by_cases c3 : rnE N bt N (skp N bt N p) = skp N bt N p
      · rw [c3] at f4; exact absurd ⟨c.1, c2⟩ f4
      · omega
    · rw [if_neg c2]; show p < skp N bt N p + 1 ∧ p < 600; omega
  · rw [if_neg c] at h; exact absurd rfl h
/-- one line, on both sides -/
def LnR (N : Nat) (bt : Nat → Int) (E : Nat) (s s' : SM) (v : Int32) (t t1 : SM) (v1 : Int32) : Prop :=
  ((v = 1 ∧ v1 = 1 ∧ vX12_sign t1 59 = 1 ∧ ∃ nb nk p, BdR s' (mX12_sign t1 59) nb ∧ KiR s' (mX12_sign t1 59) nk ∧ LiR s' (mX12_sign t1 59) ∧ E ≤ p ∧ p ≤ N ∧ gI s' 3 7 = zI (p : Int) ∧ TkX (mX12_sign t1 59) N (tokF N bt p) ∧ gI s' 3 2 = gI s 3 2 ∧ gI (mX12_sign t1 59) 248 15 = gI t 248 15) ∨ (v = 0 ∧ ∃ f A, FtY s' f A ∧ ((v1 = 0 ∧ FtX t1 f A) ∨ (v1 = 1 ∧ vX12_sign t1 59 = 0 ∧ FtX (mX12_sign t1 59) f A)))) ∧ Fq PyI PyL s s' ∧ Fq PxI PxL t t1 ∧ (v1 = 1 → rX12_sign t1 59 ∧ Fq PxI PxL t (mX12_sign t1 59))
section
variable {s t : SM} {N : Nat} {bt : Nat → Int}
/-- the end of a line: both look at the token k -/
theorem ln_stop {s5 t1 : SM} {k : Tok} {E nb nk : Nat} (hN : N ≤ 640) (hy : TkY s5 k) (hx : TkX t1 N k) (hs : TkS t1 N bt) (hk : 0 ≤ k.1 ∧ k.1 ≤ 4) (hE : E ≤ k.2.2.1 ∧ k.2.2.1 ≤ N) (hb : BdR s5 t1 nb) (hki : KiR s5 t1 nk) (hl : LiR s5 t1) (f : Fq PyI PyL s s5) (f' : Fq PxI PxL t t1) (e32 : gI s5 3 2 = gI s 3 2) (e15 : gI t1 248 15 = gI t 248 15) : LnR N bt E s (mX9_isStop s5) (vX9_isStop s5) t t1 1 := by
  obtain ⟨a1, a2⟩ := y_isStop hy hk
  obtain ⟨b1, b2⟩ := x_sign (bt := bt) hx hk hs hN hE.2
  by_cases c : k.1 = 3
  · obtain ⟨c1, c2⟩ := a1 c
    obtain ⟨d1, d2, d3, d4, d5⟩ := b1 c
    have d3' : Fq PxI PxL t1 (mX12_sign t1 59) := Fq_mo d3 (fun c i hc => by omega) (fun c i hc => Or.inl hc)
    rw [c1, c2]
    exact ⟨Or.inl ⟨rfl, rfl, d1, nb, nk, k.2.2.1, BdR_fq hb (Fq_rf (fun _ _ => False) (fun _ _ => False) s5) d3 (fun _ _ _ h => h) (fun _ _ h => h) (fun i hi => by omega) (fun i h1 h2 => by omega), KiR_fq hki (Fq_rf (fun _ _ => False) (fun _ _ => False) s5) d3 (fun _ _ _ h => h) (fun _ _ h => h) (fun i hi => by omega) (fun i h1 h2 => by omega), LiR_fq hl (Fq_rf (fun _ _ => False) (fun _ _ => False) s5) d3 (fun _ _ h => h) (fun c i hc => by omega), hE.1, hE.2, hy.2.2.1, d4, e32, d5.trans e15⟩, f, f', fun _ => ⟨d2, Fq_tr f' d3'⟩⟩
  · obtain ⟨c1, c2, c3⟩ := a2 c
    obtain ⟨d1, d2, d3, d4⟩ := b2 c
    have d4' : Fq PxI PxL t1 (mX12_sign t1 59) := Fq_mo d4 (fun c i hc => by omega) (fun c i hc => Or.inl hc)
    rw [c1]
    exact ⟨Or.inr ⟨rfl, _, _, c2, Or.inr ⟨rfl, d1, d3⟩⟩, Fq_tr f (Fq_mo c3 (fun c i hc => Or.inl hc) (fun c i hc => Or.inl hc)), f', fun _ => ⟨d2, Fq_tr f' d4'⟩⟩
/-- a line refused on both sides -/
theorem ln_no {s5 t1 : SM} {E : Nat} {f0 : Int} {A : Nat} (hy : FtY s5 f0 A) (hx : FtX t1 f0 A) (f : Fq PyI PyL s s5) (f' : Fq PxI PxL t t1) : LnR N bt E s s5 0 t t1 0 := ⟨Or.inr ⟨rfl, f0, A, hy, Or.inl ⟨rfl, hx⟩⟩, f, f', fun hc => absurd hc (by decide)⟩
end
