-- needs: 6y.prt
/-! the lines of a book -/
def CtR (s t : SM) (nb nk : Nat) : Prop := nb ≤ 9 ∧ nk ≤ 6 ∧ gI s 5 6 = zI (nb : Int) ∧ gI s 5 7 = zI (nk : Int) ∧ gI t 250 0 = zI (nb : Int) ∧ gI t 250 1 = zI (nk : Int) ∧ (∀ b, b < nb → gL s 6 b = gL t 253 b) ∧ ∀ k, k < nk → gL s 9 k = gL t 253 (9 + k)
theorem CtR_fq {s s' t t' : SM} {nb nk : Nat} {A B A' B' : Nat → Nat → Prop} (h : CtR s t nb nk) (f : Fq A B s s') (f' : Fq A' B' t t') (hA : ∀ i, i = 6 ∨ i = 7 → ¬ A 5 i) (hB : ∀ c i, c = 6 ∨ c = 9 → ¬ B c i) (hA' : ∀ i, i = 0 ∨ i = 1 → ¬ A' 250 i) (hB' : ∀ i, ¬ B' 253 i) : CtR s' t' nb nk := by
  obtain ⟨h1, h2, h3, h4, h5, h6, h7, h8⟩ := h
  refine ⟨h1, h2, by rw [f.1 _ _ (hA _ (by omega))]; exact h3, by rw [f.1 _ _ (hA _ (by omega))]; exact h4, by rw [f'.1 _ _ (hA' _ (by omega))]; exact h5, by rw [f'.1 _ _ (hA' _ (by omega))]; exact h6, fun b hb => ?_, fun k hk => ?_⟩
  · rw [f.2.1 6 b (hB _ _ (by omega)), f'.2.1 253 b (hB' _)]; exact h7 b hb
  · rw [f.2.1 9 k (hB _ _ (by omega)), f'.2.1 253 _ (hB' _)]; exact h8 k hk
/-- the class stands behind p, the reference looks at the token that begins there -/
def BhX (N : Nat) (bt : Nat → Int) (nb nk p : Nat) (s t : SM) : Prop := TpY s N bt ∧ TkS t N bt ∧ ReT t ∧ gI s 3 7 = zI (p : Int) ∧ p ≤ N ∧ TkX t N (tokF N bt p) ∧ CtR s t nb nk
theorem BhX_st {N : Nat} {bt : Nat → Int} {nb nk p : Nat} {s t s' t' : SM} {A A' : Nat → Nat → Prop} (h : BhX N bt nb nk p s t) (f : Fq A (fun _ _ => False) s s') (f' : Fq A' (fun _ _ => False) t t') (hA : ∀ c i, c = 3 ∨ c = 4 ∨ c = 5 → ¬ A c i) (hA' : ∀ c i, (c = 248 ∧ (i ≤ 5 ∨ (11 ≤ i ∧ i ≤ 14))) ∨ c = 249 ∨ c = 250 → ¬ A' c i) : BhX N bt nb nk p s' t' := by
  obtain ⟨h1, h2, h3, h4, h5, h6, h7⟩ := h
  exact ⟨TpY_fq h1 f (fun c i hc => hA c i (by omega)), TkS_fq h2 f' (fun c i hc => hA' c i (by omega)), fun i hi => by rw [f'.2.1 254 i (fun h => h)]; exact h3 i hi, by rw [f.1 3 7 (hA _ _ (by omega))]; exact h4, h5, TkX_fq h6 f' (fun c i hc => hA' c i (by omega)) (fun _ _ _ h => h), CtR_fq h7 f f' (fun i hi => hA _ _ (by omega)) (fun _ _ _ h => h) (fun i hi => hA' _ _ (by omega)) (fun _ h => h)⟩
/-- one thing taken on both sides -/
def StR (N : Nat) (bt : Nat → Int) (nb nk p : Nat) (s s1 : SM) (v : Int32) (t t1 : SM) (v1 : Int32) (w : Nat) (ok : Int → Prop) : Prop := Fq YtI TkL s s1 ∧ Fq XtI TxL t t1 ∧ ((v = 1 ∧ v1 = 1 ∧ gI s1 3 2 = gI s 3 2 ∧ gI t1 248 15 = gI t 248 15 ∧ ∃ q x, p ≤ q ∧ ok x ∧ gI s1 3 w = zI x ∧ gI t1 248 18 = zI x ∧ BhX N bt nb nk q s1 t1) ∨ (v = 0 ∧ v1 = 0 ∧ ∃ f A, FtY s1 f A ∧ FtX t1 f A))
section
variable {s t : SM} {N : Nat} {bt : Nat → Int} {nb nk p : Nat}
theorem bk_body (hN : N ≤ 640) (h : BhX N bt nb nk p s t) : rX9_takeBody s 5 ∧ rX12_takesName t 0 (zI (nb : Int)) ∧ StR N bt nb nk p s (mX9_takeBody s 5) (vX9_takeBody s 5) t (mX12_takesName t 0 (zI (nb : Int))) (vX12_takesName t 0 (zI (nb : Int))) 6 (fun x => 0 ≤ x ∧ x < nb) := by
  obtain ⟨h1, h2, h3, h4, h5, h6, h7⟩ := h
  have h7' := h7
  obtain ⟨c1, c2, c3, c4, c5, c6, c7, c8⟩ := h7
  have hk := tok_S (N := N) bt p
  obtain ⟨hEa, hE⟩ := tok_E bt h5
  obtain ⟨s1, y1, y2, y3, y4, y5, y6, yK⟩ := y_takeBody h1 hN h5 h4 (P := 5) (by omega) c1 c3
  obtain ⟨t1, x1, x2, x3, x4, x5, x6, xK⟩ := x_takesName h6 hk h2 hN hE h3 (a := 0) (n := nb) (by omega)
  have z0 : zI ((0 : Nat) : Int) = 0 := rfl
  rw [z0] at x1 x2 x4 x5 x6 xK
  have nn : fnd (fun j => gL t 253 (0 + j)) (tokF N bt p).2.2.2.1 nb 0 = fnd (gL s (5 + 1)) (tokF N bt p).2.2.2.1 nb 0 := fnd_c _ _ _ (fun j _ hj => by rw [Nat.zero_add]; exact (c7 j (by omega)).symm)
  rw [nn] at x4 x6
  rw [y1, x1]
  refine ⟨y2, x2, y3, x3, ?_⟩
  by_cases ok : isN (tokF N bt p) ∧ ¬ fnd (gL s (5 + 1)) (tokF N bt p).2.2.2.1 nb 0 = -1
  · obtain ⟨a1, a2, a3⟩ := y4 ok.1 ok.2
    obtain ⟨b1, b2, b3⟩ := x4 ok.1 ok.2
    refine Or.inl ⟨a1, b1, yK a1, xK b1, (tokF N bt p).2.2.1, _, hEa, ?_, a3, b3, TpY_fq h1 y3 (fun c i hc => by omega), TkS_fq h2 x3 (fun c i hc => by omega), fun i hi => by rw [x3.2.1 254 i (by omega)]; exact h3 i hi, a2.2.2.1, hE, b2, CtR_fq h7' y3 x3 (fun i hi => by omega) (fun c i hc => by omega) (fun i hi => by omega) (fun i => by omega)⟩
    rcases fnd_b (gL s (5 + 1)) (tokF N bt p).2.2.2.1 nb 0 with hh | hh
    · exact absurd hh ok.2
    · exact ⟨by omega, by omega⟩
  · right
    by_cases cn1 : isN (tokF N bt p)
    · have cn2 : fnd (gL s (5 + 1)) (tokF N bt p).2.2.2.1 nb 0 = -1 := Classical.byContradiction fun hc => ok ⟨cn1, hc⟩
      exact ⟨(y6 cn1 cn2).1, (x6 cn1 cn2).1, _, _, (y6 cn1 cn2).2, (x6 cn1 cn2).2⟩
    · exact ⟨(y5 cn1).1, (x5 cn1).1, _, _, (y5 cn1).2, (x5 cn1).2⟩
theorem bk_kind (hN : N ≤ 640) (h : BhX N bt nb nk p s t) : rX9_takeKind s 5 ∧ rX12_takesName t 9 (zI (nk : Int)) ∧ StR N bt nb nk p s (mX9_takeKind s 5) (vX9_takeKind s 5) t (mX12_takesName t 9 (zI (nk : Int))) (vX12_takesName t 9 (zI (nk : Int))) 6 (fun x => 0 ≤ x ∧ x < nk) := by
  obtain ⟨h1, h2, h3, h4, h5, h6, h7⟩ := h
  have h7' := h7
  obtain ⟨c1, c2, c3, c4, c5, c6, c7, c8⟩ := h7
  have hk := tok_S (N := N) bt p
  obtain ⟨hEa, hE⟩ := tok_E bt h5
  obtain ⟨s1, y1, y2, y3, y4, y5, y6, yK⟩ := y_takeKind h1 hN h5 h4 (P := 5) (by omega) c2 c4
  obtain ⟨t1, x1, x2, x3, x4, x5, x6, xK⟩ := x_takesName h6 hk h2 hN hE h3 (a := 9) (n := nk) (by omega)
  have z0 : zI ((9 : Nat) : Int) = 9 := rfl
  rw [z0] at x1 x2 x4 x5 x6 xK
  have nn : fnd (fun j => gL t 253 (9 + j)) (tokF N bt p).2.2.2.1 nk 0 = fnd (gL s (5 + 4)) (tokF N bt p).2.2.2.1 nk 0 := fnd_c _ _ _ (fun j _ hj => (c8 j (by omega)).symm)
  rw [nn] at x4 x6
  rw [y1, x1]
  refine ⟨y2, x2, y3, x3, ?_⟩
  by_cases ok : isN (tokF N bt p) ∧ ¬ fnd (gL s (5 + 4)) (tokF N bt p).2.2.2.1 nk 0 = -1
  · obtain ⟨a1, a2, a3⟩ := y4 ok.1 ok.2
    obtain ⟨b1, b2, b3⟩ := x4 ok.1 ok.2
    refine Or.inl ⟨a1, b1, yK a1, xK b1, (tokF N bt p).2.2.1, _, hEa, ?_, a3, b3, TpY_fq h1 y3 (fun c i hc => by omega), TkS_fq h2 x3 (fun c i hc => by omega), fun i hi => by rw [x3.2.1 254 i (by omega)]; exact h3 i hi, a2.2.2.1, hE, b2, CtR_fq h7' y3 x3 (fun i hi => by omega) (fun c i hc => by omega) (fun i hi => by omega) (fun i => by omega)⟩
    rcases fnd_b (gL s (5 + 4)) (tokF N bt p).2.2.2.1 nk 0 with hh | hh
    · exact absurd hh ok.2
    · exact ⟨by omega, by omega⟩
  · right
    by_cases cn1 : isN (tokF N bt p)
    · have cn2 : fnd (gL s (5 + 4)) (tokF N bt p).2.2.2.1 nk 0 = -1 := Classical.byContradiction fun hc => ok ⟨cn1, hc⟩
      exact ⟨(y6 cn1 cn2).1, (x6 cn1 cn2).1, _, _, (y6 cn1 cn2).2, (x6 cn1 cn2).2⟩
    · exact ⟨(y5 cn1).1, (x5 cn1).1, _, _, (y5 cn1).2, (x5 cn1).2⟩
theorem bk_num (hN : N ≤ 640) (h : BhX N bt nb nk p s t) {lo hi : Int} (hlh : (0 ≤ lo ∧ lo ≤ 100) ∧ 0 ≤ hi ∧ hi ≤ 100) : rX9_takeNumber s (zI lo) (zI hi) ∧ rX12_takes t (zI lo) (zI hi) ∧ StR N bt nb nk p s (mX9_takeNumber s (zI lo) (zI hi)) (vX9_takeNumber s (zI lo) (zI hi)) t (mX12_takes t (zI lo) (zI hi)) (vX12_takes t (zI lo) (zI hi)) 5 (fun x => lo ≤ x ∧ x ≤ hi) := by
  obtain ⟨h1, h2, h3, h4, h5, h6, h7⟩ := h
  have hk := tok_S (N := N) bt p
  obtain ⟨hEa, hE⟩ := tok_E bt h5
  obtain ⟨s1, y1, y2, y3, y4, y5, yK⟩ := y_takeNumber h1 hN h5 h4 (zI lo) (zI hi)
  obtain ⟨t1, x1, x2, x3, x4, x5, xK⟩ := x_takes h6 hk h2 hN hE (zI lo) (zI hi)
  rw [y1, x1]
  refine ⟨y2, x2, y3, x3, ?_⟩
  by_cases ok : nuOk (tokF N bt p) (zI lo) (zI hi)
  · obtain ⟨a1, a2⟩ := y4 ok
    obtain ⟨b1, b2, b3⟩ := x4 ok
    obtain ⟨x, hx1, hx2⟩ := z_ex (tokF N bt p).2.2.2.2
    have o1 := ok.2.1
    have o2 := ok.2.2
    rw [hx2, z_lt hx1 (by omega)] at o1
    rw [hx2, z_le hx1 (by omega)] at o2
    exact Or.inl ⟨a1, b1, yK a1, xK b1, (tokF N bt p).2.2.1, x, hEa, ⟨by omega, by omega⟩, by rw [a2.2.2.2.2 ok.1, hx2], by rw [b3, hx2], TpY_fq h1 y3 (fun c i hc => by omega), TkS_fq h2 x3 (fun c i hc => by omega), fun i hi => by rw [x3.2.1 254 i (by omega)]; exact h3 i hi, a2.2.2.1, hE, b2, CtR_fq h7 y3 x3 (fun i hi => by omega) (fun c i hc => by omega) (fun i hi => by omega) (fun i => by omega)⟩
  · exact Or.inr ⟨(y5 ok).1, (x5 ok).1, _, _, (y5 ok).2, (x5 ok).2⟩
end
