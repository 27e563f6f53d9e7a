-- needs: 6j.tak
section
variable {s : SM} {N : Nat} {bt : Nat → Int} {k : Tok}
theorem z_m1 {v : Int} (h : v = -1 ∨ (0 ≤ v ∧ v < 100)) : (zI v = -1 ↔ v = -1) ∧ (0 ≤ zI v ↔ ¬ v = -1) ∧ (zI v < 0 ↔ v = -1) := by
  rw [show (-1 : Int32) = zI (-1) from rfl, zl0, z_eq (by omega) (by omega), z_le (by omega) (by omega), z_lt (by omega) (by omega)]
  omega
/-- a new name -/
theorem y_takeNewName (h : TpY s N bt) (hN : N ≤ 640) {p : Nat} (hp : p ≤ N) (h7 : gI s 3 7 = zI (p : Int)) {P nb nk : Nat} (hP : 5 ≤ P) (hb : nb ≤ 9) (hk6 : nk ≤ 6) (e6 : gI s P 6 = zI (nb : Int)) (e7 : gI s P 7 = zI (nk : Int)) : ∃ t, mX9_takeNewName s P = t ∧ rX9_takeNewName s P ∧ Fq YtI TkL s t ∧ (isN (tokF N bt p) → fnd (gL s (P + 1)) (tokF N bt p).2.2.2.1 nb 0 = -1 → fnd (gL s (P + 4)) (tokF N bt p).2.2.2.1 nk 0 = -1 → vX9_takeNewName s P = 1 ∧ TkY t (tokF N bt p)) ∧ (¬ isN (tokF N bt p) → vX9_takeNewName s P = 0 ∧ FtY t 1 (tokF N bt p).2.1) ∧ (isN (tokF N bt p) → ¬ (fnd (gL s (P + 1)) (tokF N bt p).2.2.2.1 nb 0 = -1 ∧ fnd (gL s (P + 4)) (tokF N bt p).2.2.2.1 nk 0 = -1) → vX9_takeNewName s P = 0 ∧ FtY t 3 (tokF N bt p).2.1) ∧ (vX9_takeNewName s P = 1 → gI t 3 2 = gI s 3 2) := by
  obtain ⟨t, p1, p2, p3, p4⟩ := y_next h hN hp h7
  have hk := tok_S (N := N) bt p
  obtain ⟨k, hkk⟩ : ∃ k, k = tokF N bt p := ⟨_, rfl⟩
  rw [← hkk] at p4 hk ⊢
  obtain ⟨n1, n2, n3⟩ := y_isName p4.1 hk p4.2.2.2.1
  obtain ⟨-, r2, r3⟩ := y_ref p4 3
  obtain ⟨-, q2, q3⟩ := y_ref p4 1
  have f0 : Fq YtI TkL s t := Fq_mo p3 (fun c i hc => by omega) (fun c i hc => hc)
  have g6 : gI t P 6 = zI (nb : Int) := by rw [p3.1 P 6 (by omega)]; exact e6
  have g7 : gI t P 7 = zI (nk : Int) := by rw [p3.1 P 7 (by omega)]; exact e7
  have l1 : gL t (P + 1) = gL s (P + 1) := by funext j; exact p3.2.1 _ _ (by omega)
  have l4 : gL t (P + 4) = gL s (P + 4) := by funext j; exact p3.2.1 _ _ (by omega)
  have one : (lX9_takeNewName FU) t P = (0, mX9_refuse t 3) ∧ (qX9_takeNewName FU) t P := ST_fu (ST_1 (F := fun n => lX9_takeNewName n t P) (C := fun n => qX9_takeNewName n t P) (F' := fun _ => (0, mX9_refuse t 3)) (C' := fun _ => True) (fun n => by
    show tX9_takeNewName_45 (lX9_takeNewName n) t P = _ ∧ (_ → uX9_takeNewName_45 (qX9_takeNewName n) t P)
    unfold tX9_takeNewName_45 uX9_takeNewName_45
    exact ⟨rfl, fun _ => trivial⟩)) (by omega)
  unfold mX9_takeNewName vX9_takeNewName fX9_takeNewName rX9_takeNewName
  rw [p1]
  by_cases c : isN k
  · have ew := p4.2.2.2.1 c.1
    obtain ⟨b1, b2⟩ := y_bNamed (s := t) hb g6 (gL t 3 4)
    obtain ⟨b3, b4⟩ := y_kNamed (s := t) hk6 g7 (gL t 3 4)
    rw [ew] at b1 b2 b3 b4
    rw [l1] at b1
    rw [l4] at b3
    rw [n2 c, if_neg (by decide), ew, b1, b3, one.1]
    obtain ⟨z1, -, -⟩ := z_m1 (v := fnd (gL s (P + 1)) k.2.2.2.1 nb 0) (by rcases fnd_b (gL s (P + 1)) k.2.2.2.1 nb 0 with h | h; exact Or.inl h; exact Or.inr ⟨by omega, by omega⟩)
    obtain ⟨z2, -, -⟩ := z_m1 (v := fnd (gL s (P + 4)) k.2.2.2.1 nk 0) (by rcases fnd_b (gL s (P + 4)) k.2.2.2.1 nk 0 with h | h; exact Or.inl h; exact Or.inr ⟨by omega, by omega⟩)
    have hr : rX9_nextToken s ∧ rX9_isName t ∧ (¬ (1 : Int32) = 0 → rX6_bodyNamed t P k.2.2.2.1 ∧ ((¬ zI (fnd (gL s (P + 1)) k.2.2.2.1 nb 0) = -1 → (qX9_takeNewName FU) t P) ∧ (zI (fnd (gL s (P + 1)) k.2.2.2.1 nb 0) = -1 → rX6_kindNamed t P k.2.2.2.1 ∧ (¬ zI (fnd (gL s (P + 4)) k.2.2.2.1 nk 0) = -1 → (qX9_takeNewName FU) t P)))) := ⟨p2, n1, fun _ => ⟨b2, fun _ => one.2, fun _ => ⟨b4, fun _ => one.2⟩⟩⟩
    by_cases c1 : fnd (gL s (P + 1)) k.2.2.2.1 nb 0 = -1
    · rw [if_pos (z1.mpr c1)]
      by_cases c2 : fnd (gL s (P + 4)) k.2.2.2.1 nk 0 = -1
      · rw [if_pos (z2.mpr c2), if_neg (by decide)]
        exact ⟨t, rfl, hr, f0, fun _ _ _ => ⟨rfl, p4⟩, fun hc => absurd c hc, fun _ hc => absurd ⟨c1, c2⟩ hc, fun _ => p3.1 3 2 (by omega)⟩
      · rw [if_neg (fun hc => c2 (z2.mp hc))]
        exact ⟨_, rfl, hr, Fq_tr f0 r3, fun _ _ hc => absurd hc c2, fun hc => absurd c hc, fun _ _ => ⟨rfl, r2⟩, fun hc => absurd (show (0 : Int32) = 1 from hc) (by decide)⟩
    · rw [if_neg (fun hc => c1 (z1.mp hc))]
      exact ⟨_, rfl, hr, Fq_tr f0 r3, fun _ hc => absurd hc c1, fun hc => absurd c hc, fun _ _ => ⟨rfl, r2⟩, fun hc => absurd (show (0 : Int32) = 1 from hc) (by decide)⟩
  · rw [n3 c, if_pos rfl]
    exact ⟨_, rfl, ⟨p2, n1, fun hc => absurd rfl hc⟩, Fq_tr f0 q3, fun hc => absurd hc c, fun _ => ⟨rfl, q2⟩, fun hc => absurd hc c, fun hc => absurd (show (0 : Int32) = 1 from hc) (by decide)⟩
theorem x_fresh (h : TkX s N k) (hk : 0 ≤ k.1 ∧ k.1 ≤ 4) (hs : TkS s N bt) (hN : N ≤ 640) (hE : k.2.2.1 ≤ N) (hr : ∀ i, i < 17 → gL s 254 i = WV i) {nb nk a : Nat} (hb : nb ≤ 9) (hk6 : nk ≤ 6) (ha : a < 30) (e0 : gI s 251 0 = zI (nb : Int)) (e1 : gI s 251 1 = zI (nk : Int)) : ∃ t, mX12_fresh s (zI (a : Int)) = t ∧ rX12_fresh s (zI (a : Int)) ∧ Fq XtI (fun c i => TxL c i ∨ (c = 253 ∧ i = a)) s t ∧ (isN k → fnd (fun j => gL s 253 (15 + j)) k.2.2.2.1 nb 0 = -1 → fnd (fun j => gL s 253 (24 + j)) k.2.2.2.1 nk 0 = -1 → vX12_fresh s (zI (a : Int)) = 1 ∧ TkX t N (tokF N bt k.2.2.1) ∧ gL t 253 a = k.2.2.2.1) ∧ (¬ isN k → vX12_fresh s (zI (a : Int)) = 0 ∧ FtX t 1 k.2.1) ∧ (isN k → ¬ (fnd (fun j => gL s 253 (15 + j)) k.2.2.2.1 nb 0 = -1 ∧ fnd (fun j => gL s 253 (24 + j)) k.2.2.2.1 nk 0 = -1) → vX12_fresh s (zI (a : Int)) = 0 ∧ FtX t 3 k.2.1) ∧ (vX12_fresh s (zI (a : Int)) = 1 → gI t 248 15 = gI s 248 15) := by
  obtain ⟨n1, n2, n3⟩ := x_isName hr (TkX_s h hk).1 h.2.2.2.1
  obtain ⟨-, r2, r3⟩ := x_bad h 3
  obtain ⟨-, q2, q3⟩ := x_bad h 1
  have up : ∀ {u t : SM}, Fq XtI TxL u t → Fq XtI (fun c i => TxL c i ∨ (c = 253 ∧ i = a)) u t := fun hf => Fq_mo hf (fun c i hc => hc) (fun c i hc => Or.inl hc)
  have e0' : gI s 251 ((0 : Int32)).toNatClampNeg = zI (nb : Int) := e0
  have e1' : gI s 251 ((1 : Int32)).toNatClampNeg = zI (nk : Int) := e1
  unfold mX12_fresh vX12_fresh rX12_fresh
  by_cases c : isN k
  · have ew := h.2.2.2.1 c.1
    obtain ⟨b1, b2⟩ := x_find (s := s) (a := 15) (n := nb) (by omega)
    obtain ⟨b3, b4⟩ := x_find (s := s) (a := 24) (n := nk) (by omega)
    rw [ew] at b1 b3
    have b1 : vX12_find s 15 (zI (nb : Int)) = zI (fnd (fun j => gL s 253 (15 + j)) k.2.2.2.1 nb 0) := b1
    have b3 : vX12_find s 24 (zI (nk : Int)) = zI (fnd (fun j => gL s 253 (24 + j)) k.2.2.2.1 nk 0) := b3
    obtain ⟨-, z1, -⟩ := z_m1 (v := fnd (fun j => gL s 253 (15 + j)) k.2.2.2.1 nb 0) (by rcases fnd_b (fun j => gL s 253 (15 + j)) k.2.2.2.1 nb 0 with h | h; exact Or.inl h; exact Or.inr ⟨by omega, by omega⟩)
    obtain ⟨-, -, z2⟩ := z_m1 (v := fnd (fun j => gL s 253 (24 + j)) k.2.2.2.1 nk 0) (by rcases fnd_b (fun j => gL s 253 (24 + j)) k.2.2.2.1 nk 0 with h | h; exact Or.inl h; exact Or.inr ⟨by omega, by omega⟩)
    have k10 : ¬ (1 : Int32) = 0 := by decide
    simp only [n2 c, if_neg k10]
    rw [e0', e1', b1, b3, ew]
    by_cases c1 : fnd (fun j => gL s 253 (15 + j)) k.2.2.2.1 nb 0 = -1
    · have k1 : ¬ 0 ≤ zI (fnd (fun j => gL s 253 (15 + j)) k.2.2.2.1 nb 0) := fun hc => z1.mp hc c1
      simp only [if_neg k1]
      by_cases c2 : fnd (fun j => gL s 253 (24 + j)) k.2.2.2.1 nk 0 = -1
      · have cj : (zI (a : Int)).toNatClampNeg = a := by rw [z_cl (by omega)]; exact Int.toNat_natCast _
        have f1 : Fq (fun _ _ => False) (fun c i => c = 253 ∧ i = a) s (pL s 253 a k.2.2.2.1) := Fq_L s ⟨rfl, rfl⟩
        obtain ⟨t, p1, p2, p3, p4⟩ := x_next (TkS_fq hs f1 (fun c i hc hx => hx)) hN hE (by rw [f1.1 248 4 (fun hx => hx)]; exact h.2.2.1)
        simp only [if_pos (z2.mpr c2)]
        rw [cj, p1]
        refine ⟨t, rfl, ⟨n1, fun _ => ⟨b2, fun _ => ⟨b4, fun _ => ⟨by rw [z_in (by omega)]; omega, p2⟩⟩⟩⟩, Fq_tr (Fq_mo f1 (fun _ _ hc => hc.elim) (fun c i hc => Or.inr hc)) (Fq_mo p3 (fun c i hc => by omega) (fun c i hc => Or.inl hc)), fun _ _ _ => ⟨by trivial, p4, ?_⟩, fun hc => absurd c hc, fun _ hc => absurd ⟨c1, c2⟩ hc, fun _ => (p3.1 248 15 (by omega)).trans (f1.1 248 15 (fun h => h))⟩
        rw [p3.2.1 253 a (by omega), gL_pL, if_pos ⟨rfl, rfl⟩]
      · have k2 : ¬ zI (fnd (fun j => gL s 253 (24 + j)) k.2.2.2.1 nk 0) < 0 := fun hc => c2 (z2.mp hc)
        simp only [if_neg k2]
        exact ⟨_, rfl, ⟨n1, fun _ => ⟨b2, fun _ => ⟨b4, fun hc => absurd hc k2⟩⟩⟩, up r3, fun _ _ hc => absurd hc c2, fun hc => absurd c hc, fun _ _ => ⟨rfl, r2⟩, fun hc => absurd (show (0 : Int32) = 1 from hc) (by decide)⟩
    · have k1 := z1.mpr c1
      simp only [if_pos k1]
      exact ⟨_, rfl, ⟨n1, fun _ => ⟨b2, fun hc => absurd k1 hc⟩⟩, up r3, fun _ hc => absurd hc c1, fun hc => absurd c hc, fun _ _ => ⟨rfl, r2⟩, fun hc => absurd (show (0 : Int32) = 1 from hc) (by decide)⟩
  · rw [n3 c, if_pos rfl, if_pos rfl]
    exact ⟨_, rfl, ⟨n1, fun hc => absurd rfl hc⟩, up q3, fun hc => absurd hc c, fun _ => ⟨rfl, q2⟩, fun hc => absurd hc c, fun hc => absurd (show (0 : Int32) = 1 from hc) (by decide)⟩
/-- a name that there is -/
theorem y_takeBody (h : TpY s N bt) (hN : N ≤ 640) {p : Nat} (hp : p ≤ N) (h7 : gI s 3 7 = zI (p : Int)) {P nb : Nat} (hP : 5 ≤ P) (hb : nb ≤ 9) (e6 : gI s P 6 = zI (nb : Int)) : ∃ t, mX9_takeBody s P = t ∧ rX9_takeBody s P ∧ Fq YtI TkL s t ∧ (isN (tokF N bt p) → ¬ fnd (gL s (P + 1)) (tokF N bt p).2.2.2.1 nb 0 = -1 → vX9_takeBody s P = 1 ∧ TkY t (tokF N bt p) ∧ gI t 3 6 = zI (fnd (gL s (P + 1)) (tokF N bt p).2.2.2.1 nb 0)) ∧ (¬ isN (tokF N bt p) → vX9_takeBody s P = 0 ∧ FtY t 1 (tokF N bt p).2.1) ∧ (isN (tokF N bt p) → fnd (gL s (P + 1)) (tokF N bt p).2.2.2.1 nb 0 = -1 → vX9_takeBody s P = 0 ∧ FtY t 3 (tokF N bt p).2.1) ∧ (vX9_takeBody s P = 1 → gI t 3 2 = gI s 3 2) := by
  obtain ⟨t, p1, p2, p3, p4⟩ := y_next h hN hp h7
  have hk := tok_S (N := N) bt p
  obtain ⟨k, hkk⟩ : ∃ k, k = tokF N bt p := ⟨_, rfl⟩
  rw [← hkk] at p4 hk ⊢
  obtain ⟨n1, n2, n3⟩ := y_isName p4.1 hk p4.2.2.2.1
  obtain ⟨-, q2, q3⟩ := y_ref p4 1
  have f0 : Fq YtI TkL s t := Fq_mo p3 (fun c i hc => by omega) (fun c i hc => hc)
  have g6 : gI t P 6 = zI (nb : Int) := by rw [p3.1 P 6 (by omega)]; exact e6
  have l1 : gL t (P + 1) = gL s (P + 1) := by funext j; exact p3.2.1 _ _ (by omega)
  unfold mX9_takeBody vX9_takeBody rX9_takeBody
  rw [p1]
  by_cases c : isN k
  · have ew := p4.2.2.2.1 c.1
    obtain ⟨b1, b2⟩ := y_bNamed (s := t) hb g6 (gL t 3 4)
    rw [ew] at b1 b2
    rw [l1] at b1
    obtain ⟨t2, ht2⟩ : ∃ t2, t2 = pI t 3 6 (zI (fnd (gL s (P + 1)) k.2.2.2.1 nb 0)) := ⟨_, rfl⟩
    have f2 : Fq (fun c i => c = 3 ∧ i = 6) (fun _ _ => False) t t2 := by rw [ht2]; exact Fq_p _ ⟨rfl, rfl⟩
    have x6 : gI t2 3 6 = zI (fnd (gL s (P + 1)) k.2.2.2.1 nb 0) := by rw [ht2, gI_pI, if_pos ⟨rfl, rfl⟩]
    have p5 : TkY t2 k := TkY_fq p4 f2 (fun c i hc => by omega) (fun _ _ _ hx => hx)
    have f2' : Fq YtI TkL t t2 := Fq_mo f2 (fun c i hc => by omega) (fun _ _ hc => hc.elim)
    obtain ⟨-, r2, r3⟩ := y_ref p5 3
    have k10 : ¬ (1 : Int32) = 0 := by decide
    simp only [n2 c, if_neg k10]
    rw [ew, b1, ← ht2, x6]
    obtain ⟨z1, -, -⟩ := z_m1 (v := fnd (gL s (P + 1)) k.2.2.2.1 nb 0) (by rcases fnd_b (gL s (P + 1)) k.2.2.2.1 nb 0 with h | h; exact Or.inl h; exact Or.inr ⟨by omega, by omega⟩)
    by_cases c1 : fnd (gL s (P + 1)) k.2.2.2.1 nb 0 = -1
    · simp only [if_pos (z1.mpr c1)]
      exact ⟨_, rfl, ⟨p2, n1, fun _ => b2⟩, Fq_tr f0 (Fq_tr f2' r3), fun _ hc => absurd c1 hc, fun hc => absurd c hc, fun _ _ => ⟨rfl, r2⟩, fun hc => absurd (show (0 : Int32) = 1 from hc) (by decide)⟩
    · have k1 := fun hc => c1 (z1.mp hc)
      simp only [if_neg k1]
      exact ⟨t2, rfl, ⟨p2, n1, fun _ => b2⟩, Fq_tr f0 f2', fun _ _ => ⟨by trivial, p5, x6⟩, fun hc => absurd c hc, fun _ hc => absurd hc c1, fun _ => (f2.1 3 2 (by omega)).trans (p3.1 3 2 (by omega))⟩
  · rw [n3 c, if_pos rfl, if_pos rfl]
    exact ⟨_, rfl, ⟨p2, n1, fun hc => absurd rfl hc⟩, Fq_tr f0 q3, fun hc => absurd hc c, fun _ => ⟨rfl, q2⟩, fun hc => absurd hc c, fun hc => absurd (show (0 : Int32) = 1 from hc) (by decide)⟩
theorem y_takeKind (h : TpY s N bt) (hN : N ≤ 640) {p : Nat} (hp : p ≤ N) (h7 : gI s 3 7 = zI (p : Int)) {P nk : Nat} (hP : 5 ≤ P) (hb : nk ≤ 6) (e7 : gI s P 7 = zI (nk : Int)) : ∃ t, mX9_takeKind s P = t ∧ rX9_takeKind s P ∧ Fq YtI TkL s t ∧ (isN (tokF N bt p) → ¬ fnd (gL s (P + 4)) (tokF N bt p).2.2.2.1 nk 0 = -1 → vX9_takeKind s P = 1 ∧ TkY t (tokF N bt p) ∧ gI t 3 6 = zI (fnd (gL s (P + 4)) (tokF N bt p).2.2.2.1 nk 0)) ∧ (¬ isN (tokF N bt p) → vX9_takeKind s P = 0 ∧ FtY t 1 (tokF N bt p).2.1) ∧ (isN (tokF N bt p) → fnd (gL s (P + 4)) (tokF N bt p).2.2.2.1 nk 0 = -1 → vX9_takeKind s P = 0 ∧ FtY t 3 (tokF N bt p).2.1) ∧ (vX9_takeKind s P = 1 → gI t 3 2 = gI s 3 2) := by
  obtain ⟨t, p1, p2, p3, p4⟩ := y_next h hN hp h7
  have hk := tok_S (N := N) bt p
  obtain ⟨k, hkk⟩ : ∃ k, k = tokF N bt p := ⟨_, rfl⟩
  rw [← hkk] at p4 hk ⊢
  obtain ⟨n1, n2, n3⟩ := y_isName p4.1 hk p4.2.2.2.1
  obtain ⟨-, q2, q3⟩ := y_ref p4 1
  have f0 : Fq YtI TkL s t := Fq_mo p3 (fun c i hc => by omega) (fun c i hc => hc)
  have g7 : gI t P 7 = zI (nk : Int) := by rw [p3.1 P 7 (by omega)]; exact e7
  have l1 : gL t (P + 4) = gL s (P + 4) := by funext j; exact p3.2.1 _ _ (by omega)
  unfold mX9_takeKind vX9_takeKind rX9_takeKind
  rw [p1]
  by_cases c : isN k
  · have ew := p4.2.2.2.1 c.1
    obtain ⟨b1, b2⟩ := y_kNamed (s := t) hb g7 (gL t 3 4)
    rw [ew] at b1 b2
    rw [l1] at b1
    obtain ⟨t2, ht2⟩ : ∃ t2, t2 = pI t 3 6 (zI (fnd (gL s (P + 4)) k.2.2.2.1 nk 0)) := ⟨_, rfl⟩
    have f2 : Fq (fun c i => c = 3 ∧ i = 6) (fun _ _ => False) t t2 := by rw [ht2]; exact Fq_p _ ⟨rfl, rfl⟩
    have x6 : gI t2 3 6 = zI (fnd (gL s (P + 4)) k.2.2.2.1 nk 0) := by rw [ht2, gI_pI, if_pos ⟨rfl, rfl⟩]
    have p5 : TkY t2 k := TkY_fq p4 f2 (fun c i hc => by omega) (fun _ _ _ hx => hx)
    have f2' : Fq YtI TkL t t2 := Fq_mo f2 (fun c i hc => by omega) (fun _ _ hc => hc.elim)
    obtain ⟨-, r2, r3⟩ := y_ref p5 3
    have k10 : ¬ (1 : Int32) = 0 := by decide
    simp only [n2 c, if_neg k10]
    rw [ew, b1, ← ht2, x6]
    obtain ⟨z1, -, -⟩ := z_m1 (v := fnd (gL s (P + 4)) k.2.2.2.1 nk 0) (by rcases fnd_b (gL s (P + 4)) k.2.2.2.1 nk 0 with h | h; exact Or.inl h; exact Or.inr ⟨by omega, by omega⟩)
    by_cases c1 : fnd (gL s (P + 4)) k.2.2.2.1 nk 0 = -1
    · simp only [if_pos (z1.mpr c1)]
      exact ⟨_, rfl, ⟨p2, n1, fun _ => b2⟩, Fq_tr f0 (Fq_tr f2' r3), fun _ hc => absurd c1 hc, fun hc => absurd c hc, fun _ _ => ⟨rfl, r2⟩, fun hc => absurd (show (0 : Int32) = 1 from hc) (by decide)⟩
    · have k1 := fun hc => c1 (z1.mp hc)
      simp only [if_neg k1]
      exact ⟨t2, rfl, ⟨p2, n1, fun _ => b2⟩, Fq_tr f0 f2', fun _ _ => ⟨by trivial, p5, x6⟩, fun hc => absurd c hc, fun _ hc => absurd hc c1, fun _ => (f2.1 3 2 (by omega)).trans (p3.1 3 2 (by omega))⟩
  · rw [n3 c, if_pos rfl, if_pos rfl]
    exact ⟨_, rfl, ⟨p2, n1, fun hc => absurd rfl hc⟩, Fq_tr f0 q3, fun hc => absurd hc c, fun _ => ⟨rfl, q2⟩, fun hc => absurd hc c, fun hc => absurd (show (0 : Int32) = 1 from hc) (by decide)⟩
theorem x_takesName (h : TkX s N k) (hk : 0 ≤ k.1 ∧ k.1 ≤ 4) (hs : TkS s N bt) (hN : N ≤ 640) (hE : k.2.2.1 ≤ N) (hr : ∀ i, i < 17 → gL s 254 i = WV i) {a n : Nat} (ha : a + n ≤ 30) : ∃ t, mX12_takesName s (zI (a : Int)) (zI (n : Int)) = t ∧ rX12_takesName s (zI (a : Int)) (zI (n : Int)) ∧ Fq XtI TxL s t ∧ (isN k → ¬ fnd (fun j => gL s 253 (a + j)) k.2.2.2.1 n 0 = -1 → vX12_takesName s (zI (a : Int)) (zI (n : Int)) = 1 ∧ TkX t N (tokF N bt k.2.2.1) ∧ gI t 248 18 = zI (fnd (fun j => gL s 253 (a + j)) k.2.2.2.1 n 0)) ∧ (¬ isN k → vX12_takesName s (zI (a : Int)) (zI (n : Int)) = 0 ∧ FtX t 1 k.2.1) ∧ (isN k → fnd (fun j => gL s 253 (a + j)) k.2.2.2.1 n 0 = -1 → vX12_takesName s (zI (a : Int)) (zI (n : Int)) = 0 ∧ FtX t 3 k.2.1) ∧ (vX12_takesName s (zI (a : Int)) (zI (n : Int)) = 1 → gI t 248 15 = gI s 248 15) := by
  obtain ⟨n1, n2, n3⟩ := x_isName hr (TkX_s h hk).1 h.2.2.2.1
  obtain ⟨-, q2, q3⟩ := x_bad h 1
  unfold mX12_takesName vX12_takesName rX12_takesName
  by_cases c : isN k
  · have ew := h.2.2.2.1 c.1
    obtain ⟨b1, b2⟩ := x_find (s := s) ha
    rw [ew] at b1
    obtain ⟨t2, ht2⟩ : ∃ t2, t2 = pI s 248 18 (zI (fnd (fun j => gL s 253 (a + j)) k.2.2.2.1 n 0)) := ⟨_, rfl⟩
    have f2 : Fq (fun c i => c = 248 ∧ i = 18) (fun _ _ => False) s t2 := by rw [ht2]; exact Fq_p _ ⟨rfl, rfl⟩
    have f2' : Fq XtI TxL s t2 := Fq_mo f2 (fun c i hc => by omega) (fun _ _ hc => hc.elim)
    have x18 : gI t2 248 18 = zI (fnd (fun j => gL s 253 (a + j)) k.2.2.2.1 n 0) := by rw [ht2, gI_pI, if_pos ⟨rfl, rfl⟩]
    have p5 : TkX t2 N k := TkX_fq h f2 (fun c i hc => by omega) (fun _ _ _ hx => hx)
    obtain ⟨-, r2, r3⟩ := x_bad p5 3
    have k10 : ¬ (1 : Int32) = 0 := by decide
    simp only [n2 c, if_neg k10]
    rw [b1, ← ht2, x18]
    obtain ⟨-, z1, -⟩ := z_m1 (v := fnd (fun j => gL s 253 (a + j)) k.2.2.2.1 n 0) (by rcases fnd_b (fun j => gL s 253 (a + j)) k.2.2.2.1 n 0 with h | h; exact Or.inl h; exact Or.inr ⟨by omega, by omega⟩)
    by_cases c1 : fnd (fun j => gL s 253 (a + j)) k.2.2.2.1 n 0 = -1
    · have k1 : ¬ 0 ≤ zI (fnd (fun j => gL s 253 (a + j)) k.2.2.2.1 n 0) := fun hc => z1.mp hc c1
      simp only [if_neg k1]
      exact ⟨_, rfl, ⟨n1, fun _ => ⟨b2, fun hc => absurd hc k1⟩⟩, Fq_tr f2' r3, fun _ hc => absurd c1 hc, fun hc => absurd c hc, fun _ _ => ⟨rfl, r2⟩, fun hc => absurd (show (0 : Int32) = 1 from hc) (by decide)⟩
    · have k1 := z1.mpr c1
      obtain ⟨t, p1, p2, p3, p4⟩ := x_next (TkS_fq hs f2 (fun c i hc => by omega)) hN hE p5.2.2.1
      simp only [if_pos k1]
      rw [p1]
      refine ⟨t, rfl, ⟨n1, fun _ => ⟨b2, fun _ => p2⟩⟩, Fq_tr f2' (Fq_mo p3 (fun c i hc => by omega) (fun c i hc => hc)), fun _ _ => ⟨by trivial, p4, ?_⟩, fun hc => absurd c hc, fun _ hc => absurd hc c1, fun _ => (p3.1 248 15 (by omega)).trans (f2.1 248 15 (by omega))⟩
      rw [p3.1 248 18 (by omega), x18]
  · rw [n3 c, if_pos rfl, if_pos rfl]
    exact ⟨_, rfl, ⟨n1, fun hc => absurd rfl hc⟩, q3, fun hc => absurd hc c, fun _ => ⟨rfl, q2⟩, fun hc => absurd hc c, fun hc => absurd (show (0 : Int32) = 1 from hc) (by decide)⟩
end
