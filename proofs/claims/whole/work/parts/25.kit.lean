/-! loops that both sides make alike -/
def fold {α : Type} (st : Nat → α → α) : Nat → α → α
  | 0, a => a
  | n + 1, a => st n (fold st n a)
theorem ST_fold {α β : Type} {B : Nat} (N : Nat) (st : Nat → α → α) (F : Nat → α → Nat → β) (C : Nat → α → Nat → Prop) (hs : ∀ d a, d < N → ST B (F d a) (C d a) (F (d + 1) (st d a)) (C (d + 1) (st d a))) (a : α) : ST (B * N) (F 0 a) (C 0 a) (F N (fold st N a)) (C N (fold st N a)) := by
  have key : ∀ k, k ≤ N → ST (B * k) (F 0 a) (C 0 a) (F k (fold st k a)) (C k (fold st k a)) := by
    intro k
    induction k with
    | zero => intro _; exact ST_mono (ST_refl _ _) (by omega)
    | succ k ih => intro h; exact ST_mono (ST_trans (ih (by omega)) (hs k _ (by omega))) (by rw [Nat.mul_succ]; omega)
  exact key N (Nat.le_refl _)
def run {α β : Type} (st : Nat → α → β ⊕ α) (fin : α → β) : Nat → Nat → α → β
  | 0, _, a => fin a
  | r + 1, d, a => match st d a with | .inl v => v | .inr a' => run st fin r (d + 1) a'
theorem ST_run {α β γ : Type} {B : Nat} (N : Nat) (st : Nat → α → β ⊕ α) (fin : α → β) (mk : β → γ) (F : Nat → α → Nat → γ) (C : Nat → α → Nat → Prop) (hs : ∀ d a, d < N → match st d a with | .inl v => ST B (F d a) (C d a) (fun _ => mk v) (fun _ => True) | .inr a' => ST B (F d a) (C d a) (F (d + 1) a') (C (d + 1) a')) (hf : ∀ a, ST B (F N a) (C N a) (fun _ => mk (fin a)) (fun _ => True)) : ∀ r d a, d + r = N → ST (B * (r + 1)) (F d a) (C d a) (fun _ => mk (run st fin r d a)) (fun _ => True) := by
  intro r
  induction r with
  | zero => intro d a h; obtain rfl : d = N := by omega
            exact ST_mono (hf a) (by omega)
  | succ r ih =>
    intro d a h
    have h1 := hs d a (by omega)
    unfold run
    match hq : st d a, h1 with
    | .inl v, h1 => exact ST_mono h1 (by rw [Nat.mul_succ]; omega)
    | .inr a', h1 => exact ST_mono (ST_trans h1 (ih (d + 1) a' (by omega))) (by rw [Nat.mul_succ B (r + 1)]; omega)
section
variable {s : SM} {g : Nat → Int}
theorem RR_p {c : Nat} (h : RR s g) (hc : c ≠ 250) (i : Nat) (v : Int32) : RR (pI s c i v) g := by
  intro k
  rw [gI_pI, if_neg (fun hq => hc hq.1.symm)]
  exact h k
theorem y_vp {d : Int} (hw : WF g) (hd : dlZ g d) : vp_in (zI d) 60 := by
  have := hw.w0
  rw [z_in (by omega)]
  omega
theorem n_f {L : Nat} (h : LdS s L g) (hw : WF g) {d : Int} (hd : dlZ g d) : gI s (L + 1) (zI d).toNatClampNeg = zI (oZ g d 0) ∧ gI s (L + 2) (zI d).toNatClampNeg = zI (oZ g d 1) ∧ gI s (L + 3) (zI d).toNatClampNeg = zI (oZ g d 2) ∧ gI s (L + 4) (zI d).toNatClampNeg = zI (oZ g d 3) ∧ gI s (L + 5) (zI d).toNatClampNeg = zI (oZ g d 4) ∧ gI s (L + 6) (zI d).toNatClampNeg = zI (oZ g d 5) ∧ gI s (L + 9) (zI d).toNatClampNeg = zI (oZ g d 6) ∧ gI s (L + 10) (zI d).toNatClampNeg = zI (oZ g d 7) ∧ gI s (L + 11) (zI d).toNatClampNeg = zI (oZ g d 8) := by
  have := hw.w0
  rw [z_cl (by omega)]
  exact h.2.2 d hd
end
