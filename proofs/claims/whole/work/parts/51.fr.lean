-- needs:
theorem PoR_fr {s t : SM} {P : Nat} {g : Nat → Int} {A : Nat → Prop} (h : PoR s P g) (hf : Fr A s t) (hA : ∀ c, P ≤ c → c ≤ P + 6 → ¬ A c) : PoR t P g := by
  have e : ∀ c, P ≤ c → c ≤ P + 6 → gI t c = gI s c := fun c h1 h2 => hf.1 c (hA c h1 h2)
  refine ⟨?_, fun b hb => ?_, fun k hk => ?_⟩
  · rw [e P (by omega) (by omega)]; exact h.1
  · rw [e (P + 2) (by omega) (by omega), e (P + 3) (by omega) (by omega)]; exact h.2.1 b hb
  · rw [e (P + 5) (by omega) (by omega), e (P + 6) (by omega) (by omega)]; exact h.2.2 k hk
theorem LdS_fr {s t : SM} {L : Nat} {g : Nat → Int} {A : Nat → Prop} (h : LdS s L g) (hf : Fr A s t) (hA : ∀ c, L ≤ c → c ≤ L + 11 → ¬ A c) : LdS t L g := by
  have e : ∀ c, L ≤ c → c ≤ L + 11 → gI t c = gI s c := fun c h1 h2 => hf.1 c (hA c h1 h2)
  refine ⟨?_, fun b hb => ?_, fun d hd => ?_⟩
  · rw [e L (by omega) (by omega)]; exact h.1
  · unfold LdB; rw [e (L + 7) (by omega) (by omega), e (L + 8) (by omega) (by omega)]; exact h.2.1 b hb
  · unfold LdD; rw [e (L + 1) (by omega) (by omega), e (L + 2) (by omega) (by omega), e (L + 3) (by omega) (by omega), e (L + 4) (by omega) (by omega), e (L + 5) (by omega) (by omega), e (L + 6) (by omega) (by omega), e (L + 9) (by omega) (by omega), e (L + 10) (by omega) (by omega), e (L + 11) (by omega) (by omega)]; exact h.2.2 d hd
theorem LdR_fr {s t : SM} {L P : Nat} {g : Nat → Int} {A : Nat → Prop} (h : LdR s L P g) (hf : Fr A s t) (hA : ∀ c, (P ≤ c ∧ c ≤ P + 6) ∨ (L ≤ c ∧ c ≤ L + 11) → ¬ A c) : LdR t L P g :=
  ⟨PoR_fr h.1 hf (fun c h1 h2 => hA c (Or.inl ⟨h1, h2⟩)), LdS_fr h.2 hf (fun c h1 h2 => hA c (Or.inr ⟨h1, h2⟩))⟩
theorem RR_fr {s t : SM} {g : Nat → Int} {A : Nat → Prop} (h : RR s g) (hf : Fr A s t) (hA : ¬ A 250) : RR t g := fun k => by rw [hf.1 250 hA]; exact h k
