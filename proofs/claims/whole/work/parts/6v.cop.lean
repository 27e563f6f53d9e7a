-- needs: 6u.fre
section
variable {s : SM}
theorem va_lo {α : Type} (f g : Nat → α) {n i : Nat} (h : i < n) : va_cpy f g 0 0 n i = f i := by
  unfold va_cpy
  rw [if_pos ⟨Nat.zero_le _, by omega⟩]
  congr 1
  omega
theorem Fq_cI {A B : Nat → Nat → Prop} (s : SM) {c : Nat} (f : Nat → Int32) (h : ∀ i, A c i) : Fq A B s (cI s c f) := ⟨fun c' i hc => by rw [gI_cI, if_neg (fun hq => hc (by rw [hq]; exact h i))], fun _ _ _ => rfl, rfl⟩
theorem Fq_cL {A B : Nat → Nat → Prop} (s : SM) {c : Nat} (f : Nat → Int64) (h : ∀ i, B c i) : Fq A B s (cL s c f) := ⟨fun _ _ _ => rfl, fun c' i hc => by rw [gL_cL, if_neg (fun hq => hc (by rw [hq]; exact h i))], rfl⟩
abbrev CpI (c i : Nat) : Prop := (c = 5 ∧ (i = 6 ∨ i = 7 ∨ i = 8 ∨ i = 9 ∨ i = 10 ∨ i = 11)) ∨ c = 7 ∨ c = 8 ∨ c = 10 ∨ c = 11
abbrev CpL (c i : Nat) : Prop := c = 6 ∨ c = 9
/-- the port takes over the draft -/
theorem y_portCopy (s : SM) : (∀ i, 6 ≤ i → i ≤ 11 → gI (mX6_copyFrom s 5 12) 5 i = gI s 12 i) ∧ (∀ b, b < 9 → gI (mX6_copyFrom s 5 12) 7 b = gI s 14 b ∧ gI (mX6_copyFrom s 5 12) 8 b = gI s 15 b ∧ gL (mX6_copyFrom s 5 12) 6 b = gL s 13 b) ∧ (∀ k, k < 6 → gI (mX6_copyFrom s 5 12) 10 k = gI s 17 k ∧ gI (mX6_copyFrom s 5 12) 11 k = gI s 18 k ∧ gL (mX6_copyFrom s 5 12) 9 k = gL s 16 k) ∧ Fq CpI CpL s (mX6_copyFrom s 5 12) := by
  unfold mX6_copyFrom
  dsimp only
  have z0 : ((0 : Int32)).toNatClampNeg = 0 := rfl
  have z6 : ((6 : Int32)).toNatClampNeg = 6 := rfl
  have z9 : ((9 : Int32)).toNatClampNeg = 9 := rfl
  simp only [z0, z6, z9, Nat.reduceAdd]
  refine ⟨fun i h1 h2 => ?_, fun b hb => ⟨?_, ?_, ?_⟩, fun k hk => ⟨?_, ?_, ?_⟩, ?_⟩
  · obtain rfl | rfl | rfl | rfl | rfl | rfl : i = 6 ∨ i = 7 ∨ i = 8 ∨ i = 9 ∨ i = 10 ∨ i = 11 := by omega
    all_goals simp only [gI_pI, gI_cI, gI_cL, Nat.reduceEqDiff, and_true, and_false, false_and, true_and, if_true, if_false]
  · simp only [gI_pI, gI_cI, gI_cL, Nat.reduceEqDiff, and_true, and_false, false_and, true_and, if_true, if_false, va_lo _ _ hb]
  · simp only [gI_pI, gI_cI, gI_cL, Nat.reduceEqDiff, and_true, and_false, false_and, true_and, if_true, if_false, va_lo _ _ hb]
  · simp only [gL_pI, gL_cI, gL_cL, Nat.reduceEqDiff, if_true, if_false, va_lo _ _ hb]
  · simp only [gI_pI, gI_cI, gI_cL, Nat.reduceEqDiff, and_true, and_false, false_and, true_and, if_true, if_false, va_lo _ _ hk]
  · simp only [gI_pI, gI_cI, gI_cL, Nat.reduceEqDiff, and_true, and_false, false_and, true_and, if_true, if_false, va_lo _ _ hk]
  · simp only [gL_pI, gL_cI, gL_cL, Nat.reduceEqDiff, if_true, if_false, va_lo _ _ hk]
  · exact Fq_tr (Fq_cL _ _ (by omega)) (Fq_tr (Fq_cI _ _ (by omega)) (Fq_tr (Fq_cI _ _ (by omega)) (Fq_tr (Fq_cL _ _ (by omega)) (Fq_tr (Fq_cI _ _ (by omega)) (Fq_tr (Fq_cI _ _ (by omega)) (Fq_tr (Fq_tr (Fq_p _ (by omega)) (Fq_tr (Fq_p _ (by omega)) (Fq_p _ (by omega)))) (Fq_tr (Fq_p _ (by omega)) (Fq_tr (Fq_p _ (by omega)) (Fq_p _ (by omega))))))))))
end
