-- needs: 6m.bod
section
variable {s t : SM} {N : Nat} {bt : Nat → Int}
theorem y_kindEnd {s5 : SM} {nk : Nat} (e7 : gI s5 12 7 = zI (nk : Int)) : (lX6_readKind FU) s5 12 = (vX9_isStop (pI s5 12 7 (zI ((nk + 1 : Nat) : Int))), mX9_isStop (pI s5 12 7 (zI ((nk + 1 : Nat) : Int)))) ∧ (qX6_readKind FU) s5 12 := ST_fu (ST_1 (F := fun n => lX6_readKind n s5 12) (C := fun n => qX6_readKind n s5 12) (F' := fun _ => (vX9_isStop (pI s5 12 7 (zI ((nk + 1 : Nat) : Int))), mX9_isStop (pI s5 12 7 (zI ((nk + 1 : Nat) : Int))))) (C' := fun _ => True) (fun n => by
    show tX6_readKind_96 (lX6_readKind n) s5 12 = _ ∧ (_ → uX6_readKind_96 (qX6_readKind n) s5 12)
    have e : zI (nk : Int) + 1 = zI ((nk + 1 : Nat) : Int) := by rw [zl1, z_add]; congr 1
    unfold tX6_readKind_96 uX6_readKind_96
    rw [e7, e]
    exact ⟨rfl, fun _ => trivial⟩)) (by omega)
def soT (k : Tok) (y : Int) : Prop := (k.1 = 1 ∧ k.2.2.2.1 = 28270047624193380 ∧ y = 1) ∨ (k.1 = 1 ∧ k.2.2.2.1 = 114767640814948 ∧ y = 2) ∨ (k.1 = 1 ∧ k.2.2.2.1 = 439721161573 ∧ y = 3) ∨ (k.1 = 1 ∧ k.2.2.2.1 = 457135713908 ∧ y = 4) ∨ (¬ (k.1 = 1 ∧ k.2.2.2.1 = 28270047624193380) ∧ ¬ (k.1 = 1 ∧ k.2.2.2.1 = 114767640814948) ∧ ¬ (k.1 = 1 ∧ k.2.2.2.1 = 439721161573) ∧ ¬ (k.1 = 1 ∧ k.2.2.2.1 = 457135713908) ∧ y = 0)
theorem soT_ex (k : Tok) : ∃ y, soT k y ∧ 0 ≤ y ∧ y ≤ 4 := by
  unfold soT
  by_cases c1 : k.1 = 1 ∧ k.2.2.2.1 = 28270047624193380
  · exact ⟨1, Or.inl ⟨c1.1, c1.2, rfl⟩, by decide, by decide⟩
  · by_cases c2 : k.1 = 1 ∧ k.2.2.2.1 = 114767640814948
    · exact ⟨2, Or.inr (Or.inl ⟨c2.1, c2.2, rfl⟩), by decide, by decide⟩
    · by_cases c3 : k.1 = 1 ∧ k.2.2.2.1 = 439721161573
      · exact ⟨3, Or.inr (Or.inr (Or.inl ⟨c3.1, c3.2, rfl⟩)), by decide, by decide⟩
      · by_cases c4 : k.1 = 1 ∧ k.2.2.2.1 = 457135713908
        · exact ⟨4, Or.inr (Or.inr (Or.inr (Or.inl ⟨c4.1, c4.2, rfl⟩))), by decide, by decide⟩
        · exact ⟨0, Or.inr (Or.inr (Or.inr (Or.inr ⟨c1, c2, c3, c4, rfl⟩))), by decide, by decide⟩
/-- the four words' truths -/
theorem soT_w {k : Tok} {y : Int} (h : soT k y) {d hh f j : Int32} (hd : d = bI (k.1 = 1 ∧ k.2.2.2.1 = 28270047624193380)) (h2 : hh = bI (k.1 = 1 ∧ k.2.2.2.1 = 114767640814948)) (hf : f = bI (k.1 = 1 ∧ k.2.2.2.1 = 439721161573)) (hj : j = bI (k.1 = 1 ∧ k.2.2.2.1 = 457135713908)) : (¬ d = 0 ∧ y = 1) ∨ (d = 0 ∧ ¬ hh = 0 ∧ y = 2) ∨ (d = 0 ∧ hh = 0 ∧ ¬ f = 0 ∧ y = 3) ∨ (d = 0 ∧ hh = 0 ∧ f = 0 ∧ ¬ j = 0 ∧ y = 4) ∨ (d = 0 ∧ hh = 0 ∧ f = 0 ∧ j = 0 ∧ y = 0) := by
  rw [hd, h2, hf, hj]
  simp only [bI_0]
  rcases h with ⟨a, b, c⟩ | ⟨a, b, c⟩ | ⟨a, b, c⟩ | ⟨a, b, c⟩ | ⟨a, b, c, d, e⟩
  · exact Or.inl ⟨fun hn => hn ⟨a, b⟩, c⟩
  · exact Or.inr (Or.inl ⟨fun hn => absurd (hn.2.symm.trans b) (by decide), fun hn => hn ⟨a, b⟩, c⟩)
  · exact Or.inr (Or.inr (Or.inl ⟨fun hn => absurd (hn.2.symm.trans b) (by decide), fun hn => absurd (hn.2.symm.trans b) (by decide), fun hn => hn ⟨a, b⟩, c⟩))
  · exact Or.inr (Or.inr (Or.inr (Or.inl ⟨fun hn => absurd (hn.2.symm.trans b) (by decide), fun hn => absurd (hn.2.symm.trans b) (by decide), fun hn => absurd (hn.2.symm.trans b) (by decide), fun hn => hn ⟨a, b⟩, c⟩)))
  · exact Or.inr (Or.inr (Or.inr (Or.inr ⟨a, b, c, d, e⟩)))
theorem y_sorT {k : Tok} (h : TkY s k) (hk : 0 ≤ k.1 ∧ k.1 ≤ 4) {y : Int} (hy : soT k y) : vX6_sortTold s = zI y := by
  unfold vX6_sortTold
  rcases soT_w hy (y_says h hk _) (y_says h hk _) (y_says h hk _) (y_says h hk _) with ⟨a, e⟩ | ⟨a, b, e⟩ | ⟨a, b, c, e⟩ | ⟨a, b, c, d, e⟩ | ⟨a, b, c, d, e⟩
  · rw [if_neg a, e]; rfl
  · rw [if_pos a, if_neg b, e]; rfl
  · rw [if_pos a, if_pos b, if_neg c, e]; rfl
  · rw [if_pos a, if_pos b, if_pos c, if_neg d, e]; rfl
  · rw [if_pos a, if_pos b, if_pos c, if_pos d, e]; rfl
end
