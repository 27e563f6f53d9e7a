-- needs: 69j.line
theorem WA_dz {u : Nat → Int} (hw : WF u) {A B C D E : Int} (hl : LnD u A B C D E) (h : WA u) : WA (dzG A B C D E u) := by
  obtain ⟨l0, l1, l2, l3, l4⟩ := hl
  unfold dzG
  by_cases hz : dzW A B C E u = 0
  · rw [if_pos hz]
    unfold dzW at hz
    by_cases a0 : A = 0
    · rw [if_pos a0] at hz ⊢
      obtain ⟨b1, b2, b3, b4⟩ := l1 a0
      obtain ⟨-, y2, y3, -⟩ := wy_0 hw b1 b2 b4 hz
      exact WA_wr hw y2 y3 h
    · rw [if_neg a0] at hz ⊢
      by_cases a1 : A = 1
      · rw [if_pos a1] at hz ⊢
        exact WA_sk hw (skZ_wf hw hz).2 h
      · rw [if_neg a1] at hz ⊢
        by_cases a2 : A = 2
        · rw [if_pos a2] at hz ⊢
          have so : opZ u B := Classical.byContradiction (fun hc => by unfold scW at hz; rw [if_neg hc] at hz; omega)
          exact WA_sc so h
        · rw [if_neg a2] at hz ⊢
          by_cases a3 : A = 3
          · rw [if_pos a3]
            exact WA_cutO hw (BestO_ex hw) h
          · rw [if_neg a3] at hz ⊢
            by_cases a4 : A = 4
            · rw [if_pos a4] at hz ⊢
              have hn : ¬ (B = C ∨ ¬ livZ u B ∨ ¬ livZ u C) := fun hc => by rw [if_pos hc] at hz; omega
              obtain ⟨b1, b2⟩ := l4 a4
              exact WA_bu hw b1 b2 (fun hc => hn (Or.inl hc)) (Classical.not_not.mp fun hc => hn (Or.inr (Or.inr hc))) h
            · rw [if_neg a4]
              exact WA_35 h
  · rw [if_neg hz]; exact h
