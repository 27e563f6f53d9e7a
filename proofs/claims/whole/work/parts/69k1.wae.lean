-- needs: 69k.judge 69j1.wad
theorem jdF_wa {s0 : SM} {g : Nat → Int} (hb : BkR s0 g) : ∀ (r i : Nat) (u : Nat → Int), ((i + r : Nat) : Int) = g 586 → WF u → (∀ k, k < 34 → u k = g k) → (∀ k, 586 ≤ k → u k = g k) → WA u → WA (jdF g r i u).2.2 := by
  intro r
  induction r with
  | zero => intro i u _ _ _ _ h; exact h
  | succ r ih =>
    intro i u hi hw h1 h2 h
    obtain ⟨c1, -⟩ := hb.2.2 i (by omega)
    have c1 := LnD_sp (v := u) c1 (h1 0 (by omega)) (h1 1 (by omega))
    unfold jdF
    by_cases hz : dzW (g (587 + 5 * i)) (g (588 + 5 * i)) (g (589 + 5 * i)) (g (591 + 5 * i)) u = 0
    · rw [if_pos hz]
      obtain ⟨w1, w2, w3⟩ := dzG_all hw c1
      exact ih (i + 1) _ (by omega) w1 (fun k hk => by rw [w2 k hk, h1 k hk]) (fun k hk => by rw [w3 k hk, h2 k hk]) (WA_dz hw c1 h)
    · rw [if_neg hz]; exact h
