-- needs: 60.rg
/-! rings turned round -/
section
variable {g : Nat → Int}
theorem vpa_pre : ∀ {S R : List Nat}, vpa g (S ++ R) → vpa g S := by
  intro S
  induction S with
  | nil => intro R _; trivial
  | cons x Q ih =>
    intro R h
    refine ⟨h.1, fun z Q' hq => ?_, fun y hy => h.2.2.1 y (List.mem_append.mpr (Or.inl hy)), ih h.2.2.2⟩
    exact h.2.1 z (Q' ++ R) (by rw [hq]; rfl)
theorem vpa_pw : ∀ {S R : List Nat}, vpa g (S ++ R) → ∀ y ∈ S, ∀ z ∈ R, oZ g z 0 ≠ oZ g y 0 := by
  intro S
  induction S with
  | nil => intro R _ y hy; exact absurd hy (by simp)
  | cons x Q ih =>
    intro R h y hy z hz
    rcases List.mem_cons.mp hy with rfl | hy
    · exact h.2.2.1 z (List.mem_append.mpr (Or.inr hz))
    · exact ih h.2.2.2 y hy z hz
theorem mn_rot (w : Nat) : ∀ S : List Nat, mnR g (S ++ [w]) = mnR g (w :: S) := by
  intro S
  induction S with
  | nil => rfl
  | cons x Q ih =>
    show (if oZ g x 2 < mnR g (Q ++ [w]) then oZ g x 2 else mnR g (Q ++ [w])) = if oZ g w 2 < (if oZ g x 2 < mnR g Q then oZ g x 2 else mnR g Q) then oZ g w 2 else (if oZ g x 2 < mnR g Q then oZ g x 2 else mnR g Q)
    rw [ih]
    show (if oZ g x 2 < (if oZ g w 2 < mnR g Q then oZ g w 2 else mnR g Q) then oZ g x 2 else (if oZ g w 2 < mnR g Q then oZ g w 2 else mnR g Q)) = _
    generalize mnR g Q = m
    generalize oZ g x 2 = a
    generalize oZ g w 2 = b
    by_cases h1 : b < m <;> by_cases h2 : a < m <;> simp only [h1, h2, if_true, if_false] <;> by_cases h3 : a < b <;> by_cases h4 : b < a <;> simp only [h3, h4, if_true, if_false] <;> omega
theorem fr_rot (m : Int) (w : Nat) : ∀ S : List Nat, frR g m (S ++ [w]) = frR g m (w :: S) := by
  intro S
  induction S with
  | nil => rfl
  | cons x Q ih =>
    show (if oZ g x 2 = m then frd g x else 0) + frR g m (Q ++ [w]) = (if oZ g w 2 = m then frd g w else 0) + ((if oZ g x 2 = m then frd g x else 0) + frR g m Q)
    rw [ih]
    show _ + ((if oZ g w 2 = m then frd g w else 0) + frR g m Q) = _
    omega
theorem rot1 {S : List Nat} {w : Nat} (h : RGs g False (S ++ [w])) : RGs g False (w :: S) ∧ fsR g (w :: S) = fsR g (S ++ [w]) := by
  obtain ⟨h1, h2, h3, -⟩ := h
  have hS : S ≠ [] := fun hq => by rw [hq] at h2; exact absurd h2.1 (by simp)
  have hst : stt (S ++ [w]) = w := stt_app S (by simp)
  have hl : (S ++ [w]).length = S.length + 1 := by rw [List.length_append]; rfl
  have hw : vpa g [w] := vpa_app h1
  refine ⟨⟨⟨hw.1, fun x Q hq => ?_, fun y hy => fun hc => vpa_pw h1 y hy w (by simp) hc.symm, vpa_pre h1⟩, by rw [List.length_cons, ← hl]; exact h2, fun x Q hq => ?_, fun hc => absurd hc (fun h => h)⟩, ?_⟩
  · have := h3 x (Q ++ [w]) (by rw [hq]; rfl)
    rw [this, hst]
  · obtain ⟨T, hT⟩ : ∃ T, S = T ++ [stt S] := by
      clear h1 h2 h3 hst hl hq
      induction S with
      | nil => exact absurd rfl hS
      | cons z P ih =>
        by_cases hP : P = []
        · subst hP; exact ⟨[], rfl⟩
        · obtain ⟨T, hT⟩ := ih hP
          exact ⟨z :: T, by rw [stt_cons z hP, List.cons_append, ← hT]⟩
    have e : stt (w :: S) = stt S := stt_cons w hS
    have h4 : vpa g (stt S :: [w]) := by
      have := h1
      rw [hT, List.append_assoc] at this
      exact vpa_app this
    cases hq
    rw [e]
    exact (h4.2.1 w [] rfl).symm
  · unfold fsR
    rw [mn_rot, fr_rot]
theorem rotN (d : Nat) : ∀ (n : Nat) (A B : List Nat), B.length = n → RGs g False (A ++ d :: B) → RGs g False (B ++ A ++ [d]) ∧ fsR g (B ++ A ++ [d]) = fsR g (A ++ d :: B) := by
  intro n
  induction n with
  | zero =>
    intro A B hB h
    have : B = [] := List.length_eq_zero_iff.mp hB
    subst this
    exact ⟨h, rfl⟩
  | succ n ih =>
    intro A B hB h
    have hne : B ≠ [] := fun hq => by rw [hq] at hB; exact absurd hB (by simp)
    have hd := List.dropLast_concat_getLast hne
    generalize B.getLast hne = w at hd
    generalize B.dropLast = B' at hd
    subst hd
    have hl : B'.length = n := by rw [List.length_append] at hB; have : [w].length = 1 := rfl; omega
    have e : A ++ d :: (B' ++ [w]) = (A ++ d :: B') ++ [w] := by rw [List.append_assoc]; rfl
    rw [e] at h ⊢
    obtain ⟨r1, r2⟩ := rot1 h
    obtain ⟨q1, q2⟩ := ih (w :: A) B' hl r1
    have e2 : B' ++ (w :: A) ++ [d] = (B' ++ [w]) ++ A ++ [d] := by rw [List.append_assoc B' [w] A]; rfl
    rw [e2] at q1 q2
    exact ⟨q1, by rw [q2]; exact r2⟩
theorem rotTo {c : List Nat} (h : RGs g False c) {d : Nat} (hd : d ∈ c) : ∃ c', RGs g False c' ∧ stt c' = d ∧ fsR g c' = fsR g c ∧ ∀ y, y ∈ c' ↔ y ∈ c := by
  obtain ⟨A, B, rfl⟩ := List.append_of_mem hd
  obtain ⟨h1, h2⟩ := rotN d B.length A B rfl h
  refine ⟨_, h1, stt_app _ (by simp), h2, fun y => ?_⟩
  simp only [List.mem_append, List.mem_cons, List.mem_singleton]
  simp only [List.not_mem_nil, or_false]
  constructor
  · rintro ((h | h) | h)
    · exact Or.inr (Or.inr h)
    · exact Or.inl h
    · exact Or.inr (Or.inl h)
  · rintro (h | h | h)
    · exact Or.inl (Or.inr h)
    · exact Or.inr h
    · exact Or.inl (Or.inl h)
theorem least_mem : ∀ {c : List Nat}, c ≠ [] → ∃ d, d ∈ c ∧ ∀ y ∈ c, d ≤ y := by
  intro c
  induction c with
  | nil => intro h; exact absurd rfl h
  | cons x Q ih =>
    intro _
    by_cases hQ : Q = []
    · subst hQ; exact ⟨x, by simp, fun y hy => by rw [List.mem_singleton.mp hy]; exact Nat.le_refl _⟩
    · obtain ⟨d, h1, h2⟩ := ih hQ
      by_cases hx : x ≤ d
      · refine ⟨x, by simp, fun y hy => ?_⟩
        rcases List.mem_cons.mp hy with rfl | hy
        · exact Nat.le_refl _
        · exact Nat.le_trans hx (h2 y hy)
      · refine ⟨d, by simp [h1], fun y hy => ?_⟩
        rcases List.mem_cons.mp hy with rfl | hy
        · omega
        · exact h2 y hy
theorem rotMin {c : List Nat} (h : RGs g False c) : ∃ c', RGs g True c' ∧ fsR g c' = fsR g c ∧ ∀ y, y ∈ c' ↔ y ∈ c := by
  have hne : c ≠ [] := fun hq => by have := h.2.1.1; rw [hq] at this; exact absurd this (by decide)
  obtain ⟨d, d1, d2⟩ := least_mem hne
  obtain ⟨c', h1, h2, h3, h4⟩ := rotTo h d1
  exact ⟨c', ⟨h1.1, h1.2.1, h1.2.2.1, fun _ y hy => by rw [h2]; exact d2 y ((h4 y).mp hy)⟩, h3, h4⟩
/-- the two searches for a ring that holds d free alike -/
theorem with_eq (hw : WF g) {d : Nat} {a b : Option (List Nat)} (ha : ∀ q, a = some q → RGs g False q ∧ stt q = d) (ha2 : ∀ c, RGs g False c → stt c = d → KK g c ≤ KB g a) (hb : ∀ q, b = some q → CR g d q) (hb2 : ∀ c, CR g d c → KK g c ≤ KB g b) : (a = none ∧ b = none) ∨ ∃ p q, a = some p ∧ b = some q ∧ fsR g p = fsR g q := by
  have toT : ∀ p, RGs g False p → stt p = d → ∃ c, CR g d c ∧ fsR g c = fsR g p := fun p h1 h2 => by
    obtain ⟨c, r1, r2, r3⟩ := rotMin h1
    have hne : p ≠ [] := fun hq => by have := h1.2.1.1; rw [hq] at this; exact absurd this (by decide)
    exact ⟨c, ⟨r1, Or.inr ⟨d, (r3 d).mpr (by rw [← h2]; exact stt_mem hne), rfl⟩⟩, r2⟩
  have toF : ∀ q, CR g d q → ∃ c, RGs g False c ∧ stt c = d ∧ fsR g c = fsR g q := fun q h1 => by
    have hd : d ∈ q := by
      rcases h1.2 with h | ⟨y, hy, he⟩
      · omega
      · rw [show d = y by omega]; exact hy
    obtain ⟨c, r1, r2, r3, -⟩ := rotTo (c := q) ⟨h1.1.1, h1.1.2.1, h1.1.2.2.1, fun hc => absurd hc (fun h => h)⟩ hd
    exact ⟨c, r1, r2, r3⟩
  cases a with
  | none =>
    cases b with
    | none => exact Or.inl ⟨rfl, rfl⟩
    | some q =>
      obtain ⟨c, c1, c2, c3⟩ := toF q (hb q rfl)
      have h1 : KK g c ≤ 0 := ha2 c c1 c2
      have := KK_pos hw c1
      omega
  | some p =>
    obtain ⟨p1, p2⟩ := ha p rfl
    obtain ⟨c, c1, c2⟩ := toT p p1 p2
    cases b with
    | none =>
      have h1 : KK g c ≤ 0 := hb2 c c1
      have := KK_pos hw c1.1
      omega
    | some q =>
      refine Or.inr ⟨p, q, rfl, rfl, ?_⟩
      have h1 := KK_fs hw c1.1 (hb q rfl).1 (hb2 c c1)
      obtain ⟨c', e1, e2, e3⟩ := toF q (hb q rfl)
      have h2 := KK_fs hw e1 p1 (ha2 c' e1 e2)
      omega
end
