-- needs: 42.qa 51.fr 54.copy 55.hist 56.hist 60.rg 61.xrg 62.best 64.yprep
/-! the class's search for rings: the paths -/
theorem stt_dec : ∀ {c : List Nat}, c ≠ [] → ∃ S, c = S ++ [stt c] := by
  intro c
  induction c with
  | nil => intro h; exact absurd rfl h
  | cons w P ih =>
    intro _
    by_cases hP : P = []
    · subst hP; exact ⟨[], rfl⟩
    · obtain ⟨S, hS⟩ := ih hP
      refine ⟨w :: S, ?_⟩
      rw [stt_cons w hP, List.cons_append, ← hS]
theorem cd_stt {g : Nat → Int} (hw : WF g) {cn : Prop} {c : List Nat} (h : RGs g cn c) : (stt c : Int) * 12960000 ≤ cd c ∧ cd c < ((stt c : Int) + 1) * 12960000 := by
  have hne : c ≠ [] := fun hq => by have := h.2.1.1; rw [hq] at this; exact absurd this (by decide)
  obtain ⟨S, hS⟩ := stt_dec hne
  have l := h.2.1
  have h60 := RG_60 hw h
  have e := cd_ext S [stt c] (by rw [← hS]; exact l.2) (fun y hy => h60 y (by rw [hS]; simp [hy]))
  rw [← hS] at e
  have e1 : cd [stt c] = 0 + (stt c : Int) * 12960000 := rfl
  have e2 : pB [stt c].length = 12960000 := rfl
  have p : 1 ≤ pB c.length := by
    rcases (show c.length = 2 ∨ c.length = 3 ∨ c.length = 4 ∨ c.length = 5 by omega) with e | e | e | e <;> rw [e] <;> decide
  omega
def YO (s : SM) (g : Nat → Int) : Option (List Nat) → Prop
  | none => gI s 218 1 = zI 0 ∧ gI s 218 2 = zI (-1)
  | some q => gI s 218 1 = zI (q.length : Int) ∧ gI s 218 2 = zI (fsR g q) ∧ gI s 218 3 = zI (mnR g q) ∧ MPx 219 s q
theorem YO_c {s t : SM} {g : Nat → Int} {o : Option (List Nat)} (h : YO s g o) (h1 : ∀ i, i = 1 ∨ i = 2 ∨ i = 3 → gI t 218 i = gI s 218 i) (h2 : ∀ k, gI t 219 k = gI s 219 k) : YO t g o := by
  cases o with
  | none => exact ⟨by rw [h1 1 (by omega)]; exact h.1, by rw [h1 2 (by omega)]; exact h.2⟩
  | some q => exact ⟨by rw [h1 1 (by omega)]; exact h.1, by rw [h1 2 (by omega)]; exact h.2.1, by rw [h1 3 (by omega)]; exact h.2.2.1, MPx_c h.2.2.2 (fun k _ => h2 k)⟩
abbrev ExA (c i : Nat) : Prop := c = 219 ∨ c = 220 ∨ (c = 218 ∧ (i = 1 ∨ i = 2 ∨ i = 3))
def BT (g : Nat → Int) (o : Option (List Nat)) (st n : Nat) (f : Int) : Prop := ∀ q, o = some q → fsR g q < f ∨ (f = fsR g q ∧ (n < q.length ∨ (n = q.length ∧ st ≠ stt q)))
section
variable {s : SM} {g : Nat → Int}
theorem y_isBetter (hw : WF g) {cn : Prop} {o : Option (List Nat)} (ho : YO s g o) (hg : ∀ q, o = some q → RGs g cn q) {n : Nat} (hn : n ≤ 5) {f : Int} (hf : 0 ≤ f ∧ f ≤ 1000) {st : Nat} (hst : st < 60) (h220 : gI s 220 0 = zI (st : Int)) : (BT g o st n f → vX7_isBetter s (zI (n : Int)) (zI f) = 1) ∧ (¬ BT g o st n f → vX7_isBetter s (zI (n : Int)) (zI f) = 0) := by
  have c0 : (0 : Int32).toNatClampNeg = 0 := rfl
  unfold vX7_isBetter
  cases o with
  | none =>
    refine ⟨fun _ => ?_, fun hc => absurd (fun q hq => by cases hq) hc⟩
    rw [ho.2, if_neg (by rw [z_eq (by omega) (by omega)]; omega), if_neg (by rw [z_le (by omega) (by omega)]; omega)]
  | some q =>
    have hr := hg q rfl
    have l := hr.2.1
    have b := fs_90 hw hr.1 l.2
    have hne : q ≠ [] := fun hq => by have := l.1; rw [hq] at this; exact absurd this (by decide)
    have a0 := MPx_0 hne ho.2.2.2
    have hs60 := RG_60 hw hr _ (stt_mem hne)
    rw [ho.1, ho.2.1, c0, h220, a0]
    simp only [z_eq (show IR f by omega) (show IR (fsR g q) by omega), z_lt (show IR (n : Int) by omega) (show IR (q.length : Int) by omega), z_eq (show IR (n : Int) by omega) (show IR (q.length : Int) by omega), z_eq (show IR (st : Int) by omega) (show IR (stt q : Int) by omega), z_le (show IR f by omega) (show IR (fsR g q) by omega)]
    constructor
    · intro hb
      have hb := hb q rfl
      by_cases h1 : f = fsR g q
      · rw [if_pos h1]
        by_cases h2 : (n : Int) < q.length
        · rw [if_pos h2]
        · rw [if_neg h2, if_pos (by omega), if_neg (by omega)]
      · rw [if_neg h1, if_neg (by omega)]
    · intro hb
      have hb : ¬ (fsR g q < f ∨ (f = fsR g q ∧ (n < q.length ∨ (n = q.length ∧ st ≠ stt q)))) := fun hc => hb (fun q' hq' => by cases hq'; exact hc)
      by_cases h1 : f = fsR g q
      · rw [if_pos h1, if_neg (by omega)]
        by_cases h2 : (n : Int) = q.length
        · rw [if_pos h2, if_pos (by omega)]
        · rw [if_neg h2]
      · rw [if_neg h1, if_pos (by omega)]
theorem BT_yes (hw : WF g) {cn : Prop} {o : Option (List Nat)} (hg : ∀ q, o = some q → RGs g cn q) {c : List Nat} (hc : RGs g cn c) (hp : ∀ q, o = some q → stt c < stt q ∨ (stt q = stt c ∧ cd q < cd c)) (hb : BT g o (stt c) c.length (fsR g c)) : KB g o ≤ KK g c := by
  cases o with
  | none => exact Int.le_of_lt (KK_pos hw hc)
  | some q =>
    have hr := hg q rfl
    have h1 := hb q rfl
    have h2 := hp q rfl
    have d1 := cd_stt hw hr
    have d2 := cd_stt hw hc
    exact (KK_cmp hw hr hc).mpr (by omega)
theorem BT_no (hw : WF g) {cn : Prop} {o : Option (List Nat)} (hg : ∀ q, o = some q → RGs g cn q) {c : List Nat} (hc : RGs g cn c) {n : Nat} {f : Int} (hn : n ≤ c.length) (hf : fsR g c ≤ f) (hp : ∀ q, o = some q → stt c < stt q ∨ (stt q = stt c ∧ cd q < cd c)) (hb : ¬ BT g o (stt c) n f) : KK g c ≤ KB g o := by
  cases o with
  | none => exact absurd (fun q hq => by cases hq) hb
  | some q =>
    have hr := hg q rfl
    have h1 : ¬ (fsR g q < f ∨ (f = fsR g q ∧ (n < q.length ∨ (n = q.length ∧ stt c ≠ stt q)))) := fun h => hb (fun q' hq' => by cases hq'; exact h)
    have h2 := hp q rfl
    exact (KK_cmp hw hc hr).mpr (by omega)
/-- a ring is told -/
theorem y_offer (hw : WF g) {cn : Prop} {o : Option (List Nat)} (ho : YO s g o) (hg : ∀ q, o = some q → RGs g cn q) {c : List Nat} (hc : RGs g cn c) (hP : MPx 220 s c) (hp : ∀ q, o = some q → stt c < stt q ∨ (stt q = stt c ∧ cd q < cd c)) : ∃ s' o', mX7_offer s (zI (c.length : Int)) (zI (mnR g c)) (zI (fsR g c)) = s' ∧ Fp ExA s s' ∧ gD s' = gD s ∧ gI s' 220 = gI s 220 ∧ YO s' g o' ∧ (∀ q, o' = some q → o = some q ∨ q = c) ∧ KB g o ≤ KB g o' ∧ KK g c ≤ KB g o' := by
  have l := hc.2.1
  have hne : c ≠ [] := fun hq => by have := l.1; rw [hq] at this; exact absurd this (by decide)
  have hs60 := RG_60 hw hc _ (stt_mem hne)
  have b := fs_90 hw hc.1 l.2
  obtain ⟨b1, b2⟩ := y_isBetter hw ho hg (n := c.length) l.2 (f := fsR g c) (by omega) (st := stt c) hs60 (MPx_0 hne hP)
  unfold mX7_offer
  by_cases hb : BT g o (stt c) c.length (fsR g c)
  · rw [b1 hb, if_neg (by decide)]
    have e : ∀ i, gI (pI (pI (pI (cI s 219 (va_cpy (gI s 220) (gI s 219) (0 : Int32).toNatClampNeg (0 : Int32).toNatClampNeg (5 : Int32).toNatClampNeg)) 218 1 (zI (c.length : Int))) 218 3 (zI (mnR g c))) 218 2 (zI (fsR g c))) 219 i = if i < 5 then gI s 220 i else gI s 219 i := fun i => by
      rw [gI_n _ _ _ _ (by omega), gI_n _ _ _ _ (by omega), gI_n _ _ _ _ (by omega)]
      exact cp_s s 219 220 5 i
    refine ⟨_, some c, rfl, ?_, rfl, ?_, ⟨?_, ?_, ?_, ?_⟩, fun q hq => by cases hq; exact Or.inr rfl, BT_yes hw hg hc hp hb, Int.le_refl _⟩
    · exact Fp_tr (Fp_fr (cp_f (A := fun c => c = 219) s (a := 219) (b := 220) (n := 5) rfl) (fun c hc i => by omega)) (Fp_tr (Fp_p _ (by omega)) (Fp_tr (Fp_p _ (by omega)) (Fp_p _ (by omega))))
    · funext i
      rw [gI_n _ _ _ _ (by omega), gI_n _ _ _ _ (by omega), gI_n _ _ _ _ (by omega), gI_cI, if_neg (by decide)]
    · rw [gI_s, if_neg (by decide), gI_s, if_neg (by decide), gI_s, if_pos rfl]
    · rw [gI_s, if_pos rfl]
    · rw [gI_s, if_neg (by decide), gI_s, if_pos rfl]
    · exact MPx_c hP (fun k hk => by rw [e k, if_pos (by omega)])
  · rw [b2 hb, if_pos rfl]
    exact ⟨s, o, rfl, Fp_rf _ s, rfl, rfl, ho, fun q hq => Or.inl hq, Int.le_refl _, BT_no hw hg hc (Nat.le_refl _) (Int.le_refl _) hp hb⟩
end
def MTq (g : Nat → Int) (Q : List Nat) (b M : Int) : Prop := (0 ≤ M ∧ M < 512) ∧ ∀ x : Int, 0 ≤ x → x < 9 → (hasZ M x ↔ x = b ∨ ∃ y ∈ Q, oZ g y 0 = x)
theorem or512 {M : Int} (hM : 0 ≤ M ∧ M < 512) {x : Int} (hx : 0 ≤ x ∧ x < 9) : ∃ M' : Int, (0 ≤ M' ∧ M' < 512) ∧ zI M ||| ((1 : Int32) <<< (zI x &&& 31)) = zI M' ∧ ∀ y : Int, 0 ≤ y → y < 9 → (hasZ M' y ↔ y = x ∨ hasZ M y) := by
  obtain ⟨m, rfl⟩ : ∃ m : Nat, M = m := ⟨M.toNat, by omega⟩
  obtain ⟨n, rfl⟩ : ∃ n : Nat, x = n := ⟨x.toNat, by omega⟩
  have hp : (2 : Nat) ^ n ≤ 256 := by
    rcases (show n = 0 ∨ n = 1 ∨ n = 2 ∨ n = 3 ∨ n = 4 ∨ n = 5 ∨ n = 6 ∨ n = 7 ∨ n = 8 by omega) with h | h | h | h | h | h | h | h | h <;> rw [h] <;> decide
  have hlt : m ||| 2 ^ n < 2 ^ 9 := Nat.or_lt_two_pow (by omega) (by omega)
  refine ⟨((m ||| 2 ^ n : Nat) : Int), by omega, ?_, fun y h1 h2 => ?_⟩
  · rw [zN_shl n (by omega), zN_or]
  · obtain ⟨z, rfl⟩ : ∃ z : Nat, y = z := ⟨y.toNat, by omega⟩
    rw [zN_has _ z (by omega) (by omega), zN_has m z (by omega) (by omega), Nat.testBit_or, Nat.testBit_two_pow]
    by_cases h3 : n = z
    · subst h3; simp
    · have : ¬ ((z : Int) = (n : Int)) := by omega
      simp [h3, this]
theorem MTq_up {g : Nat → Int} {Q : List Nat} {b M : Int} (h : MTq g Q b M) {d : Nat} (hd : oZ g d 0 = b) {nx : Int} (hx : 0 ≤ nx ∧ nx < 9) : ∃ M', zI M ||| ((1 : Int32) <<< (zI nx &&& 31)) = zI M' ∧ MTq g (d :: Q) nx M' := by
  obtain ⟨M', h1, h2, h3⟩ := or512 h.1 hx
  refine ⟨M', h2, h1, fun x hx0 hx9 => ?_⟩
  rw [h3 x hx0 hx9, h.2 x hx0 hx9]
  constructor
  · rintro (h | h | ⟨y, hy, he⟩)
    · exact Or.inl h
    · exact Or.inr ⟨d, by simp, by rw [hd, h]⟩
    · exact Or.inr ⟨y, by simp [hy], he⟩
  · rintro (h | ⟨y, hy, he⟩)
    · exact Or.inl h
    · rcases List.mem_cons.mp hy with rfl | hy
      · exact Or.inr (Or.inl (by rw [← he, hd]))
      · exact Or.inr (Or.inr ⟨y, hy, he⟩)
theorem mn_b {g : Nat → Int} (hw : WF g) {P : List Nat} (hv : vpa g P) (hne : P ≠ []) : 0 ≤ mnR g P ∧ mnR g P ≤ 99 := by
  have mb : ∀ Q : List Nat, (∀ y ∈ Q, dlZ g y) → 0 ≤ mnR g Q := by
    intro Q
    induction Q with
    | nil => intro _; show (0 : Int) ≤ 1000000000; omega
    | cons w Q ih =>
      intro hq
      have := ih (fun y hy => hq y (by simp [hy]))
      have := (hw.wd (hq w (by simp))).2.2.1
      unfold mnR
      split <;> omega
  refine ⟨mb P (fun y hy => (vpa_ok hv y hy).1.1), ?_⟩
  have h1 := stt_mem hne
  have h2 := mn_le g P _ h1
  have := (hw.wd (vpa_ok hv _ h1).1.1).2.2.1
  omega
