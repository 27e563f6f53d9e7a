-- needs: 50a.wa 69a.cutz
theorem WA_un1 {g : Nat → Int} {d w : Int} (hd : 0 ≤ d) (hs : w = 0 ∨ w = 1) (hb : bdyZ g (oZ g d (6 + w))) (h9 : g 0 ≤ 9) (h : WA g) : WA (un1 g d w) := by
  refine WA_mo (un1_lo hd hs hb (by omega)) (fun e he => ?_) h
  have h1 : 0 ≤ e ∧ e < un1 g d w 34 := he.1
  rw [un1_lo hd hs hb (by omega)] at h1
  have h2 := he.2
  rw [un1_oZ hd hs hb h9 h1.1 (by omega) (by omega), if_neg (by omega)] at h2
  exact ⟨⟨h1, h2⟩, by rw [un1_oZ hd hs hb h9 h1.1 (by omega) (by omega), if_neg (by omega)], by rw [un1_oZ hd hs hb h9 h1.1 (by omega) (by omega), if_neg (by omega)]⟩
theorem WA_le {g : Nat → Int} (hw : WF g) {d m : Int} (ho : opZ g d) (h : WA g) : WA (leD g m d) := by
  have h0 := hw.w0
  unfold leD
  by_cases hq : oZ g d 2 - m = 0
  · rw [if_pos hq]
    obtain ⟨w0, d0, b0, h5, w1, d1, b1, h51, -⟩ := clZ_s hw ho
    have g9 : cl0 g d 0 ≤ 9 := by rw [cl0_lo ho.1.1 (by omega)]; omega
    have g91 : un1 (cl0 g d) d 0 0 ≤ 9 := by rw [un1_lo ho.1.1 (Or.inl rfl) b0 (by omega)]; omega
    unfold clZ
    refine WA_un1 ho.1.1 (Or.inr rfl) b1 g91 (WA_un1 ho.1.1 (Or.inl rfl) b0 g9 ?_)
    unfold cl0
    have hd1 : dlZ (stD g d 2 0) d := ⟨ho.1.1, by rw [stD_lo g 0 ho.1.1 (by omega) (by omega)]; exact ho.1.2⟩
    exact WA_st hd1 (by omega) (fun _ => by omega) (WA_st ho.1 (by omega) (fun hc => absurd hc (by omega)) h)
  · rw [if_neg hq]
    exact WA_st ho.1 (by omega) (fun hc => absurd hc (by omega)) h
theorem WA_cutF {g : Nat → Int} (hw : WF g) {m : Int} (hm : 0 ≤ m) (h : WA g) : ∀ {P : List Nat}, vpa g P → (∀ y ∈ P, m ≤ oZ g y 2) → WA (cutF g m P) := by
  intro P
  induction P with
  | nil => intro _ _; exact h
  | cons w P ih =>
    intro hv hs
    obtain ⟨n1, n2, -⟩ := cutF_nx hw hm hv hs
    show WA (leD (cutF g m P) m w)
    exact WA_le n1 n2 (ih hv.2.2.2 (fun y hy => hs y (by simp [hy])))
