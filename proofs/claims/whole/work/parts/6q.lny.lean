-- needs: 6p.roo
section
variable {s t : SM} {N : Nat} {bt : Nat → Int}
theorem LnR_v {s' t1 : SM} {v v1 : Int32} {E : Nat} (h : LnR N bt E s s' v t t1 v1) : v = 0 ∨ v = 1 := by
  rcases h.1 with ⟨a, -⟩ | ⟨a, -⟩
  · exact Or.inr a
  · exact Or.inl a
theorem ln_any (hp : TpY s N bt) (hN : N ≤ 640) (hs : TkS t N bt) (hr : ∀ i, i < 17 → gL t 254 i = WV i) {k : Tok} (hy : TkY s k) (hx : TkX t N k) (hk : 0 ≤ k.1 ∧ k.1 ≤ 4) (hE : k.2.2.1 ≤ N) {nb nk : Nat} (hb : BdR s t nb) (hki : KiR s t nk) (hl : LiR s t) : ∃ s' t1 v1, mX6_readLine s 12 = s' ∧ rX6_readLine s 12 ∧ mX12_portLine t = t1 ∧ vX12_portLine t = v1 ∧ rX12_portLine t ∧ LnR N bt k.2.2.1 s s' (vX6_readLine s 12) t t1 v1 := by
  have y1 := y_says hy hk 1651467385
  have y2 := y_says hy hk 1802071652
  have y3 := y_says hy hk 1818848869
  have y4 := y_says hy hk 6582132
  have x1 := x_says hx hk 1651467385
  have x2 := x_says hx hk 1802071652
  have x3 := x_says hx hk 1818848869
  have x4 := x_says hx hk 6582132
  unfold mX6_readLine rX6_readLine vX6_readLine
  by_cases c1 : k.1 = 1 ∧ k.2.2.2.1 = 1651467385
  · obtain ⟨s', t1, v1, a1, a2, a3, a4, a5, a6⟩ := ln_body hp hN hs hr hy hx hk hE hb hki hl c1
    have k1 : ¬ vX9_says s 1651467385 = 0 := by rw [y1, bI_0]; exact fun hh => hh c1
    rw [if_neg k1, if_neg k1]
    exact ⟨s', t1, v1, a1, ⟨fun hc => absurd hc k1, fun _ => ⟨a2, LnR_v a6⟩⟩, a3, a4, a5, a6⟩
  · have k1 : vX9_says s 1651467385 = 0 := by rw [y1, bI_0]; exact c1
    have z1 : vX12_isWord t 1651467385 = 0 := by rw [x1, bI_0]; exact c1
    rw [if_pos k1, if_pos k1]
    by_cases c2 : k.1 = 1 ∧ k.2.2.2.1 = 1802071652
    · obtain ⟨s', t1, v1, a1, a2, a3, a4, a5, a6⟩ := ln_kind hp hN hs hr hy hx hk hE hb hki hl c2
      have k2 : ¬ vX9_says s 1802071652 = 0 := by rw [y2, bI_0]; exact fun hh => hh c2
      rw [if_neg k2, if_neg k2]
      exact ⟨s', t1, v1, a1, ⟨fun _ => ⟨fun hc => absurd hc k2, fun _ => ⟨a2, LnR_v a6⟩⟩, fun hc => absurd k1 hc⟩, a3, a4, a5, a6⟩
    · have k2 : vX9_says s 1802071652 = 0 := by rw [y2, bI_0]; exact c2
      have z2 : vX12_isWord t 1802071652 = 0 := by rw [x2, bI_0]; exact c2
      rw [if_pos k2, if_pos k2]
      by_cases c3 : k.1 = 1 ∧ k.2.2.2.1 = 1818848869
      · obtain ⟨s', t1, v1, a1, a2, a3, a4, a5, a6⟩ := ln_line hp hN hs hy hx hk hE hb hki hl c3
        have k3 : ¬ vX9_says s 1818848869 = 0 := by rw [y3, bI_0]; exact fun hh => hh c3
        rw [if_neg k3, if_neg k3]
        exact ⟨s', t1, v1, a1, ⟨fun _ => ⟨fun _ => ⟨fun hc => absurd hc k3, fun _ => ⟨a2, LnR_v a6⟩⟩, fun hc => absurd k2 hc⟩, fun hc => absurd k1 hc⟩, a3, a4, a5, a6⟩
      · have k3 : vX9_says s 1818848869 = 0 := by rw [y3, bI_0]; exact c3
        have z3 : vX12_isWord t 1818848869 = 0 := by rw [x3, bI_0]; exact c3
        rw [if_pos k3, if_pos k3]
        by_cases c4 : k.1 = 1 ∧ k.2.2.2.1 = 6582132
        · obtain ⟨s', t1, v1, a1, a2, a3, a4, a5, a6⟩ := ln_dot hp hN hs hy hx hk hE hb hki hl c4
          have k4 : ¬ vX9_says s 6582132 = 0 := by rw [y4, bI_0]; exact fun hh => hh c4
          rw [if_neg k4, if_neg k4]
          exact ⟨s', t1, v1, a1, ⟨fun _ => ⟨fun _ => ⟨fun _ _ => ⟨a2, LnR_v a6⟩, fun hc => absurd k3 hc⟩, fun hc => absurd k2 hc⟩, fun hc => absurd k1 hc⟩, a3, a4, a5, a6⟩
        · have k4 : vX9_says s 6582132 = 0 := by rw [y4, bI_0]; exact c4
          have z4 : vX12_isWord t 6582132 = 0 := by rw [x4, bI_0]; exact c4
          rw [if_pos k4, if_pos k4]
          obtain ⟨-, r2, r3⟩ := y_ref hy 1
          obtain ⟨-, q2, q3⟩ := x_bad hx 1
          have EX : fX12_portLine t = (0, mX12_bad t 1) := by
            unfold fX12_portLine
            rw [if_pos z1, if_pos z2, if_pos z3, if_pos z4]; rfl
          refine ⟨_, mX12_bad t 1, 0, rfl, ⟨fun _ => ⟨fun _ => ⟨fun _ hc => absurd k4 hc, fun hc => absurd k3 hc⟩, fun hc => absurd k2 hc⟩, fun hc => absurd k1 hc⟩, by unfold mX12_portLine; rw [EX], by unfold vX12_portLine; rw [EX], ?_, ln_no r2 q2 (Fq_mo r3 (fun c i hc => Or.inl hc) (fun c i hc => Or.inl hc)) (Fq_mo q3 (fun c i hc => Or.inl hc) (fun c i hc => Or.inl hc))⟩
          unfold rX12_portLine
          exact ⟨fun _ => ⟨fun _ => ⟨fun hc => absurd z3 hc, fun _ hc => absurd z4 hc⟩, fun hc => absurd z2 hc⟩, fun hc => absurd z1 hc⟩
end
