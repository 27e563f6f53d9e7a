-- needs: 6ze.bke
section
variable {s t : SM} {N : Nat} {bt : Nat → Int} {k : Tok}
theorem x_act (hx : TkX t N k) (hk : 0 ≤ k.1 ∧ k.1 ≤ 4) (hy : TkY s k) : ∃ A : Int, (-1 ≤ A ∧ A ≤ 5) ∧ vX0_actTold s = zI A ∧ fX12_bookLine t = (if A = -1 then (0, mX12_bad t 1) else if gI t 248 36 = 40 then (0, mX12_bad t 4) else (lX12_bookLine FU).1 t (zI A) (1 + (5 * gI t 248 36)) 0) ∧ ((¬ A = -1 → ¬ gI t 248 36 = 40 → (qX12_bookLine FU).1 t (zI A) (1 + (5 * gI t 248 36)) 0) → rX12_bookLine t) ∧ (¬ k.1 = 1 → A = -1) := by
  have y0 := y_says hy hk 1684365676
  have x0 := x_says hx hk 1684365676
  have y1 := y_says hy hk 126943972911973
  have x1 := x_says hx hk 126943972911973
  have y2 := y_says hy hk 1935892850
  have x2 := x_says hx hk 1935892850
  have y3 := y_says hy hk 1919512167
  have x3 := x_says hx hk 1919512167
  have y4 := y_says hy hk 1684628851
  have x4 := x_says hx hk 1684628851
  have y5 := y_says hy hk 2036687218
  have x5 := x_says hx hk 2036687218
  by_cases c0 : k.1 = 1 ∧ k.2.2.2.1 = 1684365676
  · have a0 : ¬ vX9_says s 1684365676 = 0 := by rw [y0, bI_0]; exact fun hh => hh c0
    have b0 : ¬ vX12_isWord t 1684365676 = 0 := by rw [x0, bI_0]; exact fun hh => hh c0
    refine ⟨0, by omega, by unfold vX0_actTold; rw [if_neg a0]; rfl, by unfold fX12_bookLine; rw [if_neg b0, if_pos (by decide : (0 : Int32) ≤ 0), if_neg (by decide : ¬ (0 : Int) = -1)]; rfl, fun hh => ?_, fun hc => absurd c0.1 hc⟩
    unfold rX12_bookLine
    exact ⟨fun hc => absurd hc b0, fun _ _ h4 => hh (by decide) h4⟩
  · have a0 : vX9_says s 1684365676 = 0 := by rw [y0, bI_0]; exact c0
    have b0 : vX12_isWord t 1684365676 = 0 := by rw [x0, bI_0]; exact c0
    by_cases c1 : k.1 = 1 ∧ k.2.2.2.1 = 126943972911973
    · have a1 : ¬ vX9_says s 126943972911973 = 0 := by rw [y1, bI_0]; exact fun hh => hh c1
      have b1 : ¬ vX12_isWord t 126943972911973 = 0 := by rw [x1, bI_0]; exact fun hh => hh c1
      refine ⟨1, by omega, by unfold vX0_actTold; rw [if_pos a0, if_neg a1]; rfl, by unfold fX12_bookLine; rw [if_pos b0, if_neg b1, if_pos (by decide : (0 : Int32) ≤ 1), if_neg (by decide : ¬ (1 : Int) = -1)]; rfl, fun hh => ?_, fun hc => absurd c1.1 hc⟩
      unfold rX12_bookLine
      exact ⟨fun _ => ⟨fun hc => absurd hc b1, fun _ _ h4 => hh (by decide) h4⟩, fun hc => absurd b0 hc⟩
    · have a1 : vX9_says s 126943972911973 = 0 := by rw [y1, bI_0]; exact c1
      have b1 : vX12_isWord t 126943972911973 = 0 := by rw [x1, bI_0]; exact c1
      by_cases c2 : k.1 = 1 ∧ k.2.2.2.1 = 1935892850
      · have a2 : ¬ vX9_says s 1935892850 = 0 := by rw [y2, bI_0]; exact fun hh => hh c2
        have b2 : ¬ vX12_isWord t 1935892850 = 0 := by rw [x2, bI_0]; exact fun hh => hh c2
        refine ⟨2, by omega, by unfold vX0_actTold; rw [if_pos a0, if_pos a1, if_neg a2]; rfl, by unfold fX12_bookLine; rw [if_pos b0, if_pos b1, if_neg b2, if_pos (by decide : (0 : Int32) ≤ 2), if_neg (by decide : ¬ (2 : Int) = -1)]; rfl, fun hh => ?_, fun hc => absurd c2.1 hc⟩
        unfold rX12_bookLine
        exact ⟨fun _ => ⟨fun _ => ⟨fun hc => absurd hc b2, fun _ _ h4 => hh (by decide) h4⟩, fun hc => absurd b1 hc⟩, fun hc => absurd b0 hc⟩
      · have a2 : vX9_says s 1935892850 = 0 := by rw [y2, bI_0]; exact c2
        have b2 : vX12_isWord t 1935892850 = 0 := by rw [x2, bI_0]; exact c2
        by_cases c3 : k.1 = 1 ∧ k.2.2.2.1 = 1919512167
        · have a3 : ¬ vX9_says s 1919512167 = 0 := by rw [y3, bI_0]; exact fun hh => hh c3
          have b3 : ¬ vX12_isWord t 1919512167 = 0 := by rw [x3, bI_0]; exact fun hh => hh c3
          refine ⟨3, by omega, by unfold vX0_actTold; rw [if_pos a0, if_pos a1, if_pos a2, if_neg a3]; rfl, by unfold fX12_bookLine; rw [if_pos b0, if_pos b1, if_pos b2, if_neg b3, if_pos (by decide : (0 : Int32) ≤ 3), if_neg (by decide : ¬ (3 : Int) = -1)]; rfl, fun hh => ?_, fun hc => absurd c3.1 hc⟩
          unfold rX12_bookLine
          exact ⟨fun _ => ⟨fun _ => ⟨fun _ => ⟨fun hc => absurd hc b3, fun _ _ h4 => hh (by decide) h4⟩, fun hc => absurd b2 hc⟩, fun hc => absurd b1 hc⟩, fun hc => absurd b0 hc⟩
        · have a3 : vX9_says s 1919512167 = 0 := by rw [y3, bI_0]; exact c3
          have b3 : vX12_isWord t 1919512167 = 0 := by rw [x3, bI_0]; exact c3
          by_cases c4 : k.1 = 1 ∧ k.2.2.2.1 = 1684628851
          · have a4 : ¬ vX9_says s 1684628851 = 0 := by rw [y4, bI_0]; exact fun hh => hh c4
            have b4 : ¬ vX12_isWord t 1684628851 = 0 := by rw [x4, bI_0]; exact fun hh => hh c4
            refine ⟨4, by omega, by unfold vX0_actTold; rw [if_pos a0, if_pos a1, if_pos a2, if_pos a3, if_neg a4]; rfl, by unfold fX12_bookLine; rw [if_pos b0, if_pos b1, if_pos b2, if_pos b3, if_neg b4, if_pos (by decide : (0 : Int32) ≤ 4), if_neg (by decide : ¬ (4 : Int) = -1)]; rfl, fun hh => ?_, fun hc => absurd c4.1 hc⟩
            unfold rX12_bookLine
            exact ⟨fun _ => ⟨fun _ => ⟨fun _ => ⟨fun _ => ⟨fun hc => absurd hc b4, fun _ _ h4 => hh (by decide) h4⟩, fun hc => absurd b3 hc⟩, fun hc => absurd b2 hc⟩, fun hc => absurd b1 hc⟩, fun hc => absurd b0 hc⟩
          · have a4 : vX9_says s 1684628851 = 0 := by rw [y4, bI_0]; exact c4
            have b4 : vX12_isWord t 1684628851 = 0 := by rw [x4, bI_0]; exact c4
            by_cases c5 : k.1 = 1 ∧ k.2.2.2.1 = 2036687218
            · have a5 : ¬ vX9_says s 2036687218 = 0 := by rw [y5, bI_0]; exact fun hh => hh c5
              have b5 : ¬ vX12_isWord t 2036687218 = 0 := by rw [x5, bI_0]; exact fun hh => hh c5
              refine ⟨5, by omega, by unfold vX0_actTold; rw [if_pos a0, if_pos a1, if_pos a2, if_pos a3, if_pos a4, if_neg a5]; rfl, by unfold fX12_bookLine; rw [if_pos b0, if_pos b1, if_pos b2, if_pos b3, if_pos b4, if_neg b5, if_pos (by decide : (0 : Int32) ≤ 5), if_neg (by decide : ¬ (5 : Int) = -1)]; rfl, fun hh => ?_, fun hc => absurd c5.1 hc⟩
              unfold rX12_bookLine
              exact ⟨fun _ => ⟨fun _ => ⟨fun _ => ⟨fun _ => ⟨fun _ => (by rw [if_neg b5]; exact fun _ h4 => hh (by decide) h4), fun hc => absurd b4 hc⟩, fun hc => absurd b3 hc⟩, fun hc => absurd b2 hc⟩, fun hc => absurd b1 hc⟩, fun hc => absurd b0 hc⟩
            · have a5 : vX9_says s 2036687218 = 0 := by rw [y5, bI_0]; exact c5
              have b5 : vX12_isWord t 2036687218 = 0 := by rw [x5, bI_0]; exact c5
              refine ⟨-1, by omega, by unfold vX0_actTold; rw [if_pos a0, if_pos a1, if_pos a2, if_pos a3, if_pos a4, if_pos a5]; rfl, by unfold fX12_bookLine; rw [if_pos b0, if_pos b1, if_pos b2, if_pos b3, if_pos b4, if_pos b5, if_neg (by decide : ¬ (0 : Int32) ≤ -1), if_pos rfl]; rfl, fun hh => ?_, fun _ => rfl⟩
              unfold rX12_bookLine
              exact ⟨fun _ => ⟨fun _ => ⟨fun _ => ⟨fun _ => ⟨fun _ => (by rw [if_pos b5]; exact fun hc => absurd hc (by decide)), fun hc => absurd b4 hc⟩, fun hc => absurd b3 hc⟩, fun hc => absurd b2 hc⟩, fun hc => absurd b1 hc⟩, fun hc => absurd b0 hc⟩
/-- the reference makes room for a line -/
theorem x_zero {n : Nat} (hn : n < 40) (t : SM) (a : Int32) : ∃ t5, ST 5 (fun m => (lX12_bookLine m).1 t a (zI ((5 * n + 1 : Nat) : Int)) 0) (fun m => (qX12_bookLine m).1 t a (zI ((5 * n + 1 : Nat) : Int)) 0) (fun m => (lX12_bookLine m).1 t5 a (zI ((5 * n + 1 : Nat) : Int)) 5) (fun m => (qX12_bookLine m).1 t5 a (zI ((5 * n + 1 : Nat) : Int)) 5) ∧ (∀ j, 5 * n + 1 ≤ j → j ≤ 5 * n + 5 → gI t5 252 j = 0) ∧ Fq (fun c i => c = 252 ∧ 5 * n + 1 ≤ i ∧ i ≤ 5 * n + 5) (fun _ _ => False) t t5 := by
  obtain ⟨t5, ⟨i1, i2⟩, st⟩ := ST_up (B := 1) 5 (fun (d : Nat) (u : SM) => (∀ j, 5 * n + 1 ≤ j → j < 5 * n + 1 + d → gI u 252 j = 0) ∧ Fq (fun c i => c = 252 ∧ 5 * n + 1 ≤ i ∧ i ≤ 5 * n + 5) (fun _ _ => False) t u) (fun d u m => (lX12_bookLine m).1 u a (zI ((5 * n + 1 : Nat) : Int)) (zI (d : Int))) (fun d u m => (qX12_bookLine m).1 u a (zI ((5 * n + 1 : Nat) : Int)) (zI (d : Int))) (fun d u hd ⟨a1, a2⟩ => by
    have n1 : ¬ 5 ≤ zI (d : Int) := by rw [show (5 : Int32) = zI 5 from rfl, z_le (by omega) (by omega)]; omega
    have ej : zI ((5 * n + 1 : Nat) : Int) + zI (d : Int) = zI ((5 * n + 1 + d : Nat) : Int) := by rw [z_add]; congr 1
    have cj : (zI ((5 * n + 1 + d : Nat) : Int)).toNatClampNeg = 5 * n + 1 + d := by rw [z_cl (by omega)]; exact Int.toNat_natCast _
    have e1 : zI (d : Int) + 1 = zI ((d + 1 : Nat) : Int) := by rw [zl1, z_add]; congr 1
    have vi : vp_in (zI ((5 * n + 1 + d : Nat) : Int)) 201 := by rw [z_in (by omega)]; omega
    refine ⟨pI u 252 (5 * n + 1 + d) 0, ⟨fun j h1 h2 => ?_, Fq_tr a2 (Fq_p _ (by omega))⟩, ST_1 fun m => ?_⟩
    · rw [gI_pI]
      by_cases hq : j = 5 * n + 1 + d
      · rw [if_pos ⟨rfl, hq⟩]
      · rw [if_neg (by omega)]; exact a1 j h1 (by omega)
    · show tX12_bookLine_122 (lX12_bookLine m) u a (zI ((5 * n + 1 : Nat) : Int)) (zI (d : Int)) = _ ∧ (_ → uX12_bookLine_122 (qX12_bookLine m) u a (zI ((5 * n + 1 : Nat) : Int)) (zI (d : Int)))
      unfold tX12_bookLine_122 uX12_bookLine_122
      rw [if_neg n1, ej, cj, e1]
      exact ⟨rfl, fun hh => ⟨fun hc => absurd hc n1, fun _ => ⟨vi, hh⟩⟩⟩) 5 0 t (by omega) ⟨fun j h1 h2 => absurd h2 (by omega), Fq_rf _ _ _⟩
  exact ⟨t5, st, fun j h1 h2 => i1 j h1 (by omega), i2⟩
abbrev YbI (c i : Nat) : Prop := YtI c i ∨ (c = 25 ∧ i = 0) ∨ (26 ≤ c ∧ c ≤ 30)
abbrev XbI (c i : Nat) : Prop := XtI c i ∨ (c = 252 ∧ i ≤ 200) ∨ (c = 248 ∧ i = 36)
/-- a line's rest, whichever it is -/
theorem ln_rest (hN : N ≤ 640) {n nb nk : Nat} (hn : n < 40) (hp : TpY s N bt) (hs : TkS t N bt) (hre : ReT t) (hy : TkY s k) (hx : TkX t N k) (hk : 0 ≤ k.1 ∧ k.1 ≤ 4) (hE : k.2.2.1 ≤ N) (hc : CtR s t nb nk) (e25 : gI s 25 0 = zI (n : Int)) {A : Int} (hA : 0 ≤ A ∧ A ≤ 5) : ∃ T t1 v1, Fq (fun c i => TxI c i ∨ (c = 252 ∧ 5 * n + 1 ≤ i ∧ i ≤ 5 * n + 5)) TxL t T ∧ gI T 252 (5 * n + 1) = zI A ∧ ((lX12_bookLine FU).1 t (zI A) (zI ((5 * n + 1 : Nat) : Int)) 0 = (v1, t1) ∧ (qX12_bookLine FU).1 t (zI A) (zI ((5 * n + 1 : Nat) : Int)) 0) ∧ rX0_readRest (pI s 26 n (zI A)) 25 5 (zI A) ∧ RsT N bt nb nk n A k.2.2.1 (pI s 26 n (zI A)) (mX0_readRest (pI s 26 n (zI A)) 25 5 (zI A)) (vX0_readRest (pI s 26 n (zI A)) 25 5 (zI A)) T t1 v1 := by
  obtain ⟨t5, z1, z2, z3⟩ := x_zero hn t (zI A)
  obtain ⟨u, hu⟩ : ∃ u, u = pI t5 252 (5 * n + 1) (zI A) := ⟨_, rfl⟩
  have fu : Fq (fun c i => c = 252 ∧ 5 * n + 1 ≤ i ∧ i ≤ 5 * n + 5) (fun _ _ => False) t u := by rw [hu]; exact Fq_tr z3 (Fq_p _ (by omega))
  have hsu : TkS u N bt := TkS_fq hs fu (fun c i hc => by omega)
  have hxu : TkX u N k := TkX_fq hx fu (fun c i hc => by omega) (fun _ _ _ h => h)
  obtain ⟨T, w1, w2, w3, w4⟩ := x_next hsu hN hE hxu.2.2.1
  have g1 : Fq (fun c i => c = 26 ∧ i = n) (fun _ _ => False) s (pI s 26 n (zI A)) := Fq_p _ ⟨rfl, rfl⟩
  have fT : Fq (fun c i => TxI c i ∨ (c = 252 ∧ 5 * n + 1 ≤ i ∧ i ≤ 5 * n + 5)) TxL t T := Fq_tr (Fq_mo fu (fun c i hc => Or.inr hc) (fun _ _ h => h.elim)) (Fq_mo w3 (fun c i hc => Or.inl hc) (fun _ _ h => h))
  have eT : gI T 252 (5 * n + 1) = zI A := by rw [w3.1 252 _ (by omega), hu, gI_pI, if_pos ⟨rfl, rfl⟩]
  have hz : ∀ j, 5 * n + 2 ≤ j → j ≤ 5 * n + 5 → gI T 252 j = 0 := fun j h1 h2 => by rw [w3.1 252 j (by omega), hu, gI_pI, if_neg (by omega)]; exact z2 j (by omega) h2
  have hB : BhX N bt nb nk k.2.2.1 (pI s 26 n (zI A)) T := ⟨TpY_fq hp g1 (fun c i hc => by omega), TkS_fq hsu w3 (fun c i hc => by omega), fun i hi => by rw [fT.2.1 254 i (by omega)]; exact hre i hi, by rw [g1.1 3 7 (by omega)]; exact hy.2.2.1, hE, w4, CtR_fq hc g1 fT (fun i hi => by omega) (fun _ _ _ h => h) (fun i hi => by omega) (fun i => by omega)⟩
  have e25' : gI (pI s 26 n (zI A)) 25 0 = zI (n : Int) := by rw [g1.1 25 0 (by omega)]; exact e25
  rw [hu] at w1 w2
  have fin : ∀ {B : Nat} {v1 : Int32} {t1 : SM}, B ≤ 3 → ST B (fun m => (lX12_bookLine m).1 t5 (zI A) (zI ((5 * n + 1 : Nat) : Int)) 5) (fun m => (qX12_bookLine m).1 t5 (zI A) (zI ((5 * n + 1 : Nat) : Int)) 5) (fun _ => (v1, t1)) (fun _ => True) → (lX12_bookLine FU).1 t (zI A) (zI ((5 * n + 1 : Nat) : Int)) 0 = (v1, t1) ∧ (qX12_bookLine FU).1 t (zI A) (zI ((5 * n + 1 : Nat) : Int)) 0 := fun hb st => ST_fu (ST_trans z1 st) (by omega)
  rcases (show A = 0 ∨ A = 1 ∨ A = 2 ∨ (A = 3 ∨ A = 5) ∨ A = 4 by omega) with h | h | h | h | h
  · subst h
    obtain ⟨t1, v1, q1, q2, q3⟩ := rs_deal hN hn hB e25' hz w1 w2
    exact ⟨T, t1, v1, fT, eT, fin (by omega) q1, q2, q3⟩
  · subst h
    obtain ⟨t1, v1, q1, q2, q3⟩ := rs_strike hN hn hB e25' hz w1 w2
    exact ⟨T, t1, v1, fT, eT, fin (by omega) q1, q2, q3⟩
  · subst h
    obtain ⟨t1, v1, q1, q2, q3⟩ := rs_scar hN hn hB e25' hz w1 w2
    exact ⟨T, t1, v1, fT, eT, fin (by omega) q1, q2, q3⟩
  · obtain ⟨t1, v1, q1, q2, q3⟩ := rs_none h hn hB hz w1 w2
    exact ⟨T, t1, v1, fT, eT, fin (by omega) q1, q2, q3⟩
  · subst h
    obtain ⟨t1, v1, q1, q2, q3⟩ := rs_dies hN hn hB e25' hz w1 w2
    exact ⟨T, t1, v1, fT, eT, fin (by omega) q1, q2, q3⟩
end
