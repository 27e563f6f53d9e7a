-- needs: 6q.lny
abbrev PzI (c i : Nat) : Prop := PyI c i ∨ (c = 12 ∧ i = 10)
abbrev PwI (c i : Nat) : Prop := PxI c i ∨ (c = 248 ∧ i = 19)
/-- the reading of a port's lines from here on -/
def RdP (B n : Nat) (s t : SM) : Prop := ∃ s' t', Fq PzI PyL s s' ∧ Fq PwI PxL t t' ∧ ((ST B (fun m => lX6_readFrom m s 12 (zI (n : Int))) (fun m => qX6_readFrom m s 12 (zI (n : Int))) (fun _ => ((1 : Int32), s')) (fun _ => True) ∧ ST B (fun m => (lX12_port m).2.1 t 34) (fun m => (qX12_port m).2.1 t 34) (fun m => (lX12_port m).2.2.1 t' 0) (fun m => (qX12_port m).2.2.1 t' 0) ∧ (∃ nb nk, BdR s' t' nb ∧ KiR s' t' nk ∧ LiR s' t') ∧ gI s' 12 10 = gI t' 248 19 ∧ gI s' 3 2 = gI s 3 2 ∧ gI t' 248 15 = gI t 248 15) ∨ (∃ f A, ST B (fun m => lX6_readFrom m s 12 (zI (n : Int))) (fun m => qX6_readFrom m s 12 (zI (n : Int))) (fun _ => ((0 : Int32), s')) (fun _ => True) ∧ ST B (fun m => (lX12_port m).2.1 t 34) (fun m => (qX12_port m).2.1 t 34) (fun _ => (-1 - gI t' 248 16, t')) (fun _ => True) ∧ FtY s' f A ∧ FtX t' f A))
section
variable {N : Nat} {bt : Nat → Int}
theorem rd_one (hN : N ≤ 640) {B n : Nat} {s t : SM} {p nb nk : Nat} (hn : n ≤ 600) (hnp : n ≤ p) (hpN : p ≤ N) (hp : TpY s N bt) (hs : TkS t N bt) (hr : ∀ i, i < 17 → gL t 254 i = WV i) (h7 : gI s 3 7 = zI (p : Int)) (hx : TkX t N (tokF N bt p)) (hb : BdR s t nb) (hki : KiR s t nk) (hl : LiR s t) (hli : gI s 12 10 = gI t 248 19) (hrec : n + 1 ≤ 600 → ∀ s2 t2 p2 nb2 nk2, n + 1 ≤ p2 → p2 ≤ N → TpY s2 N bt → TkS t2 N bt → (∀ i, i < 17 → gL t2 254 i = WV i) → gI s2 3 7 = zI (p2 : Int) → TkX t2 N (tokF N bt p2) → BdR s2 t2 nb2 → KiR s2 t2 nk2 → LiR s2 t2 → gI s2 12 10 = gI t2 248 19 → RdP B (n + 1) s2 t2) : RdP (B + 1) n s t := by
  obtain ⟨s1, p1, p2, p3, p4⟩ := y_next hp hN hpN h7
  have hk := tok_S (N := N) bt p
  obtain ⟨hEa, hE⟩ := tok_E bt hpN
  have hpos := tok_pos bt hpN
  have hA : (tokF N bt p).1 = 0 → (tokF N bt p).2.1 = min N 600 := fun hc => by
    unfold tokF at hc ⊢
    by_cases c : skp N bt N p < N ∧ skp N bt N p < 600
    · rw [if_pos c] at hc
      by_cases c2 : ltr (bt (skp N bt N p)) ∨ dgt (bt (skp N bt N p))
      · rw [if_pos c2] at hc
        have hc : srt _ _ = 0 := hc
        unfold srt at hc
        split at hc
        · omega
        · split at hc <;> omega
      · rw [if_neg c2] at hc
        have hc : (if bt (skp N bt N p) = 59 then (3 : Int) else 4) = 0 := hc
        split at hc <;> omega
    · rw [if_neg c]
  obtain ⟨k, hkd⟩ : ∃ k, k = tokF N bt p := ⟨_, rfl⟩
  rw [← hkd] at p4 hx hk hEa hE hpos hA
  have n6 : ¬ 600 < zI (n : Int) := by rw [show (600 : Int32) = zI 600 from rfl, z_lt (by omega) (by omega)]; omega
  have fs1 : Fq PzI PyL s s1 := Fq_mo p3 (fun c i hc => by omega) (fun c i hc => Or.inl hc)
  have kz : zI k.1 = 0 ↔ k.1 = 0 := by rw [zl0, z_eq (by omega) (by omega)]
  by_cases c0 : k.1 = 0
  · have eE : ¬ vX9_isEnd s1 = 0 := by unfold vX9_isEnd; rw [p4.1, if_pos (kz.mpr c0)]; decide
    by_cases c6 : N ≤ 600
    · have l6 : gI s1 3 1 ≤ 600 := by rw [p3.1 3 1 (by omega), hp.1, show (600 : Int32) = zI 600 from rfl, z_le (by omega) (by omega)]; omega
      have e0 := (TkX_s hx hk).2.2.2.mpr ⟨c0, c6⟩
      refine ⟨s1, t, fs1, Fq_rf _ _ _, Or.inl ⟨ST_mono (ST_1 fun m => ?_) (by omega), ST_mono (ST_1 fun m => ?_) (by omega), ⟨nb, nk, BdR_fq hb p3 (Fq_rf (fun _ _ => False) (fun _ _ => False) t) (fun c i hc => by omega) (fun i hi => by omega) (fun _ _ h => h) (fun _ _ _ h => h), KiR_fq hki p3 (Fq_rf (fun _ _ => False) (fun _ _ => False) t) (fun c i hc => by omega) (fun i hi => by omega) (fun _ _ h => h) (fun _ _ _ h => h), LiR_fq hl p3 (Fq_rf (fun _ _ => False) (fun _ _ => False) t) (fun i hc => by omega) (fun _ _ _ h => h)⟩, by rw [p3.1 12 10 (by omega)]; exact hli, p3.1 3 2 (by omega), rfl⟩⟩
      · show tX6_readFrom_10 (lX6_readFrom m) s 12 (zI (n : Int)) = _ ∧ (_ → uX6_readFrom_10 (qX6_readFrom m) s 12 (zI (n : Int)))
        unfold tX6_readFrom_10 uX6_readFrom_10
        rw [if_neg n6, p1, if_neg eE]
        unfold vX9_isAllRead mX9_isAllRead
        rw [if_pos l6, if_pos l6]
        exact ⟨rfl, fun _ _ => ⟨p2, fun hc => absurd hc eE⟩⟩
      · show tX12_port_64 (lX12_port m) t 34 = _ ∧ (_ → uX12_port_64 (qX12_port m) t 34)
        unfold tX12_port_64 uX12_port_64
        rw [if_pos e0]
        exact ⟨rfl, fun hh => ⟨fun _ => hh, fun hc => absurd e0 hc⟩⟩
    · have l6 : ¬ gI s1 3 1 ≤ 600 := by rw [p3.1 3 1 (by omega), hp.1, show (600 : Int32) = zI 600 from rfl, z_le (by omega) (by omega)]; omega
      have e0 : ¬ gI t 248 11 = 0 := fun hc => c6 ((TkX_s hx hk).2.2.2.mp hc).2
      obtain ⟨-, r2, r3⟩ := y_ref p4 1
      obtain ⟨-, q2, q3⟩ := x_bad hx 1
      have z : ∀ w, vX12_isWord t w = 0 := fun w => by rw [x_says hx hk w, bI_0]; exact fun hh => by omega
      have EX : fX12_portLine t = (0, mX12_bad t 1) := by
        unfold fX12_portLine
        rw [if_pos (z _), if_pos (z _), if_pos (z _), if_pos (z _)]; rfl
      have RX : rX12_portLine t := by
        unfold rX12_portLine
        exact ⟨fun _ => ⟨fun _ => ⟨fun hc => absurd (z _) hc, fun _ hc => absurd (z _) hc⟩, fun hc => absurd (z _) hc⟩, fun hc => absurd (z _) hc⟩
      have m1 : mX12_portLine t = mX12_bad t 1 := by unfold mX12_portLine; rw [EX]
      have v1 : vX12_portLine t = 0 := by unfold vX12_portLine; rw [EX]
      refine ⟨mX9_refuse s1 1, mX12_bad t 1, Fq_tr fs1 (Fq_mo r3 (fun c i hc => Or.inl (Or.inl hc)) (fun c i hc => Or.inl hc)), Fq_mo q3 (fun c i hc => Or.inl (Or.inl hc)) (fun c i hc => Or.inl hc), Or.inr ⟨_, _, ST_mono (ST_1 fun m => ?_) (by omega), ST_mono (ST_1 fun m => ?_) (by omega), r2, q2⟩⟩
      · show tX6_readFrom_10 (lX6_readFrom m) s 12 (zI (n : Int)) = _ ∧ (_ → uX6_readFrom_10 (qX6_readFrom m) s 12 (zI (n : Int)))
        unfold tX6_readFrom_10 uX6_readFrom_10
        rw [if_neg n6, p1, if_neg eE]
        unfold vX9_isAllRead mX9_isAllRead
        rw [if_neg l6, if_neg l6]
        exact ⟨rfl, fun _ _ => ⟨p2, fun hc => absurd hc eE⟩⟩
      · show tX12_port_64 (lX12_port m) t 34 = _ ∧ (_ → uX12_port_64 (qX12_port m) t 34)
        unfold tX12_port_64 uX12_port_64
        rw [if_neg e0, v1, if_pos rfl, m1]
        exact ⟨rfl, fun _ => ⟨fun hc => absurd hc e0, fun _ => ⟨RX, fun hc => absurd rfl hc⟩⟩⟩
  · obtain ⟨hp1, hp2⟩ := hpos c0
    have eE : vX9_isEnd s1 = 0 := by unfold vX9_isEnd; rw [p4.1, if_neg (fun hc => c0 (kz.mp hc))]
    have e0 : ¬ gI t 248 11 = 0 := fun hc => c0 ((TkX_s hx hk).2.2.2.mp hc).1
    have idt : Fq (fun _ _ => False) (fun _ _ => False) t t := Fq_rf _ _ _
    obtain ⟨s2, t1, v1, a1, a2, a3, a4, a5, a6, a7, a8, a9⟩ := ln_any (TpY_fq hp p3 (fun c i hc => by omega)) hN hs hr p4 hx hk hE (BdR_fq hb p3 idt (fun c i hc => by omega) (fun i hi => by omega) (fun _ _ h => h) (fun _ _ _ h => h)) (KiR_fq hki p3 idt (fun c i hc => by omega) (fun i hi => by omega) (fun _ _ h => h) (fun _ _ _ h => h)) (LiR_fq hl p3 idt (fun i hc => by omega) (fun _ _ _ h => h))
    have fs2 : Fq PzI PyL s s2 := Fq_tr fs1 (Fq_mo a7 (fun c i hc => Or.inl hc) (fun c i hc => hc))
    have k10 : ¬ (1 : Int32) = 0 := by decide
    rcases a6 with ⟨b1, b2, b3, nb2, nk2, q, b4, b5, b6, b7, b8, b9, b10, b11, b12⟩ | ⟨b1, f, A, b2, b3⟩
    · obtain ⟨c1, c2⟩ := a9 b2
      obtain ⟨T, hT⟩ : ∃ T, T = mX12_sign t1 59 := ⟨_, rfl⟩
      rw [← hT] at b4 b5 b6 b10 b12 c2
      obtain ⟨s3, hs3⟩ : ∃ s3, s3 = pI s2 12 10 (gI s2 12 10 + 1) := ⟨_, rfl⟩
      obtain ⟨t3, ht3⟩ : ∃ t3, t3 = pI T 248 19 (gI T 248 19 + 1) := ⟨_, rfl⟩
      have g3 : Fq (fun c i => c = 12 ∧ i = 10) (fun _ _ => False) s2 s3 := by rw [hs3]; exact Fq_p _ ⟨rfl, rfl⟩
      have g4 : Fq (fun c i => c = 248 ∧ i = 19) (fun _ _ => False) T t3 := by rw [ht3]; exact Fq_p _ ⟨rfl, rfl⟩
      have hp3 : TpY s3 N bt := TpY_fq (TpY_fq (TpY_fq hp p3 (fun c i hc => by omega)) a7 (fun c i hc => by omega)) g3 (fun c i hc => by omega)
      have hs3' : TkS t3 N bt := TkS_fq (TkS_fq hs c2 (fun c i hc => by omega)) g4 (fun c i hc => by omega)
      have en : zI (n : Int) + 1 = zI ((n + 1 : Nat) : Int) := by rw [zl1, z_add]; congr 1
      obtain ⟨s', t', r1, r2, r3⟩ := hrec (by omega) s3 t3 q nb2 nk2 (by omega) b8 hp3 hs3' (fun i hi => by rw [g4.2.1 254 i (fun h => h), c2.2.1 254 i (by omega)]; exact hr i hi) (by rw [g3.1 3 7 (by omega)]; exact b9) (TkX_fq b10 g4 (fun c i hc => by omega) (fun _ _ _ h => h)) (BdR_fq b4 g3 g4 (fun c i hc => by omega) (fun _ _ h => h) (fun i hi => by omega) (fun _ _ _ h => h)) (KiR_fq b5 g3 g4 (fun c i hc => by omega) (fun _ _ h => h) (fun i hi => by omega) (fun _ _ _ h => h)) (LiR_fq b6 g3 g4 (fun i hc => by omega) (fun c i hc => by omega)) (by rw [hs3, ht3, gI_pI, if_pos ⟨rfl, rfl⟩, gI_pI, if_pos ⟨rfl, rfl⟩, a7.1 12 10 (by omega), p3.1 12 10 (by omega), c2.1 248 19 (by omega), hli])
      have st1 : ST 1 (fun m => lX6_readFrom m s 12 (zI (n : Int))) (fun m => qX6_readFrom m s 12 (zI (n : Int))) (fun m => lX6_readFrom m s3 12 (zI ((n + 1 : Nat) : Int))) (fun m => qX6_readFrom m s3 12 (zI ((n + 1 : Nat) : Int))) := by
        refine ST_1 fun m => ?_
        show tX6_readFrom_10 (lX6_readFrom m) s 12 (zI (n : Int)) = _ ∧ (_ → uX6_readFrom_10 (qX6_readFrom m) s 12 (zI (n : Int)))
        unfold tX6_readFrom_10 uX6_readFrom_10
        rw [if_neg n6, p1, if_pos eE, b1, if_neg k10, a1, ← hs3, en]
        exact ⟨rfl, fun hh _ => ⟨p2, fun _ => ⟨a2, fun _ => hh⟩⟩⟩
      have st2 : ST 1 (fun m => (lX12_port m).2.1 t 34) (fun m => (qX12_port m).2.1 t 34) (fun m => (lX12_port m).2.1 t3 34) (fun m => (qX12_port m).2.1 t3 34) := by
        refine ST_1 fun m => ?_
        show tX12_port_64 (lX12_port m) t 34 = _ ∧ (_ → uX12_port_64 (qX12_port m) t 34)
        unfold tX12_port_64 uX12_port_64
        rw [if_neg e0, a4, a3, b2, if_neg k10, b3, if_neg k10, ← hT, ← ht3]
        exact ⟨rfl, fun hh => ⟨fun hc => absurd hc e0, fun _ => ⟨a5, fun _ => ⟨c1, fun _ s1' h1 => by rw [h1]; exact hh⟩⟩⟩⟩
      refine ⟨s', t', Fq_tr fs2 (Fq_tr (Fq_mo g3 (fun c i hc => Or.inr hc) (fun _ _ h => h.elim)) r1), Fq_tr (Fq_mo c2 (fun c i hc => Or.inl hc) (fun c i hc => hc)) (Fq_tr (Fq_mo g4 (fun c i hc => Or.inr hc) (fun _ _ h => h.elim)) r2), ?_⟩
      rcases r3 with ⟨d1, d2, d3, d4, d5, d6⟩ | ⟨f, A, d1, d2, d3, d4⟩
      · exact Or.inl ⟨ST_mono (ST_trans st1 d1) (by omega), ST_mono (ST_trans st2 d2) (by omega), d3, d4, by rw [d5, g3.1 3 2 (by omega), b11, p3.1 3 2 (by omega)], by rw [d6, g4.1 248 15 (by omega), b12]⟩
      · exact Or.inr ⟨f, A, ST_mono (ST_trans st1 d1) (by omega), ST_mono (ST_trans st2 d2) (by omega), d3, d4⟩
    · have st1 : ST 1 (fun m => lX6_readFrom m s 12 (zI (n : Int))) (fun m => qX6_readFrom m s 12 (zI (n : Int))) (fun _ => ((0 : Int32), s2)) (fun _ => True) := by
        refine ST_1 fun m => ?_
        show tX6_readFrom_10 (lX6_readFrom m) s 12 (zI (n : Int)) = _ ∧ (_ → uX6_readFrom_10 (qX6_readFrom m) s 12 (zI (n : Int)))
        unfold tX6_readFrom_10 uX6_readFrom_10
        rw [if_neg n6, p1, if_pos eE, b1, if_pos rfl, a1]
        exact ⟨rfl, fun _ _ => ⟨p2, fun _ => ⟨a2, fun hc => absurd rfl hc⟩⟩⟩
      rcases b3 with ⟨d1, d2⟩ | ⟨d1, d2, d3⟩
      · refine ⟨s2, t1, fs2, Fq_mo a8 (fun c i hc => Or.inl hc) (fun c i hc => hc), Or.inr ⟨f, A, ST_mono st1 (by omega), ST_mono (ST_1 fun m => ?_) (by omega), b2, d2⟩⟩
        show tX12_port_64 (lX12_port m) t 34 = _ ∧ (_ → uX12_port_64 (qX12_port m) t 34)
        unfold tX12_port_64 uX12_port_64
        rw [if_neg e0, a4, a3, d1, if_pos rfl]
        exact ⟨rfl, fun _ => ⟨fun hc => absurd hc e0, fun _ => ⟨a5, fun hc => absurd rfl hc⟩⟩⟩
      · obtain ⟨c1, c2⟩ := a9 d1
        refine ⟨s2, mX12_sign t1 59, fs2, Fq_mo c2 (fun c i hc => Or.inl hc) (fun c i hc => hc), Or.inr ⟨f, A, ST_mono st1 (by omega), ST_mono (ST_1 fun m => ?_) (by omega), b2, d3⟩⟩
        show tX12_port_64 (lX12_port m) t 34 = _ ∧ (_ → uX12_port_64 (qX12_port m) t 34)
        unfold tX12_port_64 uX12_port_64
        rw [if_neg e0, a4, a3, d1, if_neg k10, d2, if_pos rfl]
        exact ⟨rfl, fun _ => ⟨fun hc => absurd hc e0, fun _ => ⟨a5, fun _ => ⟨c1, fun hc => absurd rfl hc⟩⟩⟩⟩
theorem rd_loop (hN : N ≤ 640) : ∀ (r n : Nat) (s t : SM) (p nb nk : Nat), n + r = 600 → n ≤ p → p ≤ N → TpY s N bt → TkS t N bt → (∀ i, i < 17 → gL t 254 i = WV i) → gI s 3 7 = zI (p : Int) → TkX t N (tokF N bt p) → BdR s t nb → KiR s t nk → LiR s t → gI s 12 10 = gI t 248 19 → RdP (r + 1) n s t := by
  intro r
  induction r with
  | zero =>
    intro n s t p nb nk hn hnp hpN hp hs hr h7 hx hb hki hl hli
    exact rd_one hN (by omega) hnp hpN hp hs hr h7 hx hb hki hl hli (fun hc => absurd hc (by omega))
  | succ r ih =>
    intro n s t p nb nk hn hnp hpN hp hs hr h7 hx hb hki hl hli
    exact rd_one hN (by omega) hnp hpN hp hs hr h7 hx hb hki hl hli (fun hc s2 t2 p2 nb2 nk2 q1 q2 q3 q4 q5 q6 q7 q8 q9 q10 q11 => ih (n + 1) s2 t2 p2 nb2 nk2 (by omega) q1 q2 q3 q4 q5 q6 q7 q8 q9 q10 q11)
end
