-- needs: 6zf.bkf
theorem LnN_fr {s s' : SM} {i : Nat} {A B C D E : Int} (h : LnN s i A B C D E) (hf : ∀ c, 27 ≤ c → c ≤ 30 → gI s' c i = gI s c i) : LnN s' i A B C D E := by
  unfold LnN at h ⊢
  rw [hf 27 (by omega) (by omega), hf 28 (by omega) (by omega), hf 29 (by omega) (by omega), hf 30 (by omega) (by omega)]
  exact h
theorem LnR4_fr {t t' : SM} {i : Nat} {B C D E : Int} (h : LnR4 t i B C D E) (hf : ∀ j, 5 * i + 2 ≤ j → j ≤ 5 * i + 5 → gI t' 252 j = gI t 252 j) : LnR4 t' i B C D E := by
  unfold LnR4 at h ⊢
  rw [hf _ (by omega) (by omega), hf _ (by omega) (by omega), hf _ (by omega) (by omega), hf _ (by omega) (by omega)]
  exact h
def DbR (s t : SM) (nb nk n : Nat) : Prop := n ≤ 40 ∧ gI s 25 0 = zI (n : Int) ∧ gI t 248 36 = zI (n : Int) ∧ ∀ i, i < n → ∃ A B C D E : Int, LnP nb nk A B C D E ∧ gI s 26 i = zI A ∧ LnN s i A B C D E ∧ gI t 252 (5 * i + 1) = zI A ∧ LnR4 t i B C D E
theorem DbR_fr {s t s' t' : SM} {nb nk n : Nat} (h : DbR s t nb nk n) (h25 : gI s' 25 0 = gI s 25 0) (h36 : gI t' 248 36 = gI t 248 36) (hf : ∀ c i, 26 ≤ c → c ≤ 30 → gI s' c i = gI s c i) (hf' : ∀ j, 1 ≤ j → gI t' 252 j = gI t 252 j) : DbR s' t' nb nk n := by
  obtain ⟨h1, h2, h3, h4⟩ := h
  refine ⟨h1, by rw [h25]; exact h2, by rw [h36]; exact h3, fun i hi => ?_⟩
  obtain ⟨A, B, C, D, E, a1, a2, a3, a4, a5⟩ := h4 i hi
  exact ⟨A, B, C, D, E, a1, by rw [hf 26 i (by omega) (by omega)]; exact a2, LnN_fr a3 (fun c h1 h2 => hf c i (by omega) h2), by rw [hf' _ (by omega)]; exact a4, LnR4_fr a5 (fun j h1 _ => hf' j (by omega))⟩
def RdB (nb nk B n : Nat) (s t : SM) : Prop := ∃ s' t', Fq YbI TkL s s' ∧ Fq XbI TxL t t' ∧ ((ST B (fun m => lX0_readFrom m s 25 5 (zI (n : Int))) (fun m => qX0_readFrom m s 25 5 (zI (n : Int))) (fun _ => ((1 : Int32), s')) (fun _ => True) ∧ ST B (fun m => (lX12_book m).1 t) (fun m => (qX12_book m).1 t) (fun m => (lX12_book m).2 (pI t' 252 0 (gI t' 248 36)) 0) (fun m => (qX12_book m).2 (pI t' 252 0 (gI t' 248 36)) 0) ∧ (∃ n', DbR s' t' nb nk n') ∧ gI s' 3 2 = gI s 3 2 ∧ gI t' 248 15 = gI t 248 15) ∨ (∃ f A, ST B (fun m => lX0_readFrom m s 25 5 (zI (n : Int))) (fun m => qX0_readFrom m s 25 5 (zI (n : Int))) (fun _ => ((0 : Int32), s')) (fun _ => True) ∧ ST B (fun m => (lX12_book m).1 t) (fun m => (qX12_book m).1 t) (fun _ => (-1 - gI t' 248 16, t')) (fun _ => True) ∧ FtY s' f A ∧ FtX t' f A))
section
variable {N : Nat} {bt : Nat → Int}
theorem Yt_Yb {c i : Nat} (h : YtI c i) : YbI c i := Or.inl h
theorem Xt_Xb {c i : Nat} (h : XtI c i) : XbI c i := Or.inl h
theorem rdb_one (hN : N ≤ 640) {B n : Nat} {s t : SM} {p nb nk : Nat} (hn : n ≤ 40) (hpN : p ≤ N) (hp : TpY s N bt) (hs : TkS t N bt) (hr : ReT t) (h7 : gI s 3 7 = zI (p : Int)) (hx : TkX t N (tokF N bt p)) (hc : CtR s t nb nk) (hd : DbR s t nb nk n) (hrec : n + 1 ≤ 40 → ∀ s2 t2 p2, p2 ≤ N → TpY s2 N bt → TkS t2 N bt → ReT t2 → gI s2 3 7 = zI (p2 : Int) → TkX t2 N (tokF N bt p2) → CtR s2 t2 nb nk → DbR s2 t2 nb nk (n + 1) → RdB nb nk B (n + 1) s2 t2) : RdB nb nk (B + 1) n s t := by
  obtain ⟨s1, p1, p2, p3, p4⟩ := y_next hp hN hpN h7
  have hk := tok_S (N := N) bt p
  obtain ⟨hEa, hE⟩ := tok_E bt hpN
  obtain ⟨k, hkd⟩ : ∃ k, k = tokF N bt p := ⟨_, rfl⟩
  rw [← hkd] at p4 hx hk hEa hE
  have n6 : ¬ 600 < zI (n : Int) := by rw [show (600 : Int32) = zI 600 from rfl, z_lt (by omega) (by omega)]; omega
  have fs1 : Fq YbI TkL s s1 := Fq_mo p3 (fun c i hc => by omega) (fun c i hc => hc)
  have kz : zI k.1 = 0 ↔ k.1 = 0 := by rw [zl0, z_eq (by omega) (by omega)]
  have idt : Fq (fun _ _ => False) (fun _ _ => False) t t := Fq_rf _ _ _
  obtain ⟨hd1, hd2, hd3, hd4⟩ := id hd
  have e251 : gI s1 25 0 = zI (n : Int) := by rw [p3.1 25 0 (by omega)]; exact hd2
  have cn : (zI (n : Int)).toNatClampNeg = n := by rw [z_cl (by omega)]; exact Int.toNat_natCast _
  have k10 : ¬ (1 : Int32) = 0 := by decide
  obtain ⟨A, hA, w1, w2, w3, w4⟩ := x_act hx hk p4
  have am : zI A = -1 ↔ A = -1 := by rw [show (-1 : Int32) = zI (-1) from rfl, z_eq (by omega) (by omega)]
  have n40 : gI t 248 36 = 40 ↔ n = 40 := by rw [hd3, show (40 : Int32) = zI 40 from rfl, z_eq (by omega) (by omega)]; omega
  have l40 : gI s1 25 0 < 40 ↔ n < 40 := by rw [e251, show (40 : Int32) = zI 40 from rfl, z_lt (by omega) (by omega)]; omega
  by_cases c0 : k.1 = 0
  · have eE : ¬ vX9_isEnd s1 = 0 := by unfold vX9_isEnd; rw [p4.1, if_pos (kz.mpr c0)]; decide
    by_cases c6 : N ≤ 600
    · have l6 : gI s1 3 1 ≤ 600 := by rw [p3.1 3 1 (by omega), hp.1, show (600 : Int32) = zI 600 from rfl, z_le (by omega) (by omega)]; omega
      have e0 := (TkX_s hx hk).2.2.2.mpr ⟨c0, c6⟩
      refine ⟨s1, t, fs1, Fq_rf _ _ _, Or.inl ⟨ST_mono (ST_1 fun m => ?_) (by omega), ST_mono (ST_1 fun m => ?_) (by omega), ⟨n, DbR_fr hd (p3.1 25 0 (by omega)) rfl (fun c i h1 h2 => p3.1 c i (by omega)) (fun _ _ => rfl)⟩, p3.1 3 2 (by omega), rfl⟩⟩
      · show tX0_readFrom_11 (lX0_readFrom m) s 25 5 (zI (n : Int)) = _ ∧ (_ → uX0_readFrom_11 (qX0_readFrom m) s 25 5 (zI (n : Int)))
        unfold tX0_readFrom_11 uX0_readFrom_11
        rw [if_neg n6, p1, if_neg eE]
        unfold vX9_isAllRead mX9_isAllRead
        rw [if_pos l6, if_pos l6]
        exact ⟨rfl, fun _ _ => ⟨p2, fun hc => absurd hc eE⟩⟩
      · show tX12_book_26 (lX12_book m) t = _ ∧ (_ → uX12_book_26 (qX12_book m) t)
        unfold tX12_book_26 uX12_book_26
        rw [if_pos e0]
        exact ⟨rfl, fun hh => ⟨fun _ => hh, fun hc => absurd e0 hc⟩⟩
    · have l6 : ¬ gI s1 3 1 ≤ 600 := by rw [p3.1 3 1 (by omega), hp.1, show (600 : Int32) = zI 600 from rfl, z_le (by omega) (by omega)]; omega
      have e0 : ¬ gI t 248 11 = 0 := fun hc => c6 ((TkX_s hx hk).2.2.2.mp hc).2
      obtain ⟨-, r2, r3⟩ := y_ref p4 1
      obtain ⟨-, q2, q3⟩ := x_bad hx 1
      have eA : A = -1 := w4 (by omega)
      rw [if_pos eA] at w2
      have RX : rX12_bookLine t := w3 (fun hc => absurd eA hc)
      have m1 : mX12_bookLine t = mX12_bad t 1 := by unfold mX12_bookLine; rw [w2]
      have v1 : vX12_bookLine t = 0 := by unfold vX12_bookLine; rw [w2]
      refine ⟨mX9_refuse s1 1, mX12_bad t 1, Fq_tr fs1 (Fq_mo r3 (fun _ _ hc => Yt_Yb hc) (fun c i hc => hc)), Fq_mo q3 (fun _ _ hc => Xt_Xb hc) (fun c i hc => hc), Or.inr ⟨_, _, ST_mono (ST_1 fun m => ?_) (by omega), ST_mono (ST_1 fun m => ?_) (by omega), r2, q2⟩⟩
      · show tX0_readFrom_11 (lX0_readFrom m) s 25 5 (zI (n : Int)) = _ ∧ (_ → uX0_readFrom_11 (qX0_readFrom m) s 25 5 (zI (n : Int)))
        unfold tX0_readFrom_11 uX0_readFrom_11
        rw [if_neg n6, p1, if_neg eE]
        unfold vX9_isAllRead mX9_isAllRead
        rw [if_neg l6, if_neg l6]
        exact ⟨rfl, fun _ _ => ⟨p2, fun hc => absurd hc eE⟩⟩
      · show tX12_book_26 (lX12_book m) t = _ ∧ (_ → uX12_book_26 (qX12_book m) t)
        unfold tX12_book_26 uX12_book_26
        rw [if_neg e0, v1, if_pos rfl, m1]
        exact ⟨rfl, fun _ => ⟨fun hc => absurd hc e0, fun _ => ⟨RX, fun hc => absurd rfl hc⟩⟩⟩
  · have eE : vX9_isEnd s1 = 0 := by unfold vX9_isEnd; rw [p4.1, if_neg (fun hc => c0 (kz.mp hc))]
    have e0 : ¬ gI t 248 11 = 0 := fun hc => c0 ((TkX_s hx hk).2.2.2.mp hc).1
    -- refused at once
    have no : ∀ (f : Int32), (∀ m, tX0_readFrom_11 (lX0_readFrom m) s 25 5 (zI (n : Int)) = (0, mX9_refuse s1 f) ∧ uX0_readFrom_11 (qX0_readFrom m) s 25 5 (zI (n : Int))) → fX12_bookLine t = (0, mX12_bad t f) → rX12_bookLine t → RdB nb nk (B + 1) n s t := by
      intro f hY hX RX
      obtain ⟨-, r2, r3⟩ := y_ref p4 f
      obtain ⟨-, q2, q3⟩ := x_bad hx f
      have m1 : mX12_bookLine t = mX12_bad t f := by unfold mX12_bookLine; rw [hX]
      have v1 : vX12_bookLine t = 0 := by unfold vX12_bookLine; rw [hX]
      refine ⟨mX9_refuse s1 f, mX12_bad t f, Fq_tr fs1 (Fq_mo r3 (fun _ _ hc => Yt_Yb hc) (fun c i hc => hc)), Fq_mo q3 (fun _ _ hc => Xt_Xb hc) (fun c i hc => hc), Or.inr ⟨_, _, ST_mono (ST_1 fun m => ⟨(hY m).1, fun _ => (hY m).2⟩) (by omega), ST_mono (ST_1 fun m => ?_) (by omega), r2, q2⟩⟩
      show tX12_book_26 (lX12_book m) t = _ ∧ (_ → uX12_book_26 (qX12_book m) t)
      unfold tX12_book_26 uX12_book_26
      rw [if_neg e0, v1, if_pos rfl, m1]
      exact ⟨rfl, fun _ => ⟨fun hc => absurd hc e0, fun _ => ⟨RX, fun hc => absurd rfl hc⟩⟩⟩
    by_cases cA : A = -1
    · rw [if_pos cA] at w2
      refine no 1 (fun m => ?_) w2 (w3 (fun hc => absurd cA hc))
      unfold tX0_readFrom_11 uX0_readFrom_11
      rw [if_neg n6, p1, if_pos eE, w1, if_pos (am.mpr cA)]
      exact ⟨rfl, fun _ => ⟨p2, fun _ hc => absurd (am.mpr cA) hc⟩⟩
    · have nA : ¬ zI A = -1 := fun hc => cA (am.mp hc)
      rw [if_neg cA] at w2
      by_cases c4 : n = 40
      · rw [if_pos (n40.mpr c4)] at w2
        refine no 4 (fun m => ?_) w2 (w3 (fun _ hc => absurd (n40.mpr c4) hc))
        have nl : ¬ gI s1 25 0 < 40 := fun hc => by have := l40.mp hc; omega
        unfold tX0_readFrom_11 uX0_readFrom_11
        rw [if_neg n6, p1, if_pos eE, w1, if_neg nA, if_neg nl]
        exact ⟨rfl, fun _ => ⟨p2, fun _ _ hc => absurd hc nl⟩⟩
      · have hn4 : n < 40 := by omega
        have yl : gI s1 25 0 < 40 := l40.mpr hn4
        rw [if_neg (fun hc => c4 (n40.mp hc)), hd3] at w2
        rw [hd3] at w3
        have e5 : 1 + 5 * zI (n : Int) = zI ((5 * n + 1 : Nat) : Int) := by rw [zl1, show (5 : Int32) = zI 5 from rfl, z_mul, z_add]; congr 1; omega
        rw [e5] at w2 w3
        obtain ⟨T, t1, v1, fT, eT, ⟨L1, L2⟩, rR, fy, fx, cs⟩ := ln_rest hN hn4 (TpY_fq hp p3 (fun c i hc => by omega)) hs hr p4 hx hk hE (CtR_fq hc p3 idt (fun i hi => by omega) (fun c i hc => by omega) (fun _ _ h => h) (fun _ h => h)) e251 (A := A) (by omega)
        rw [L1] at w2
        have RX : rX12_bookLine t := w3 (fun _ _ => L2)
        have mX : mX12_bookLine t = t1 := by unfold mX12_bookLine; rw [w2]
        have vX : vX12_bookLine t = v1 := by unfold vX12_bookLine; rw [w2]
        obtain ⟨U, hU⟩ : ∃ U, U = pI s1 26 n (zI A) := ⟨_, rfl⟩
        have hUq : pI s1 (25 + 1) n (zI A) = U := hU.symm
        rw [← hU] at rR fy cs
        have gU : Fq (fun c i => c = 26 ∧ i = n) (fun _ _ => False) s1 U := by rw [hU]; exact Fq_p _ ⟨rfl, rfl⟩
        obtain ⟨s2, hs2⟩ : ∃ s2, s2 = mX0_readRest U 25 5 (zI A) := ⟨_, rfl⟩
        rw [← hs2] at fy cs
        have fU : Fq YbI TkL s U := Fq_tr fs1 (Fq_mo gU (fun c i hc => by omega) (fun _ _ h => h.elim))
        have fs2 : Fq YbI TkL s s2 := Fq_tr fU (Fq_mo fy (fun c i hc => by omega) (fun c i hc => hc))
        have ft1 : Fq XbI TxL t t1 := Fq_tr (Fq_mo fT (fun c i hc => by omega) (fun c i hc => hc)) (Fq_mo fx (fun c i hc => by omega) (fun c i hc => hc))
        rcases cs with ⟨b1, b2, b3, b4, q, B', C, D, E, b5, b6, b7, b8, b9⟩ | ⟨b1, b2, f, A', b3, b4⟩
        · -- the rest is told: the stop
          obtain ⟨h1, h2, h3, h4, h5, h6, h7'⟩ := b6
          obtain ⟨s3, g1, g2, g3, g4⟩ := y_next h1 hN h5 h4
          have hk2 := tok_S (N := N) bt q
          obtain ⟨hE2a, hE2⟩ := tok_E bt h5
          obtain ⟨k2, hk2d⟩ : ∃ k2, k2 = tokF N bt q := ⟨_, rfl⟩
          rw [← hk2d] at g4 h6 hk2 hE2a hE2
          obtain ⟨a1, a2⟩ := y_isStop g4 hk2
          obtain ⟨x1, x2⟩ := x_sign (bt := bt) h6 hk2 h2 hN hE2
          have ts : mX9_takeStop s2 = mX9_isStop s3 ∧ vX9_takeStop s2 = vX9_isStop s3 := by
            unfold mX9_takeStop vX9_takeStop
            rw [g1]
            exact ⟨rfl, rfl⟩
          have tr : rX9_takeStop s2 := g2
          have fs3 : Fq YbI TkL s s3 := Fq_tr fs2 (Fq_mo g3 (fun c i hc => by omega) (fun c i hc => hc))
          have nb1 : ¬ vX0_readRest U 25 5 (zI A) = 0 := by rw [b1]; exact k10
          by_cases c3 : k2.1 = 3
          · obtain ⟨d1, d2⟩ := a1 c3
            obtain ⟨f1, f2, f3, f4, f5⟩ := x1 c3
            obtain ⟨T2, hT2⟩ : ∃ T2, T2 = mX12_sign t1 59 := ⟨_, rfl⟩
            rw [← hT2] at f3 f4 f5
            rw [d2] at ts
            rw [d1] at ts
            have e253 : gI s3 25 0 = zI (n : Int) := by rw [g3.1 25 0 (by omega), fy.1 25 0 (by omega), gU.1 25 0 (by omega)]; exact e251
            have en : zI (n : Int) + 1 = zI ((n + 1 : Nat) : Int) := by rw [zl1, z_add]; congr 1
            obtain ⟨s4, hs4⟩ : ∃ s4, s4 = pI s3 25 0 (zI ((n + 1 : Nat) : Int)) := ⟨_, rfl⟩
            obtain ⟨t4, ht4⟩ : ∃ t4, t4 = pI T2 248 36 (zI ((n + 1 : Nat) : Int)) := ⟨_, rfl⟩
            have j4 : Fq (fun c i => c = 25 ∧ i = 0) (fun _ _ => False) s3 s4 := by rw [hs4]; exact Fq_p _ ⟨rfl, rfl⟩
            have j4' : Fq (fun c i => c = 248 ∧ i = 36) (fun _ _ => False) T2 t4 := by rw [ht4]; exact Fq_p _ ⟨rfl, rfl⟩
            have e36 : gI T2 248 36 = zI (n : Int) := by rw [f3.1 248 36 (by omega), fx.1 248 36 (by omega), fT.1 248 36 (by omega)]; exact hd3
            have fs4 : Fq YbI TkL s s4 := Fq_tr fs3 (Fq_mo j4 (fun c i hc => by omega) (fun _ _ h => h.elim))
            have ft4 : Fq XbI TxL t t4 := Fq_tr ft1 (Fq_tr (Fq_mo f3 (fun _ _ hc => Xt_Xb hc) (fun c i hc => hc)) (Fq_mo j4' (fun c i hc => by omega) (fun _ _ h => h.elim)))
            have hD : DbR s4 t4 nb nk (n + 1) := by
              refine ⟨by omega, by rw [hs4, gI_pI, if_pos ⟨rfl, rfl⟩], by rw [ht4, gI_pI, if_pos ⟨rfl, rfl⟩], fun i hi => ?_⟩
              by_cases hin : i = n
              · subst hin
                refine ⟨A, B', C, D, E, b7, ?_, LnN_fr b8 (fun c h1 h2 => by rw [j4.1 c i (by omega), g3.1 c i (by omega)]), ?_, LnR4_fr b9 (fun j h1 h2 => by rw [j4'.1 252 j (by omega), f3.1 252 j (by omega)])⟩
                · rw [j4.1 26 i (by omega), g3.1 26 i (by omega), fy.1 26 i (by omega), hU, gI_pI, if_pos ⟨rfl, rfl⟩]
                · rw [j4'.1 252 _ (by omega), f3.1 252 _ (by omega), fx.1 252 _ (by omega)]; exact eT
              · obtain ⟨A2, B2, C2, D2, E2, y1, y2, y3, y4, y5⟩ := hd4 i (by omega)
                have cs : ∀ c, 26 ≤ c → c ≤ 30 → gI s4 c i = gI s c i := fun c h1 h2 => by rw [j4.1 c i (by omega), g3.1 c i (by omega), fy.1 c i (by omega), gU.1 c i (by omega), p3.1 c i (by omega)]
                have ct : ∀ j, j ≤ 5 * n → gI t4 252 j = gI t 252 j := fun j hj => by rw [j4'.1 252 j (by omega), f3.1 252 j (by omega), fx.1 252 j (by omega), fT.1 252 j (by omega)]
                exact ⟨A2, B2, C2, D2, E2, y1, by rw [cs 26 (by omega) (by omega)]; exact y2, LnN_fr y3 (fun c h1 h2 => cs c (by omega) h2), by rw [ct _ (by omega)]; exact y4, LnR4_fr y5 (fun j h1 h2 => ct j (by omega))⟩
            obtain ⟨s', t', r1, r2, r3⟩ := hrec (by omega) s4 t4 k2.2.2.1 hE2 (TpY_fq (TpY_fq h1 g3 (fun c i hc => by omega)) j4 (fun c i hc => by omega)) (TkS_fq (TkS_fq h2 f3 (fun c i hc => by omega)) j4' (fun c i hc => by omega)) (fun i hi => by rw [j4'.2.1 254 i (fun h => h), f3.2.1 254 i (by omega)]; exact h3 i hi) (by rw [j4.1 3 7 (by omega)]; exact g4.2.2.1) (TkX_fq f4 j4' (fun c i hc => by omega) (fun _ _ _ h => h)) (CtR_fq (CtR_fq h7' g3 f3 (fun i hi => by omega) (fun c i hc => by omega) (fun i hi => by omega) (fun i => by omega)) j4 j4' (fun i hi => by omega) (fun _ _ _ h => h) (fun i hi => by omega) (fun _ h => h)) hD
            have st1 : ST 1 (fun m => lX0_readFrom m s 25 5 (zI (n : Int))) (fun m => qX0_readFrom m s 25 5 (zI (n : Int))) (fun m => lX0_readFrom m s4 25 5 (zI ((n + 1 : Nat) : Int))) (fun m => qX0_readFrom m s4 25 5 (zI ((n + 1 : Nat) : Int))) := by
              refine ST_1 fun m => ?_
              show tX0_readFrom_11 (lX0_readFrom m) s 25 5 (zI (n : Int)) = _ ∧ (_ → uX0_readFrom_11 (qX0_readFrom m) s 25 5 (zI (n : Int)))
              unfold tX0_readFrom_11 uX0_readFrom_11
              rw [if_neg n6, p1, if_pos eE, w1, if_neg nA, if_pos yl, e251, cn, hUq, ← hs2]
              dsimp only
              rw [if_neg nb1, ts.1, ts.2, if_neg k10, e253, en, ← hs4]
              exact ⟨rfl, fun hh _ => ⟨p2, fun _ _ _ => ⟨by rw [z_in (by omega)]; omega, rR, fun s2' h2 _ => by rw [h2, ts.1, e253, en, ← hs4]; exact ⟨tr, fun _ => hh⟩⟩⟩⟩
            have st2 : ST 1 (fun m => (lX12_book m).1 t) (fun m => (qX12_book m).1 t) (fun m => (lX12_book m).1 t4) (fun m => (qX12_book m).1 t4) := by
              refine ST_1 fun m => ?_
              show tX12_book_26 (lX12_book m) t = _ ∧ (_ → uX12_book_26 (qX12_book m) t)
              unfold tX12_book_26 uX12_book_26
              rw [if_neg e0, vX, mX, b2, if_neg k10, f1, if_neg k10, ← hT2, e36, en, ← ht4]
              exact ⟨rfl, fun hh => ⟨fun hc => absurd hc e0, fun _ => ⟨RX, fun _ => ⟨f2, fun _ s1' h1 => by rw [h1]; exact hh⟩⟩⟩⟩
            refine ⟨s', t', Fq_tr fs4 r1, Fq_tr ft4 r2, ?_⟩
            rcases r3 with ⟨z1, z2, z3, z4, z5⟩ | ⟨f, A', z1, z2, z3, z4⟩
            · exact Or.inl ⟨ST_mono (ST_trans st1 z1) (by omega), ST_mono (ST_trans st2 z2) (by omega), z3, by rw [z4, j4.1 3 2 (by omega), g3.1 3 2 (by omega), b3, gU.1 3 2 (by omega), p3.1 3 2 (by omega)], by rw [z5, j4'.1 248 15 (by omega), f5, b4, fT.1 248 15 (by omega)]⟩
            · exact Or.inr ⟨f, A', ST_mono (ST_trans st1 z1) (by omega), ST_mono (ST_trans st2 z2) (by omega), z3, z4⟩
          · obtain ⟨d1, d2, d3⟩ := a2 c3
            obtain ⟨f1, f2, f3, f4⟩ := x2 c3
            rw [d1] at ts
            refine ⟨mX9_isStop s3, mX12_sign t1 59, Fq_tr fs3 (Fq_mo d3 (fun _ _ hc => Yt_Yb hc) (fun c i hc => hc)), Fq_tr ft1 (Fq_mo f4 (fun _ _ hc => Xt_Xb hc) (fun c i hc => hc)), Or.inr ⟨_, _, ST_mono (ST_1 fun m => ?_) (by omega), ST_mono (ST_1 fun m => ?_) (by omega), d2, f3⟩⟩
            · show tX0_readFrom_11 (lX0_readFrom m) s 25 5 (zI (n : Int)) = _ ∧ (_ → uX0_readFrom_11 (qX0_readFrom m) s 25 5 (zI (n : Int)))
              unfold tX0_readFrom_11 uX0_readFrom_11
              rw [if_neg n6, p1, if_pos eE, w1, if_neg nA, if_pos yl, e251, cn, hUq, ← hs2]
              dsimp only
              rw [if_neg nb1, ts.2, if_pos rfl, ts.1]
              exact ⟨rfl, fun _ _ => ⟨p2, fun _ _ _ => ⟨by rw [z_in (by omega)]; omega, rR, fun s2' h2 _ => by rw [h2, ts.2]; exact ⟨tr, fun hc => absurd rfl hc⟩⟩⟩⟩
            · show tX12_book_26 (lX12_book m) t = _ ∧ (_ → uX12_book_26 (qX12_book m) t)
              unfold tX12_book_26 uX12_book_26
              rw [if_neg e0, vX, mX, b2, if_neg k10, f1, if_pos rfl]
              exact ⟨rfl, fun _ => ⟨fun hc => absurd hc e0, fun _ => ⟨RX, fun _ => ⟨f2, fun hc => absurd rfl hc⟩⟩⟩⟩
        · refine ⟨s2, t1, fs2, ft1, Or.inr ⟨f, A', ST_mono (ST_1 fun m => ?_) (by omega), ST_mono (ST_1 fun m => ?_) (by omega), b3, b4⟩⟩
          · show tX0_readFrom_11 (lX0_readFrom m) s 25 5 (zI (n : Int)) = _ ∧ (_ → uX0_readFrom_11 (qX0_readFrom m) s 25 5 (zI (n : Int)))
            unfold tX0_readFrom_11 uX0_readFrom_11
            rw [if_neg n6, p1, if_pos eE, w1, if_neg nA, if_pos yl, e251, cn, hUq, ← hs2]
            dsimp only
            rw [b1, if_pos rfl]
            exact ⟨rfl, fun _ _ => ⟨p2, fun _ _ _ => ⟨by rw [z_in (by omega)]; omega, rR, fun s2' h2 hc => absurd rfl hc⟩⟩⟩
          · show tX12_book_26 (lX12_book m) t = _ ∧ (_ → uX12_book_26 (qX12_book m) t)
            unfold tX12_book_26 uX12_book_26
            rw [if_neg e0, vX, mX, b2, if_pos rfl]
            exact ⟨rfl, fun _ => ⟨fun hc => absurd hc e0, fun _ => ⟨RX, fun hc => absurd rfl hc⟩⟩⟩
theorem rdb_loop (hN : N ≤ 640) {nb nk : Nat} : ∀ (r n : Nat) (s t : SM) (p : Nat), n + r = 40 → p ≤ N → TpY s N bt → TkS t N bt → ReT t → gI s 3 7 = zI (p : Int) → TkX t N (tokF N bt p) → CtR s t nb nk → DbR s t nb nk n → RdB nb nk (r + 1) n s t := by
  intro r
  induction r with
  | zero =>
    intro n s t p hn hpN hp hs hr h7 hx hc hd
    exact rdb_one hN (by omega) hpN hp hs hr h7 hx hc hd (fun h => absurd h (by omega))
  | succ r ih =>
    intro n s t p hn hpN hp hs hr h7 hx hc hd
    exact rdb_one hN (by omega) hpN hp hs hr h7 hx hc hd (fun h s2 t2 p2 q1 q2 q3 q4 q5 q6 q7 q8 => ih (n + 1) s2 t2 p2 (by omega) q1 q2 q3 q4 q5 q6 q7 q8)
end
