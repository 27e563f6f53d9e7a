-- needs: 6o.kin
section
variable {s t : SM} {N : Nat} {bt : Nat → Int}
theorem ln_line (hp : TpY s N bt) (hN : N ≤ 640) (hs : TkS t N bt) {k : Tok} (hy : TkY s k) (hx : TkX t N k) (hk : 0 ≤ k.1 ∧ k.1 ≤ 4) (hE : k.2.2.1 ≤ N) {nb nk : Nat} (hb : BdR s t nb) (hki : KiR s t nk) (hl : LiR s t) (hw : k.1 = 1 ∧ k.2.2.2.1 = 1818848869) : ∃ s' t1 v1, mX6_readLineRoom s 12 = s' ∧ rX6_readLineRoom s 12 ∧ mX12_portLine t = t1 ∧ vX12_portLine t = v1 ∧ rX12_portLine t ∧ LnR N bt k.2.2.1 s s' (vX6_readLineRoom s 12) t t1 v1 := by
  have kb : vX12_isWord t 1651467385 = 0 := by rw [x_says hx hk, bI_0]; exact fun hh => absurd (hh.2.symm.trans hw.2) (by decide)
  have kk : vX12_isWord t 1802071652 = 0 := by rw [x_says hx hk, bI_0]; exact fun hh => absurd (hh.2.symm.trans hw.2) (by decide)
  have kl : vX12_isWord t 1818848869 = 1 := by rw [x_says hx hk, bI_1]; exact hw
  have head : fX12_portLine t = (lX12_portLine FU).1 t 1 := by
    unfold fX12_portLine
    rw [if_pos kb, if_pos kk, kl, if_neg (by decide)]
  have headr : (qX12_portLine FU).1 t 1 → rX12_portLine t := fun h => by
    unfold rX12_portLine
    refine ⟨fun _ => ⟨fun _ => ⟨fun _ => by rw [kl]; exact h, fun hc => ?_⟩, fun hc => absurd kk hc⟩, fun hc => absurd kb hc⟩
    rw [kl] at hc
    exact absurd hc (by decide)
  obtain ⟨⟨l, l1, l2, l3⟩, ⟨dd, m1, m2, m3⟩, fl1, fl2⟩ := hl
  rcases fl1 with ⟨f1, f2⟩ | ⟨f1, f2⟩
  · -- not told yet
    obtain ⟨u1, hu1⟩ : ∃ u1, u1 = pI (pI t 248 20 (1)) 248 21 (gI t 248 21) := ⟨_, rfl⟩
    have gu : Fq (fun c i => c = 248 ∧ (i = 20 ∨ i = 21)) (fun _ _ => False) t u1 := by rw [hu1]; exact Fq_tr (Fq_p _ (by omega)) (Fq_p _ (by omega))
    obtain ⟨s1, a1, a2, a3, a4, a5, aK⟩ := y_takeNumber hp hN hE hy.2.2.1 0 9
    obtain ⟨t1, x1, x2, x3, x4⟩ := x_next (TkS_fq hs gu (fun c i hc => by omega)) hN hE (by rw [gu.1 248 4 (by omega)]; exact hx.2.2.1)
    have hk1' := tok_S (N := N) bt k.2.2.1
    obtain ⟨hE1a, hE1⟩ := tok_E bt hE
    obtain ⟨k1, hk1d⟩ : ∃ k1, k1 = tokF N bt k.2.2.1 := ⟨_, rfl⟩
    rw [← hk1d] at a4 a5 x4 hk1' hE1a hE1
    have hs1 := TkS_fq (TkS_fq hs gu (fun c i hc => by omega)) x3 (fun c i hc => by omega)
    obtain ⟨t2, b1, b2, b3, b4, b5, bK⟩ := x_takes (bt := bt) x4 hk1' hs1 hN hE1 0 9
    have fx2 : Fq PxI PxL t t2 := Fq_tr (Fq_mo gu (fun c i hc => Or.inr (Or.inr hc)) (fun _ _ h => h.elim)) (Fq_tr (Fq_mo x3 (fun c i hc => by omega) (fun c i hc => Or.inl hc)) (Fq_mo b3 (fun c i hc => by omega) (fun c i hc => Or.inl hc)))
    have fy1 : Fq PyI PyL s s1 := Fq_mo a3 (fun c i hc => Or.inl hc) (fun c i hc => Or.inl hc)
    have e20 : pI (pI t 248 20 (if gI t 248 20 = 0 then (if (1 : Int32) = 0 then 0 else 1) else 1)) 248 21 (if gI (pI t 248 20 (if gI t 248 20 = 0 then (if (1 : Int32) = 0 then 0 else 1) else 1)) 248 21 = 0 then (if (1 : Int32) = 0 then 1 else 0) else 1) = u1 := by
      rw [gI_pI, if_neg (by omega : ¬ (248 = 248 ∧ 21 = 20)), hu1]
      congr 1
      · congr 1
        rw [f2]; rfl
      · rcases fl2 with ⟨q1, q2⟩ | ⟨q1, q2⟩ <;> rw [q2] <;> rfl
    have k10 : ¬ (1 : Int32) = 0 := by decide
    have p1 : ST 1 (fun n => (lX12_portLine n).1 t 1) (fun n => (qX12_portLine n).1 t 1) (fun n => (lX12_portLine n).2 t 1) (fun n => (qX12_portLine n).2 t 1) := by
      refine ST_1 fun n => ?_
      show tX12_portLine_324 (lX12_portLine n) t 1 = _ ∧ (_ → uX12_portLine_324 (qX12_portLine n) t 1)
      unfold tX12_portLine_324 uX12_portLine_324
      rw [if_neg (by decide : ¬ (1 : Int32) = 0), if_pos f2]
      exact ⟨rfl, fun hh => ⟨fun hc => absurd hc (by decide), fun _ _ => hh⟩⟩
    have two : ∀ (v : Int32) (t3 : SM), (vX12_takes t1 0 9 = 0 → v = 0 ∧ t3 = t2) → (¬ vX12_takes t1 0 9 = 0 → v = 1 ∧ t3 = pI t2 251 2 (gI t2 248 18)) → ST 1 (fun n => (lX12_portLine n).2 t 1) (fun n => (qX12_portLine n).2 t 1) (fun _ => (v, t3)) (fun _ => True) := by
      intro v t3 c1 c2
      refine ST_1 fun n => ?_
      show tX12_portLine_351 (lX12_portLine n) t 1 = _ ∧ (_ → uX12_portLine_351 (qX12_portLine n) t 1)
      unfold tX12_portLine_351 uX12_portLine_351
      rw [e20]
      dsimp only
      rw [x1, b1]
      refine ⟨?_, fun _ s1' h1 => by rw [h1, x1]; exact ⟨x2, b2, fun _ => by rw [if_neg (by decide : ¬ (1 : Int32) = 0)]; exact (show vp_in (zI 2) 34 by rw [z_in (by omega)]; omega)⟩⟩
      by_cases c : vX12_takes t1 0 9 = 0
      · rw [if_pos c, (c1 c).1, (c1 c).2]
      · rw [if_neg c, (c2 c).1, (c2 c).2]; rfl
    by_cases ok : nuOk k1 0 9
    · obtain ⟨a6, a7⟩ := a4 ok
      obtain ⟨b6, b7, b8⟩ := b4 ok
      have en : gI s1 3 5 = k1.2.2.2.2 := a7.2.2.2.2 ok.1
      have hz : ∃ r : Int, (0 ≤ r ∧ r ≤ 9) ∧ k1.2.2.2.2 = zI r := by
        obtain ⟨r, hr1, hr2⟩ := z_ex k1.2.2.2.2
        have h1 := ok.2.1
        have h2 := ok.2.2
        rw [hr2, zl0, z_lt hr1 (by omega)] at h1
        rw [hr2, show (9 : Int32) = zI 9 from rfl, z_le hr1 (by omega)] at h2
        exact ⟨r, by omega, hr2⟩
      obtain ⟨r, hr1, hr2⟩ := hz
      rw [hr2] at en b8
      obtain ⟨s2, hs2⟩ : ∃ s2, s2 = pI (pI s1 12 12 1) 12 8 (zI r) := ⟨_, rfl⟩
      obtain ⟨t3, ht3⟩ : ∃ t3, t3 = pI t2 251 2 (zI r) := ⟨_, rfl⟩
      have g2 : Fq (fun c i => c = 12 ∧ (i = 12 ∨ i = 8)) (fun _ _ => False) s1 s2 := by rw [hs2]; exact Fq_tr (Fq_p _ (by omega)) (Fq_p _ (by omega))
      have g3 : Fq (fun c i => c = 251 ∧ i = 2) (fun _ _ => False) t2 t3 := by rw [ht3]; exact Fq_p _ (by omega)
      have en' : gI (pI s1 12 12 1) 3 5 = zI r := by rw [gI_pI, if_neg (by omega)]; exact en
      obtain ⟨s3, d1, d2, d3, d4⟩ := y_next (TpY_fq (TpY_fq hp a3 (fun c i hc => by omega)) g2 (fun c i hc => by omega)) hN hE1 (by rw [g2.1 3 7 (by omega)]; exact a7.2.2.1)
      have hk2' := tok_S (N := N) bt k1.2.2.1
      obtain ⟨hE2a, hE2⟩ := tok_E bt hE1
      obtain ⟨k2, hk2d⟩ : ∃ k2, k2 = tokF N bt k1.2.2.1 := ⟨_, rfl⟩
      rw [← hk2d] at d4 b7 hk2' hE2a hE2
      have fy3 : Fq PyI PyL s s3 := Fq_tr fy1 (Fq_tr (Fq_mo g2 (fun c i hc => by omega) (fun _ _ h => h.elim)) (Fq_mo d3 (fun c i hc => by omega) (fun c i hc => Or.inl hc)))
      have fx3 : Fq PxI PxL t t3 := Fq_tr fx2 (Fq_mo g3 (fun c i hc => by omega) (fun _ _ h => h.elim))
      have big : Fq (fun c i => YtI c i ∨ (c = 12 ∧ (i = 12 ∨ i = 8))) TkL s s3 := Fq_tr (Fq_mo a3 (fun c i hc => Or.inl hc) (fun c i hc => hc)) (Fq_tr (Fq_mo g2 (fun c i hc => Or.inr hc) (fun _ _ h => h.elim)) (Fq_mo d3 (fun c i hc => by omega) (fun c i hc => hc)))
      have bix : Fq (fun c i => XtI c i ∨ (c = 251 ∧ i = 2) ∨ (c = 248 ∧ (i = 20 ∨ i = 21))) TxL t t3 := Fq_tr (Fq_mo gu (fun c i hc => Or.inr (Or.inr hc)) (fun _ _ h => h.elim)) (Fq_tr (Fq_mo x3 (fun c i hc => by omega) (fun c i hc => hc)) (Fq_tr (Fq_mo b3 (fun c i hc => Or.inl hc) (fun c i hc => hc)) (Fq_mo g3 (fun c i hc => by omega) (fun _ _ h => h.elim))))
      have x20 : gI t3 248 20 = gI u1 248 20 := by rw [g3.1 248 20 (by omega), b3.1 248 20 (by omega), x3.1 248 20 (by omega)]
      have x21 : gI t3 248 21 = gI u1 248 21 := by rw [g3.1 248 21 (by omega), b3.1 248 21 (by omega), x3.1 248 21 (by omega)]
      have hL : LiR s3 t3 := by
        refine ⟨⟨r, hr1, ?_, ?_⟩, ⟨dd, m1, ?_, ?_⟩, ?_, ?_⟩
        · rw [d3.1 12 8 (by omega), hs2, gI_pI, if_pos ⟨rfl, rfl⟩]
        · rw [ht3, gI_pI, if_pos ⟨rfl, rfl⟩]
        · rw [big.1 12 9 (by omega)]; exact m2
        · rw [bix.1 251 3 (by omega)]; exact m3
        · exact Or.inr ⟨by rw [d3.1 12 12 (by omega), hs2, gI_pI, if_neg (by omega), gI_pI, if_pos ⟨rfl, rfl⟩], by rw [x20, hu1, gI_pI, if_neg (by omega), gI_pI, if_pos ⟨rfl, rfl⟩]⟩
        · rw [big.1 12 13 (by omega), x21, hu1, gI_pI, if_pos ⟨rfl, rfl⟩]; exact fl2
      have fin := ln_stop (s := s) (t := t) (E := k.2.2.1) hN d4 (TkX_fq b7 g3 (fun c i hc => by omega) (fun _ _ _ h => h)) (TkS_fq (TkS_fq hs1 b3 (fun c i hc => by omega)) g3 (fun c i hc => by omega)) hk2' ⟨by omega, hE2⟩ (BdR_fq hb big bix (fun c i hc => by omega) (fun i hi => by omega) (fun i hi => by omega) (fun i h1 h2 => by omega)) (KiR_fq hki big bix (fun c i hc => by omega) (fun i hi => by omega) (fun i hi => by omega) (fun i h1 h2 => by omega)) hL fy3 fx3 (by rw [d3.1 3 2 (by omega), g2.1 3 2 (by omega), aK a6]) (by rw [g3.1 248 15 (by omega), bK b6, x3.1 248 15 (by omega), gu.1 248 15 (by omega)])
      obtain ⟨E, R⟩ := ST_fu (ST_trans p1 (two 1 t3 (fun hc => absurd (b6.symm.trans hc) (by decide)) (fun _ => ⟨rfl, by rw [b8]; exact ht3⟩))) (by omega)
      refine ⟨mX9_isStop s3, t3, 1, ?_, ?_, by unfold mX12_portLine; rw [head, E], by unfold vX12_portLine; rw [head, E], headr R, ?_⟩
      · unfold mX6_readLineRoom
        rw [if_pos f1, a6, if_neg k10, a1]
        dsimp only
        rw [en', ← hs2]
        unfold mX9_takeStop
        rw [d1]
      · unfold rX6_readLineRoom
        refine fun _ => ⟨a2, fun _ s1' h1 => ?_⟩
        rw [h1, a1, en', ← hs2]
        exact d2
      · unfold vX6_readLineRoom
        rw [if_pos f1, a6, if_neg k10, a1]
        dsimp only
        rw [en', ← hs2]
        unfold vX9_takeStop
        rw [d1]
        exact fin
    · obtain ⟨a6, a7⟩ := a5 ok
      obtain ⟨b6, b7⟩ := b5 ok
      obtain ⟨E, R⟩ := ST_fu (ST_trans p1 (two 0 t2 (fun _ => ⟨rfl, rfl⟩) (fun hc => absurd b6 hc))) (by omega)
      refine ⟨s1, t2, 0, ?_, ?_, by unfold mX12_portLine; rw [head, E], by unfold vX12_portLine; rw [head, E], headr R, ?_⟩
      · unfold mX6_readLineRoom
        rw [if_pos f1, a6, if_pos rfl, a1]
      · unfold rX6_readLineRoom
        exact fun _ => ⟨a2, fun hc => absurd a6 hc⟩
      · unfold vX6_readLineRoom
        rw [if_pos f1, a6, if_pos rfl]
        exact ln_no a7 b7 fy1 fx2
  · -- told before
    obtain ⟨-, r2, r3⟩ := y_ref hy 3
    obtain ⟨-, q2, q3⟩ := x_bad hx 3
    have n1 : ¬ gI s 12 12 = 0 := by rw [f1]; decide
    have n2 : ¬ gI t 248 20 = 0 := by rw [f2]; decide
    obtain ⟨E, R⟩ := ST_fu (ST_1 (F := fun n => (lX12_portLine n).1 t 1) (C := fun n => (qX12_portLine n).1 t 1) (F' := fun _ => (0, mX12_bad t 3)) (C' := fun _ => True) (fun n => by
      show tX12_portLine_324 (lX12_portLine n) t 1 = _ ∧ (_ → uX12_portLine_324 (qX12_portLine n) t 1)
      unfold tX12_portLine_324 uX12_portLine_324
      rw [if_neg (by decide : ¬ (1 : Int32) = 0), if_neg n2]
      exact ⟨rfl, fun _ => ⟨fun hc => absurd hc (by decide), fun _ hc => absurd hc n2⟩⟩)) (by omega)
    refine ⟨mX9_refuse s 3, mX12_bad t 3, 0, ?_, ?_, by unfold mX12_portLine; rw [head, E], by unfold vX12_portLine; rw [head, E], headr R, ?_⟩
    · unfold mX6_readLineRoom
      rw [if_neg n1]
    · unfold rX6_readLineRoom
      exact fun hc => absurd hc n1
    · unfold vX6_readLineRoom
      rw [if_neg n1]
      exact ln_no r2 q2 (Fq_mo r3 (fun c i hc => Or.inl hc) (fun c i hc => Or.inl hc)) (Fq_mo q3 (fun c i hc => Or.inl hc) (fun c i hc => Or.inl hc))
theorem ln_dot (hp : TpY s N bt) (hN : N ≤ 640) (hs : TkS t N bt) {k : Tok} (hy : TkY s k) (hx : TkX t N k) (hk : 0 ≤ k.1 ∧ k.1 ≤ 4) (hE : k.2.2.1 ≤ N) {nb nk : Nat} (hb : BdR s t nb) (hki : KiR s t nk) (hl : LiR s t) (hw : k.1 = 1 ∧ k.2.2.2.1 = 6582132) : ∃ s' t1 v1, mX6_readDotRoom s 12 = s' ∧ rX6_readDotRoom s 12 ∧ mX12_portLine t = t1 ∧ vX12_portLine t = v1 ∧ rX12_portLine t ∧ LnR N bt k.2.2.1 s s' (vX6_readDotRoom s 12) t t1 v1 := by
  have kb : vX12_isWord t 1651467385 = 0 := by rw [x_says hx hk, bI_0]; exact fun hh => absurd (hh.2.symm.trans hw.2) (by decide)
  have kk : vX12_isWord t 1802071652 = 0 := by rw [x_says hx hk, bI_0]; exact fun hh => absurd (hh.2.symm.trans hw.2) (by decide)
  have kl : vX12_isWord t 1818848869 = 0 := by rw [x_says hx hk, bI_0]; exact fun hh => absurd (hh.2.symm.trans hw.2) (by decide)
  have kd : ¬ vX12_isWord t 6582132 = 0 := by rw [x_says hx hk, bI_0]; exact fun hh => hh hw
  have head : fX12_portLine t = (lX12_portLine FU).1 t 0 := by
    unfold fX12_portLine
    rw [if_pos kb, if_pos kk, kl, if_pos rfl, if_neg kd]
  have headr : (qX12_portLine FU).1 t 0 → rX12_portLine t := fun h => by
    unfold rX12_portLine
    exact ⟨fun _ => ⟨fun _ => ⟨fun hc => absurd kl hc, fun _ _ => by rw [kl]; exact h⟩, fun hc => absurd kk hc⟩, fun hc => absurd kb hc⟩
  obtain ⟨⟨l, l1, l2, l3⟩, ⟨dd, m1, m2, m3⟩, fl1, fl2⟩ := hl
  rcases fl2 with ⟨f1, f2⟩ | ⟨f1, f2⟩
  · -- not told yet
    obtain ⟨u1, hu1⟩ : ∃ u1, u1 = pI (pI t 248 20 (gI t 248 20)) 248 21 (1) := ⟨_, rfl⟩
    have gu : Fq (fun c i => c = 248 ∧ (i = 20 ∨ i = 21)) (fun _ _ => False) t u1 := by rw [hu1]; exact Fq_tr (Fq_p _ (by omega)) (Fq_p _ (by omega))
    obtain ⟨s1, a1, a2, a3, a4, a5, aK⟩ := y_takeNumber hp hN hE hy.2.2.1 0 9
    obtain ⟨t1, x1, x2, x3, x4⟩ := x_next (TkS_fq hs gu (fun c i hc => by omega)) hN hE (by rw [gu.1 248 4 (by omega)]; exact hx.2.2.1)
    have hk1' := tok_S (N := N) bt k.2.2.1
    obtain ⟨hE1a, hE1⟩ := tok_E bt hE
    obtain ⟨k1, hk1d⟩ : ∃ k1, k1 = tokF N bt k.2.2.1 := ⟨_, rfl⟩
    rw [← hk1d] at a4 a5 x4 hk1' hE1a hE1
    have hs1 := TkS_fq (TkS_fq hs gu (fun c i hc => by omega)) x3 (fun c i hc => by omega)
    obtain ⟨t2, b1, b2, b3, b4, b5, bK⟩ := x_takes (bt := bt) x4 hk1' hs1 hN hE1 0 9
    have fx2 : Fq PxI PxL t t2 := Fq_tr (Fq_mo gu (fun c i hc => Or.inr (Or.inr hc)) (fun _ _ h => h.elim)) (Fq_tr (Fq_mo x3 (fun c i hc => by omega) (fun c i hc => Or.inl hc)) (Fq_mo b3 (fun c i hc => by omega) (fun c i hc => Or.inl hc)))
    have fy1 : Fq PyI PyL s s1 := Fq_mo a3 (fun c i hc => Or.inl hc) (fun c i hc => Or.inl hc)
    have e20 : pI (pI t 248 20 (if gI t 248 20 = 0 then (if (0 : Int32) = 0 then 0 else 1) else 1)) 248 21 (if gI (pI t 248 20 (if gI t 248 20 = 0 then (if (0 : Int32) = 0 then 0 else 1) else 1)) 248 21 = 0 then (if (0 : Int32) = 0 then 1 else 0) else 1) = u1 := by
      rw [gI_pI, if_neg (by omega : ¬ (248 = 248 ∧ 21 = 20)), hu1]
      congr 1
      · congr 1
        rcases fl1 with ⟨q1, q2⟩ | ⟨q1, q2⟩ <;> rw [q2] <;> rfl
      · rw [f2]; rfl
    have k10 : ¬ (1 : Int32) = 0 := by decide
    have p1 : ST 1 (fun n => (lX12_portLine n).1 t 0) (fun n => (qX12_portLine n).1 t 0) (fun n => (lX12_portLine n).2 t 0) (fun n => (qX12_portLine n).2 t 0) := by
      refine ST_1 fun n => ?_
      show tX12_portLine_324 (lX12_portLine n) t 0 = _ ∧ (_ → uX12_portLine_324 (qX12_portLine n) t 0)
      unfold tX12_portLine_324 uX12_portLine_324
      rw [if_pos (rfl : (0 : Int32) = 0), if_pos f2]
      exact ⟨rfl, fun hh => ⟨fun _ _ => hh, fun hc => absurd rfl hc⟩⟩
    have two : ∀ (v : Int32) (t3 : SM), (vX12_takes t1 0 9 = 0 → v = 0 ∧ t3 = t2) → (¬ vX12_takes t1 0 9 = 0 → v = 1 ∧ t3 = pI t2 251 3 (gI t2 248 18)) → ST 1 (fun n => (lX12_portLine n).2 t 0) (fun n => (qX12_portLine n).2 t 0) (fun _ => (v, t3)) (fun _ => True) := by
      intro v t3 c1 c2
      refine ST_1 fun n => ?_
      show tX12_portLine_351 (lX12_portLine n) t 0 = _ ∧ (_ → uX12_portLine_351 (qX12_portLine n) t 0)
      unfold tX12_portLine_351 uX12_portLine_351
      rw [e20]
      dsimp only
      rw [x1, b1]
      refine ⟨?_, fun _ s1' h1 => by rw [h1, x1]; exact ⟨x2, b2, fun _ => by rw [if_pos (rfl : (0 : Int32) = 0)]; exact (show vp_in (zI 3) 34 by rw [z_in (by omega)]; omega)⟩⟩
      by_cases c : vX12_takes t1 0 9 = 0
      · rw [if_pos c, (c1 c).1, (c1 c).2]
      · rw [if_neg c, (c2 c).1, (c2 c).2]; rfl
    by_cases ok : nuOk k1 0 9
    · obtain ⟨a6, a7⟩ := a4 ok
      obtain ⟨b6, b7, b8⟩ := b4 ok
      have en : gI s1 3 5 = k1.2.2.2.2 := a7.2.2.2.2 ok.1
      have hz : ∃ r : Int, (0 ≤ r ∧ r ≤ 9) ∧ k1.2.2.2.2 = zI r := by
        obtain ⟨r, hr1, hr2⟩ := z_ex k1.2.2.2.2
        have h1 := ok.2.1
        have h2 := ok.2.2
        rw [hr2, zl0, z_lt hr1 (by omega)] at h1
        rw [hr2, show (9 : Int32) = zI 9 from rfl, z_le hr1 (by omega)] at h2
        exact ⟨r, by omega, hr2⟩
      obtain ⟨r, hr1, hr2⟩ := hz
      rw [hr2] at en b8
      obtain ⟨s2, hs2⟩ : ∃ s2, s2 = pI (pI s1 12 13 1) 12 9 (zI r) := ⟨_, rfl⟩
      obtain ⟨t3, ht3⟩ : ∃ t3, t3 = pI t2 251 3 (zI r) := ⟨_, rfl⟩
      have g2 : Fq (fun c i => c = 12 ∧ (i = 13 ∨ i = 9)) (fun _ _ => False) s1 s2 := by rw [hs2]; exact Fq_tr (Fq_p _ (by omega)) (Fq_p _ (by omega))
      have g3 : Fq (fun c i => c = 251 ∧ i = 3) (fun _ _ => False) t2 t3 := by rw [ht3]; exact Fq_p _ (by omega)
      have en' : gI (pI s1 12 13 1) 3 5 = zI r := by rw [gI_pI, if_neg (by omega)]; exact en
      obtain ⟨s3, d1, d2, d3, d4⟩ := y_next (TpY_fq (TpY_fq hp a3 (fun c i hc => by omega)) g2 (fun c i hc => by omega)) hN hE1 (by rw [g2.1 3 7 (by omega)]; exact a7.2.2.1)
      have hk2' := tok_S (N := N) bt k1.2.2.1
      obtain ⟨hE2a, hE2⟩ := tok_E bt hE1
      obtain ⟨k2, hk2d⟩ : ∃ k2, k2 = tokF N bt k1.2.2.1 := ⟨_, rfl⟩
      rw [← hk2d] at d4 b7 hk2' hE2a hE2
      have fy3 : Fq PyI PyL s s3 := Fq_tr fy1 (Fq_tr (Fq_mo g2 (fun c i hc => by omega) (fun _ _ h => h.elim)) (Fq_mo d3 (fun c i hc => by omega) (fun c i hc => Or.inl hc)))
      have fx3 : Fq PxI PxL t t3 := Fq_tr fx2 (Fq_mo g3 (fun c i hc => by omega) (fun _ _ h => h.elim))
      have big : Fq (fun c i => YtI c i ∨ (c = 12 ∧ (i = 13 ∨ i = 9))) TkL s s3 := Fq_tr (Fq_mo a3 (fun c i hc => Or.inl hc) (fun c i hc => hc)) (Fq_tr (Fq_mo g2 (fun c i hc => Or.inr hc) (fun _ _ h => h.elim)) (Fq_mo d3 (fun c i hc => by omega) (fun c i hc => hc)))
      have bix : Fq (fun c i => XtI c i ∨ (c = 251 ∧ i = 3) ∨ (c = 248 ∧ (i = 20 ∨ i = 21))) TxL t t3 := Fq_tr (Fq_mo gu (fun c i hc => Or.inr (Or.inr hc)) (fun _ _ h => h.elim)) (Fq_tr (Fq_mo x3 (fun c i hc => by omega) (fun c i hc => hc)) (Fq_tr (Fq_mo b3 (fun c i hc => Or.inl hc) (fun c i hc => hc)) (Fq_mo g3 (fun c i hc => by omega) (fun _ _ h => h.elim))))
      have x20 : gI t3 248 20 = gI u1 248 20 := by rw [g3.1 248 20 (by omega), b3.1 248 20 (by omega), x3.1 248 20 (by omega)]
      have x21 : gI t3 248 21 = gI u1 248 21 := by rw [g3.1 248 21 (by omega), b3.1 248 21 (by omega), x3.1 248 21 (by omega)]
      have hL : LiR s3 t3 := by
        refine ⟨⟨l, l1, ?_, ?_⟩, ⟨r, hr1, ?_, ?_⟩, ?_, ?_⟩
        · rw [big.1 12 8 (by omega)]; exact l2
        · rw [bix.1 251 2 (by omega)]; exact l3
        · rw [d3.1 12 9 (by omega), hs2, gI_pI, if_pos ⟨rfl, rfl⟩]
        · rw [ht3, gI_pI, if_pos ⟨rfl, rfl⟩]
        · rw [big.1 12 12 (by omega), x20, hu1, gI_pI, if_neg (by omega), gI_pI, if_pos ⟨rfl, rfl⟩]; exact fl1
        · exact Or.inr ⟨by rw [d3.1 12 13 (by omega), hs2, gI_pI, if_neg (by omega), gI_pI, if_pos ⟨rfl, rfl⟩], by rw [x21, hu1, gI_pI, if_pos ⟨rfl, rfl⟩]⟩
      have fin := ln_stop (s := s) (t := t) (E := k.2.2.1) hN d4 (TkX_fq b7 g3 (fun c i hc => by omega) (fun _ _ _ h => h)) (TkS_fq (TkS_fq hs1 b3 (fun c i hc => by omega)) g3 (fun c i hc => by omega)) hk2' ⟨by omega, hE2⟩ (BdR_fq hb big bix (fun c i hc => by omega) (fun i hi => by omega) (fun i hi => by omega) (fun i h1 h2 => by omega)) (KiR_fq hki big bix (fun c i hc => by omega) (fun i hi => by omega) (fun i hi => by omega) (fun i h1 h2 => by omega)) hL fy3 fx3 (by rw [d3.1 3 2 (by omega), g2.1 3 2 (by omega), aK a6]) (by rw [g3.1 248 15 (by omega), bK b6, x3.1 248 15 (by omega), gu.1 248 15 (by omega)])
      obtain ⟨E, R⟩ := ST_fu (ST_trans p1 (two 1 t3 (fun hc => absurd (b6.symm.trans hc) (by decide)) (fun _ => ⟨rfl, by rw [b8]; exact ht3⟩))) (by omega)
      refine ⟨mX9_isStop s3, t3, 1, ?_, ?_, by unfold mX12_portLine; rw [head, E], by unfold vX12_portLine; rw [head, E], headr R, ?_⟩
      · unfold mX6_readDotRoom
        rw [if_pos f1, a6, if_neg k10, a1]
        dsimp only
        rw [en', ← hs2]
        unfold mX9_takeStop
        rw [d1]
      · unfold rX6_readDotRoom
        refine fun _ => ⟨a2, fun _ s1' h1 => ?_⟩
        rw [h1, a1, en', ← hs2]
        exact d2
      · unfold vX6_readDotRoom
        rw [if_pos f1, a6, if_neg k10, a1]
        dsimp only
        rw [en', ← hs2]
        unfold vX9_takeStop
        rw [d1]
        exact fin
    · obtain ⟨a6, a7⟩ := a5 ok
      obtain ⟨b6, b7⟩ := b5 ok
      obtain ⟨E, R⟩ := ST_fu (ST_trans p1 (two 0 t2 (fun _ => ⟨rfl, rfl⟩) (fun hc => absurd b6 hc))) (by omega)
      refine ⟨s1, t2, 0, ?_, ?_, by unfold mX12_portLine; rw [head, E], by unfold vX12_portLine; rw [head, E], headr R, ?_⟩
      · unfold mX6_readDotRoom
        rw [if_pos f1, a6, if_pos rfl, a1]
      · unfold rX6_readDotRoom
        exact fun _ => ⟨a2, fun hc => absurd a6 hc⟩
      · unfold vX6_readDotRoom
        rw [if_pos f1, a6, if_pos rfl]
        exact ln_no a7 b7 fy1 fx2
  · -- told before
    obtain ⟨-, r2, r3⟩ := y_ref hy 3
    obtain ⟨-, q2, q3⟩ := x_bad hx 3
    have n1 : ¬ gI s 12 13 = 0 := by rw [f1]; decide
    have n2 : ¬ gI t 248 21 = 0 := by rw [f2]; decide
    obtain ⟨E, R⟩ := ST_fu (ST_1 (F := fun n => (lX12_portLine n).1 t 0) (C := fun n => (qX12_portLine n).1 t 0) (F' := fun _ => (0, mX12_bad t 3)) (C' := fun _ => True) (fun n => by
      show tX12_portLine_324 (lX12_portLine n) t 0 = _ ∧ (_ → uX12_portLine_324 (qX12_portLine n) t 0)
      unfold tX12_portLine_324 uX12_portLine_324
      rw [if_pos (rfl : (0 : Int32) = 0), if_neg n2]
      exact ⟨rfl, fun _ => ⟨fun _ hc => absurd hc n2, fun hc => absurd rfl hc⟩⟩)) (by omega)
    refine ⟨mX9_refuse s 3, mX12_bad t 3, 0, ?_, ?_, by unfold mX12_portLine; rw [head, E], by unfold vX12_portLine; rw [head, E], headr R, ?_⟩
    · unfold mX6_readDotRoom
      rw [if_neg n1]
    · unfold rX6_readDotRoom
      exact fun hc => absurd hc n1
    · unfold vX6_readDotRoom
      rw [if_neg n1]
      exact ln_no r2 q2 (Fq_mo r3 (fun c i hc => Or.inl hc) (fun c i hc => Or.inl hc)) (Fq_mo q3 (fun c i hc => Or.inl hc) (fun c i hc => Or.inl hc))
end
