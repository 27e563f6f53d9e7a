-- needs: 6l.lin
section
variable {s t : SM} {N : Nat} {bt : Nat → Int}
/-- a body's line: after its end both stand at the token k with one body more -/
theorem y_bodyEnd {s5 : SM} {nb : Nat} (e6 : gI s5 12 6 = zI (nb : Int)) : (lX6_readBody FU) s5 12 = (vX9_isStop (pI s5 12 6 (zI ((nb + 1 : Nat) : Int))), mX9_isStop (pI s5 12 6 (zI ((nb + 1 : Nat) : Int)))) ∧ (qX6_readBody FU) s5 12 := ST_fu (ST_1 (F := fun n => lX6_readBody n s5 12) (C := fun n => qX6_readBody n s5 12) (F' := fun _ => (vX9_isStop (pI s5 12 6 (zI ((nb + 1 : Nat) : Int))), mX9_isStop (pI s5 12 6 (zI ((nb + 1 : Nat) : Int))))) (C' := fun _ => True) (fun n => by
    show tX6_readBody_114 (lX6_readBody n) s5 12 = _ ∧ (_ → uX6_readBody_114 (qX6_readBody n) s5 12)
    have e : zI (nb : Int) + 1 = zI ((nb + 1 : Nat) : Int) := by rw [zl1, z_add]; congr 1
    unfold tX6_readBody_114 uX6_readBody_114
    rw [e6, e]
    exact ⟨rfl, fun _ => trivial⟩)) (by omega)
theorem ln_body (hp : TpY s N bt) (hN : N ≤ 640) (hs : TkS t N bt) (hr : ∀ i, i < 17 → gL t 254 i = WV i) {k : Tok} (hy : TkY s k) (hx : TkX t N k) (hk : 0 ≤ k.1 ∧ k.1 ≤ 4) (hE : k.2.2.1 ≤ N) {nb nk : Nat} (hb : BdR s t nb) (hki : KiR s t nk) (hl : LiR s t) (hw : k.1 = 1 ∧ k.2.2.2.1 = 1651467385) : ∃ s' t1 v1, mX6_readBody s 12 = s' ∧ rX6_readBody s 12 ∧ mX12_portLine t = t1 ∧ vX12_portLine t = v1 ∧ rX12_portLine t ∧ LnR N bt k.2.2.1 s s' (vX6_readBody s 12) t t1 v1 := by
  obtain ⟨hb1, hb2, hb3, hb4⟩ := hb
  obtain ⟨hk1, hk2, hk3, hk4⟩ := hki
  have kw : ¬ vX12_isWord t 1651467385 = 0 := by rw [x_says hx hk, bI_0]; exact fun hh => hh hw
  have c0 : ((0 : Int32)).toNatClampNeg = 0 := rfl
  by_cases c9 : nb < 9
  · have l9 : zI (nb : Int) < 9 := by rw [show (9 : Int32) = zI 9 from rfl, z_lt (by omega) (by omega)]; omega
    have l9' : ¬ zI (nb : Int) = 9 := by rw [show (9 : Int32) = zI 9 from rfl, z_eq (by omega) (by omega)]; omega
    have cnb : (zI (nb : Int)).toNatClampNeg = nb := by rw [z_cl (by omega)]; exact Int.toNat_natCast _
    have i15 : 15 + zI (nb : Int) = zI ((15 + nb : Nat) : Int) := by rw [show (15 : Int32) = zI 15 from rfl, z_add]; congr 1
    have i4 : 4 + zI (nb : Int) = zI ((4 + nb : Nat) : Int) := by rw [show (4 : Int32) = zI 4 from rfl, z_add]; congr 1
    have i13 : 13 + zI (nb : Int) = zI ((13 + nb : Nat) : Int) := by rw [show (13 : Int32) = zI 13 from rfl, z_add]; congr 1
    have c4 : (zI ((4 + nb : Nat) : Int)).toNatClampNeg = 4 + nb := by rw [z_cl (by omega)]; exact Int.toNat_natCast _
    have c13 : (zI ((13 + nb : Nat) : Int)).toNatClampNeg = 13 + nb := by rw [z_cl (by omega)]; exact Int.toNat_natCast _
    have v9 : vp_in (zI (nb : Int)) 9 := by rw [z_in (by omega)]; omega
    have v4 : vp_in (zI ((4 + nb : Nat) : Int)) 34 := by rw [z_in (by omega)]; omega
    have v13 : vp_in (zI ((13 + nb : Nat) : Int)) 34 := by rw [z_in (by omega)]; omega
    -- the name
    obtain ⟨s1, y1, y2, y3, y4, y5, y6, y0⟩ := y_takeNewName hp hN hE hy.2.2.1 (P := 12) (by omega) hb1 hk1 hb2 hk2
    obtain ⟨t1, x1, x2, x3, x4⟩ := x_next hs hN hE hx.2.2.1
    have hk1' := tok_S (N := N) bt k.2.2.1
    obtain ⟨hE1a, hE1⟩ := tok_E bt hE
    obtain ⟨k1, hk1d⟩ : ∃ k1, k1 = tokF N bt k.2.2.1 := ⟨_, rfl⟩
    rw [← hk1d] at y4 y5 y6 x4 hk1' hE1a hE1
    have hs1 := TkS_fq hs x3 (fun c i hc => by omega)
    obtain ⟨t2, u1, u2, u3, u4, u5, u6, u0⟩ := x_fresh x4 hk1' hs1 hN hE1 (fun i hi => by rw [x3.2.1 254 i (by omega)]; exact hr i hi) (a := 15 + nb) hb1 hk1 (by omega) (by rw [x3.1 251 0 (by omega)]; exact hb3) (by rw [x3.1 251 1 (by omega)]; exact hk3)
    have fx1 : Fq PxI PxL t t1 := Fq_mo x3 (fun c i hc => by omega) (fun c i hc => Or.inl hc)
    have fx2 : Fq PxI PxL t t2 := Fq_tr fx1 (Fq_mo u3 (fun c i hc => by omega) (fun c i hc => by omega))
    have fy1 : Fq PyI PyL s s1 := Fq_mo y3 (fun c i hc => Or.inl hc) (fun c i hc => Or.inl hc)
    have n1 : fnd (fun j => gL t1 253 (15 + j)) k1.2.2.2.1 nb 0 = fnd (gL s (12 + 1)) k1.2.2.2.1 nb 0 := fnd_c _ _ _ (fun j _ hj => by rw [x3.2.1 253 _ (by omega)]; exact ((hb4 j (by omega)).1).symm)
    have n2 : fnd (fun j => gL t1 253 (24 + j)) k1.2.2.2.1 nk 0 = fnd (gL s (12 + 4)) k1.2.2.2.1 nk 0 := fnd_c _ _ _ (fun j _ hj => by rw [x3.2.1 253 _ (by omega)]; exact ((hk4 j (by omega)).1).symm)
    rw [n1, n2] at u4 u6
    by_cases ok1 : isN k1 ∧ fnd (gL s (12 + 1)) k1.2.2.2.1 nb 0 = -1 ∧ fnd (gL s (12 + 4)) k1.2.2.2.1 nk 0 = -1
    · obtain ⟨ya, yb⟩ := y4 ok1.1 ok1.2.1 ok1.2.2
      obtain ⟨ua, ub, uc⟩ := u4 ok1.1 ok1.2.1 ok1.2.2
      -- the room
      obtain ⟨s1', hs1'⟩ : ∃ s1', s1' = pL s1 13 nb k1.2.2.2.1 := ⟨_, rfl⟩
      have g1 : Fq (fun _ _ => False) (fun c i => c = 13 ∧ i = nb) s1 s1' := by rw [hs1']; exact Fq_L s1 ⟨rfl, rfl⟩
      have hp1 : TpY s1' N bt := TpY_fq (TpY_fq hp y3 (fun c i hc => by omega)) g1 (fun _ _ _ h => h)
      obtain ⟨s2, a1, a2, a3, a4, a5, a0⟩ := y_takeNumber hp1 hN hE1 (by rw [g1.1 3 7 (fun h => h)]; exact yb.2.2.1) 1 99
      have hk2' := tok_S (N := N) bt k1.2.2.1
      obtain ⟨hE2a, hE2⟩ := tok_E bt hE1
      have hs2 := TkS_fq hs1 u3 (fun c i hc => by omega)
      obtain ⟨k2, hk2d⟩ : ∃ k2, k2 = tokF N bt k1.2.2.1 := ⟨_, rfl⟩
      rw [← hk2d] at a4 a5 ub hk2' hE2a hE2
      obtain ⟨t3, b1, b2, b3, b4, b5, b0⟩ := x_takes (bt := bt) ub hk2' hs2 hN hE2 1 99
      have fx3 : Fq PxI PxL t t3 := Fq_tr fx2 (Fq_mo b3 (fun c i hc => by omega) (fun c i hc => Or.inl hc))
      have fy2 : Fq PyI PyL s s2 := Fq_tr fy1 (Fq_tr (Fq_mo g1 (fun _ _ h => h.elim) (fun c i hc => by omega)) (Fq_mo a3 (fun c i hc => Or.inl hc) (fun c i hc => Or.inl hc)))
      have e61 : gI s1 12 6 = zI (nb : Int) := by rw [y3.1 12 6 (by omega)]; exact hb2
      have ew1 : gL s1 3 4 = k1.2.2.2.1 := yb.2.2.2.1 ok1.1.1
      have e62 : gI s2 12 6 = zI (nb : Int) := by rw [a3.1 12 6 (by omega), g1.1 12 6 (fun h => h)]; exact e61
      have k10 : ¬ (1 : Int32) = 0 := by decide
      have hs1q : pL s1 (12 + 1) nb k1.2.2.2.1 = s1' := hs1'.symm
      by_cases ok2 : nuOk k2 1 99
      · obtain ⟨a6, a7⟩ := a4 ok2
        obtain ⟨b6, b7, b8⟩ := b4 ok2
        have en2 : gI s2 3 5 = k2.2.2.2.2 := a7.2.2.2.2 ok2.1
        obtain ⟨s3, hs3⟩ : ∃ s3, s3 = pI (pI s2 14 nb k2.2.2.2.2) 15 nb (-1) := ⟨_, rfl⟩
        obtain ⟨t4, ht4⟩ : ∃ t4, t4 = pI (pI t3 251 (4 + nb) k2.2.2.2.2) 251 (13 + nb) (-1) := ⟨_, rfl⟩
        have g3 : Fq (fun c i => (c = 14 ∨ c = 15) ∧ i = nb) (fun _ _ => False) s2 s3 := by rw [hs3]; exact Fq_tr (Fq_p _ (by omega)) (Fq_p _ (by omega))
        have g4 : Fq (fun c i => c = 251 ∧ (i = 4 + nb ∨ i = 13 + nb)) (fun _ _ => False) t3 t4 := by rw [ht4]; exact Fq_tr (Fq_p _ (by omega)) (Fq_p _ (by omega))
        have e63 : gI (pI s2 14 nb k2.2.2.2.2) 12 6 = zI (nb : Int) := by rw [gI_pI, if_neg (by omega)]; exact e62
        have e63q : gI (pI s2 (12 + 2) nb k2.2.2.2.2) 12 6 = zI (nb : Int) := e63
        have hs3q : pI (pI s2 (12 + 2) nb k2.2.2.2.2) (12 + 3) nb (-1) = s3 := hs3.symm
        have hp3 : TpY s3 N bt := TpY_fq (TpY_fq hp1 a3 (fun c i hc => by omega)) g3 (fun c i hc => by omega)
        obtain ⟨s4, d1, d2, d3, d4⟩ := y_next hp3 hN hE2 (by rw [g3.1 3 7 (by omega)]; exact a7.2.2.1)
        have hk3' := tok_S (N := N) bt k2.2.2.1
        obtain ⟨hE3a, hE3⟩ := tok_E bt hE2
        obtain ⟨k3, hk3d⟩ : ∃ k3, k3 = tokF N bt k2.2.2.1 := ⟨_, rfl⟩
        rw [← hk3d] at d4 b7 hk3' hE3a hE3
        have hx4 : TkX t4 N k3 := TkX_fq b7 g4 (fun c i hc => by omega) (fun _ _ _ h => h)
        have hs4 : TkS t4 N bt := TkS_fq (TkS_fq hs2 b3 (fun c i hc => by omega)) g4 (fun c i hc => by omega)
        have ys := y_says d4 hk3' 7039342
        have xs := x_says hx4 hk3' 7039342
        have fx4 : Fq PxI PxL t t4 := Fq_tr fx3 (Fq_mo g4 (fun c i hc => by omega) (fun _ _ h => h.elim))
        have fy4 : Fq PyI PyL s s4 := Fq_tr fy2 (Fq_tr (Fq_mo g3 (fun c i hc => by omega) (fun _ _ h => h.elim)) (Fq_mo d3 (fun c i hc => by omega) (fun c i hc => Or.inl hc)))
        have e32 : gI s4 3 2 = gI s 3 2 := by rw [d3.1 3 2 (by omega), g3.1 3 2 (by omega), a0 a6, g1.1 3 2 (fun h => h), y0 ya]
        have e15 : gI t4 248 15 = gI t 248 15 := by rw [g4.1 248 15 (by omega), b0 b6, u0 ua, x3.1 248 15 (by omega)]
        have e64 : gI s4 12 6 = zI (nb : Int) := by rw [d3.1 12 6 (by omega), g3.1 12 6 (by omega)]; exact e62
        have e0t4 : gI t4 251 0 = zI (nb : Int) := by rw [g4.1 251 0 (by omega), b3.1 251 0 (by omega), u3.1 251 0 (by omega), x3.1 251 0 (by omega)]; exact hb3
        have hr4 : ∀ i, i < 17 → gL t4 254 i = WV i := fun i hi => by rw [g4.2.1 _ _ (fun h => h), b3.2.1 254 i (by omega), u3.2.1 254 i (by omega), x3.2.1 254 i (by omega)]; exact hr i hi
        -- what holds of the bodies behind, at any later pair of states
        have hz : ∃ r : Int, (1 ≤ r ∧ r ≤ 99) ∧ k2.2.2.2.2 = zI r := by
          obtain ⟨r, hr1, hr2⟩ := z_ex k2.2.2.2.2
          have h1 := ok2.2.1
          have h2 := ok2.2.2
          rw [hr2, zl1, z_lt hr1 (by omega)] at h1
          rw [hr2, show (99 : Int32) = zI 99 from rfl, z_le hr1 (by omega)] at h2
          exact ⟨r, by omega, hr2⟩
        obtain ⟨r, hr1, hr2⟩ := hz
        have more : ∀ (s5 t5 : SM) (A B A' B' : Nat → Nat → Prop) (x : Int), Fq A B s4 s5 → Fq A' B' t4 t5 → (∀ c i, (c = 14 ∨ (c = 15 ∧ i < nb) ∨ (c = 12 ∧ ¬ i = 6)) ∨ c = 17 ∨ c = 18 → ¬ A c i) → (∀ c i, c = 13 ∨ c = 16 → ¬ B c i) → (∀ c i, (c = 251 ∧ ¬ i = 0 ∧ ¬ i = 13 + nb) ∨ (c = 248 ∧ (i = 20 ∨ i = 21)) → ¬ A' c i) → (∀ i, ¬ B' 253 i) → gI s5 12 6 = zI ((nb + 1 : Nat) : Int) → gI t5 251 0 = zI ((nb + 1 : Nat) : Int) → (-1 ≤ x ∧ x < ((nb + 1 : Nat) : Int)) → gI s5 15 nb = zI x → gI t5 251 (13 + nb) = zI x → BdR s5 t5 (nb + 1) ∧ KiR s5 t5 nk ∧ LiR s5 t5 := by
          intro s5 t5 A B A' B' x f5 f5' hA hB hA' hB' q1 q2 q3 q4 q5
          have ys5 : ∀ c i, ((c = 14 ∧ i < nb) ∨ (c = 15 ∧ i < nb) ∨ (c = 12 ∧ ¬ i = 6)) ∨ c = 17 ∨ c = 18 → gI s5 c i = gI s c i := fun c i hc => by
            rw [f5.1 c i (hA c i (by omega)), d3.1 c i (by omega), g3.1 c i (by omega), a3.1 c i (by omega), g1.1 c i (fun h => h), y3.1 c i (by omega)]
          have yl5 : ∀ c i, (c = 13 ∧ ¬ i = nb) ∨ c = 16 → gL s5 c i = gL s c i := fun c i hc => by
            rw [f5.2.1 c i (hB c i (by omega)), d3.2.1 c i (by omega), g3.2.1 c i (fun h => h), a3.2.1 c i (by omega), g1.2.1 c i (by omega), y3.2.1 c i (by omega)]
          have xt5 : ∀ c i, (c = 251 ∧ ¬ i = 0 ∧ ¬ i = 13 + nb ∧ ¬ i = 4 + nb) ∨ (c = 248 ∧ (i = 20 ∨ i = 21)) → gI t5 c i = gI t c i := fun c i hc => by
            rw [f5'.1 c i (hA' c i (by omega)), g4.1 c i (by omega), b3.1 c i (by omega), u3.1 c i (by omega), x3.1 c i (by omega)]
          have xl5 : ∀ i, ¬ i = 15 + nb → gL t5 253 i = gL t 253 i := fun i hi => by
            rw [f5'.2.1 253 i (hB' i), g4.2.1 253 i (fun h => h), b3.2.1 253 i (by omega), u3.2.1 253 i (by omega), x3.2.1 253 i (by omega)]
          refine ⟨⟨by omega, q1, q2, fun b hbb => ?_⟩, ⟨hk1, ?_, ?_, fun j hj => ?_⟩, ?_⟩
          · by_cases hbn : b = nb
            · rw [hbn]
              refine ⟨?_, r, x, hr1, q3, ?_, ?_, q4, q5⟩
              · rw [f5.2.1 13 nb (hB _ _ (by omega)), d3.2.1 13 nb (by omega), g3.2.1 13 nb (fun h => h), a3.2.1 13 nb (by omega), hs1', gL_pL, if_pos ⟨rfl, rfl⟩, f5'.2.1 253 _ (hB' _), g4.2.1 253 _ (fun h => h), b3.2.1 253 _ (by omega), uc]
              · rw [f5.1 14 nb (hA _ _ (by omega)), d3.1 14 nb (by omega), hs3, gI_pI, if_neg (by omega), gI_pI, if_pos ⟨rfl, rfl⟩, hr2]
              · rw [f5'.1 251 _ (hA' _ _ (by omega)), ht4, gI_pI, if_neg (by omega), gI_pI, if_pos ⟨rfl, rfl⟩, hr2]
            · obtain ⟨w1, r', x', w2, w3, w4, w5, w6, w7⟩ := hb4 b (by omega)
              exact ⟨by rw [yl5 13 b (by omega), xl5 _ (by omega)]; exact w1, r', x', w2, by omega, by rw [ys5 14 b (by omega)]; exact w4, by rw [xt5 251 _ (by omega)]; exact w5, by rw [ys5 15 b (by omega)]; exact w6, by rw [xt5 251 _ (by omega)]; exact w7⟩
          · rw [ys5 12 7 (by omega)]; exact hk2
          · rw [xt5 251 1 (by omega)]; exact hk3
          · obtain ⟨w1, r', x', w2, w3, w4, w5, w6, w7⟩ := hk4 j hj
            exact ⟨by rw [yl5 16 j (by omega), xl5 _ (by omega)]; exact w1, r', x', w2, w3, by rw [ys5 17 j (by omega)]; exact w4, by rw [xt5 251 _ (by omega)]; exact w5, by rw [ys5 18 j (by omega)]; exact w6, by rw [xt5 251 _ (by omega)]; exact w7⟩
          · obtain ⟨⟨l, l1, l2, l3⟩, ⟨dd, m1, m2, m3⟩, fl1, fl2⟩ := hl
            exact ⟨⟨l, l1, by rw [ys5 12 8 (by omega)]; exact l2, by rw [xt5 251 2 (by omega)]; exact l3⟩, ⟨dd, m1, by rw [ys5 12 9 (by omega)]; exact m2, by rw [xt5 251 3 (by omega)]; exact m3⟩, by rw [ys5 12 12 (by omega), xt5 248 20 (by omega)]; exact fl1, by rw [ys5 12 13 (by omega), xt5 248 21 (by omega)]; exact fl2⟩
        have eplus : zI (nb : Int) + 1 = zI ((nb + 1 : Nat) : Int) := by rw [zl1, z_add]; congr 1
        by_cases okk : k3.1 = 1 ∧ k3.2.2.2.1 = 7039342
        · have ky : ¬ vX9_says s4 7039342 = 0 := by rw [ys, bI_0]; exact fun hh => hh okk
          have kx : ¬ vX12_isWord t4 7039342 = 0 := by rw [xs, bI_0]; exact fun hh => hh okk
          have hp4 : TpY s4 N bt := TpY_fq hp3 d3 (fun c i hc => by omega)
          obtain ⟨s5, f1, f2, f3, f4, f5, f6, f0⟩ := y_takeBody hp4 hN hE3 d4.2.2.1 (P := 12) (by omega) hb1 e64
          obtain ⟨t5, q1, q2, q3, q4⟩ := x_next hs4 hN hE3 hx4.2.2.1
          have hk4' := tok_S (N := N) bt k3.2.2.1
          obtain ⟨hE4a, hE4⟩ := tok_E bt hE3
          obtain ⟨k4, hk4d⟩ : ∃ k4, k4 = tokF N bt k3.2.2.1 := ⟨_, rfl⟩
          rw [← hk4d] at f4 f5 f6 q4 hk4' hE4a hE4
          have hs5 := TkS_fq hs4 q3 (fun c i hc => by omega)
          obtain ⟨t6, w1, w2, w3, w4, w5, w6, w0⟩ := x_takesName (bt := bt) q4 hk4' hs5 hN hE4 (fun i hi => by rw [q3.2.1 254 i (by omega)]; exact hr4 i hi) (a := 15) (n := nb) (by omega)
          have w0 : vX12_takesName t5 15 (zI (nb : Int)) = 1 → gI t6 248 15 = gI t5 248 15 := w0
          have w1 : mX12_takesName t5 15 (zI (nb : Int)) = t6 := w1
          have w2 : rX12_takesName t5 15 (zI (nb : Int)) := w2
          have nn : fnd (fun j => gL t5 253 (15 + j)) k4.2.2.2.1 nb 0 = fnd (gL s4 (12 + 1)) k4.2.2.2.1 nb 0 := fnd_c _ _ _ (fun j _ hj => by
            have h1 : gL s4 (12 + 1) j = gL s 13 j := by
              show gL s4 13 j = _
              rw [d3.2.1 13 j (by omega), g3.2.1 13 j (fun h => h), a3.2.1 13 j (by omega), g1.2.1 13 j (by omega), y3.2.1 13 j (by omega)]
            rw [h1, (hb4 j (by omega)).1, q3.2.1 253 _ (by omega), g4.2.1 253 _ (fun h => h), b3.2.1 253 _ (by omega), u3.2.1 253 _ (by omega), x3.2.1 253 _ (by omega)])
          rw [nn] at w4 w6
          have fy5 : Fq PyI PyL s s5 := Fq_tr fy4 (Fq_mo f3 (fun c i hc => Or.inl hc) (fun c i hc => Or.inl hc))
          have fx6 : Fq PxI PxL t t6 := Fq_tr fx4 (Fq_tr (Fq_mo q3 (fun c i hc => by omega) (fun c i hc => Or.inl hc)) (Fq_mo w3 (fun c i hc => by omega) (fun c i hc => Or.inl hc)))
          by_cases ok3 : isN k4 ∧ ¬ fnd (gL s4 (12 + 1)) k4.2.2.2.1 nb 0 = -1
          · obtain ⟨f7, f8, f9⟩ := f4 ok3.1 ok3.2
            obtain ⟨w7, w8, w9⟩ := w4 ok3.1 ok3.2
            have w7 : vX12_takesName t5 15 (zI (nb : Int)) = 1 := w7
            obtain ⟨x, hxd⟩ : ∃ x, x = fnd (gL s4 (12 + 1)) k4.2.2.2.1 nb 0 := ⟨_, rfl⟩
            have hxr : 0 ≤ x ∧ x < nb := by
              have h2 := ok3.2
              rcases fnd_b (gL s4 (12 + 1)) k4.2.2.2.1 nb 0 with h | h
              · exact absurd h h2
              · omega
            rw [← hxd] at f9 w9
            obtain ⟨s6, hs6⟩ : ∃ s6, s6 = pI s5 15 nb (zI x) := ⟨_, rfl⟩
            have g6 : Fq (fun c i => c = 15 ∧ i = nb) (fun _ _ => False) s5 s6 := by rw [hs6]; exact Fq_p _ ⟨rfl, rfl⟩
            have hp6 : TpY s6 N bt := TpY_fq (TpY_fq hp4 f3 (fun c i hc => by omega)) g6 (fun c i hc => by omega)
            obtain ⟨s7, v1, v2, v3, v5⟩ := y_next hp6 hN hE4 (by rw [g6.1 3 7 (by omega)]; exact f8.2.2.1)
            have hk5' := tok_S (N := N) bt k4.2.2.1
            obtain ⟨hE5a, hE5⟩ := tok_E bt hE4
            obtain ⟨k5, hk5d⟩ : ∃ k5, k5 = tokF N bt k4.2.2.1 := ⟨_, rfl⟩
            rw [← hk5d] at v5 w8 hk5' hE5a hE5
            have e67 : gI s7 12 6 = zI (nb : Int) := by rw [v3.1 12 6 (by omega), g6.1 12 6 (by omega), f3.1 12 6 (by omega)]; exact e64
            have e65 : gI s5 12 6 = zI (nb : Int) := by rw [f3.1 12 6 (by omega)]; exact e64
            obtain ⟨z1, z2⟩ := y_bodyEnd e67
            obtain ⟨s8, hs8⟩ : ∃ s8, s8 = pI s7 12 6 (zI ((nb + 1 : Nat) : Int)) := ⟨_, rfl⟩
            rw [← hs8] at z1
            obtain ⟨t7, ht7⟩ : ∃ t7, t7 = pI t6 251 (13 + nb) (zI x) := ⟨_, rfl⟩
            obtain ⟨t8, ht8⟩ : ∃ t8, t8 = pI t7 251 0 (zI ((nb + 1 : Nat) : Int)) := ⟨_, rfl⟩
            have g8 : Fq (fun c i => c = 12 ∧ i = 6) (fun _ _ => False) s7 s8 := by rw [hs8]; exact Fq_p _ ⟨rfl, rfl⟩
            have g7 : Fq (fun c i => c = 251 ∧ (i = 0 ∨ i = 13 + nb)) (fun _ _ => False) t6 t8 := by rw [ht8, ht7]; exact Fq_tr (Fq_p _ (by omega)) (Fq_p _ (by omega))
            have e07 : gI t7 251 0 = zI (nb : Int) := by rw [ht7, gI_pI, if_neg (by omega), w3.1 251 0 (by omega), q3.1 251 0 (by omega)]; exact e0t4
            have big : Fq (fun c i => YtI c i ∨ (c = 15 ∧ i = nb) ∨ (c = 12 ∧ i = 6)) TkL s4 s8 := Fq_tr (Fq_mo f3 (fun c i hc => Or.inl hc) (fun c i hc => hc)) (Fq_tr (Fq_mo g6 (fun c i hc => by omega) (fun _ _ h => h.elim)) (Fq_tr (Fq_mo v3 (fun c i hc => by omega) (fun c i hc => hc)) (Fq_mo g8 (fun c i hc => by omega) (fun _ _ h => h.elim))))
            have bix : Fq (fun c i => XtI c i ∨ (c = 251 ∧ (i = 0 ∨ i = 13 + nb))) TxL t4 t8 := Fq_tr (Fq_mo q3 (fun c i hc => by omega) (fun c i hc => hc)) (Fq_tr (Fq_mo w3 (fun c i hc => Or.inl hc) (fun c i hc => hc)) (Fq_mo g7 (fun c i hc => Or.inr hc) (fun _ _ h => h.elim)))
            obtain ⟨m1, m2, m3⟩ := more s8 t8 _ _ _ _ x big bix (fun c i hc => by omega) (fun c i hc => by omega) (fun c i hc => by omega) (fun i => by omega) (by rw [hs8, gI_pI, if_pos ⟨rfl, rfl⟩]) (by rw [ht8, gI_pI, if_pos ⟨rfl, rfl⟩]) (by omega) (by rw [g8.1 15 nb (by omega), v3.1 15 nb (by omega), hs6, gI_pI, if_pos ⟨rfl, rfl⟩]) (by rw [ht8, gI_pI, if_neg (by omega), ht7, gI_pI, if_pos ⟨rfl, rfl⟩])
            have fin := ln_stop (s := s) (t := t) (E := k.2.2.1) hN (TkY_fq v5 g8 (fun c i hc => by omega) (fun _ _ _ h => h)) (TkX_fq w8 g7 (fun c i hc => by omega) (fun _ _ _ h => h)) (TkS_fq (TkS_fq hs5 w3 (fun c i hc => by omega)) g7 (fun c i hc => by omega)) hk5' ⟨by omega, hE5⟩ m1 m2 m3 (Fq_tr fy4 (Fq_mo big (fun c i hc => by omega) (fun c i hc => Or.inl hc))) (Fq_tr fx4 (Fq_mo bix (fun c i hc => by omega) (fun c i hc => Or.inl hc))) (by rw [g8.1 3 2 (by omega), v3.1 3 2 (by omega), g6.1 3 2 (by omega), f0 f7]; exact e32) (by rw [g7.1 248 15 (by omega), w0 w7, q3.1 248 15 (by omega)]; exact e15)
            have hs6q : pI s5 (12 + 3) nb (zI x) = s6 := hs6.symm
            have EY : fX6_readBody s 12 = (vX9_isStop s8, mX9_isStop s8) := by
              unfold fX6_readBody
              rw [hb2, if_pos l9, y1, ya, if_neg k10, e61, cnb, ew1, hs1q]
              dsimp only
              rw [a6, if_neg k10, a1, e62, cnb, en2, e63q, cnb, hs3q, d1, if_neg ky, f7, if_neg k10, f1, e65, cnb, f9, hs6q, v1, z1]
            have RY : rX6_readBody s 12 := by
              unfold rX6_readBody
              rw [y1, e61, cnb, ew1, hs1q, a1]
              refine fun _ => ⟨y2, fun _ => ⟨v9, a2, fun s2' h2 => ?_⟩⟩
              rw [h2, e62, cnb, en2, e63q, cnb, hs3q]
              refine fun _ => ⟨v9, v9, fun s3' h3 => ?_⟩
              rw [h3, d1, f1, e65, cnb, f9, hs6q]
              exact ⟨d2, fun hc => absurd hc ky, fun _ => ⟨f2, fun _ => ⟨v9, fun s7' h7 => by rw [h7, v1]; exact ⟨v2, z2⟩⟩⟩⟩
            have EX : fX12_portLine t = (1, t8) := by
              unfold fX12_portLine
              rw [if_neg kw, c0, hb3, if_neg l9', x1, i15, u1, ua, if_neg k10]
              dsimp only
              rw [b6, if_neg k10, b1, b8, i4, c4, i13, c13, ← ht4, if_neg kx, q1, w7, if_neg k10, w1, w9, ← ht7, e07, eplus, ← ht8]
            have RX : rX12_portLine t := by
              unfold rX12_portLine
              refine ⟨fun hc => absurd hc kw, fun _ => ?_⟩
              rw [c0, hb3, x1, i15, u1, i4, i13, b1]
              refine fun _ => ⟨x2, u2, fun _ => ⟨b2, fun s50 h50 _ => ⟨v4, v13, fun s53 h53 hc => ?_⟩⟩⟩
              rw [h53, h50, b8, c4, c13, ← ht4, q1]
              exact ⟨q2, w2, fun _ => v13⟩
            exact ⟨mX9_isStop s8, t8, 1, by unfold mX6_readBody; rw [EY], RY, by unfold mX12_portLine; rw [EX], by unfold vX12_portLine; rw [EX], RX, by unfold vX6_readBody; rw [EY]; exact fin⟩
          · have hf : vX9_takeBody s4 12 = 0 ∧ vX12_takesName t5 15 (zI (nb : Int)) = 0 ∧ ∃ f A, FtY s5 f A ∧ FtX t6 f A := by
              by_cases cn1 : isN k4
              · have cn2 : fnd (gL s4 (12 + 1)) k4.2.2.2.1 nb 0 = -1 := Classical.byContradiction fun hc => ok3 ⟨cn1, hc⟩
                exact ⟨(f6 cn1 cn2).1, (w6 cn1 cn2).1, _, _, (f6 cn1 cn2).2, (w6 cn1 cn2).2⟩
              · exact ⟨(f5 cn1).1, (w5 cn1).1, _, _, (f5 cn1).2, (w5 cn1).2⟩
            obtain ⟨f7, w7, ff, A, f8, w8⟩ := hf
            have k0 : ¬ ¬ (0 : Int32) = 0 := fun hc => hc rfl
            have EY : fX6_readBody s 12 = (0, s5) := by
              unfold fX6_readBody
              rw [hb2, if_pos l9, y1, ya, if_neg k10, e61, cnb, ew1, hs1q]
              dsimp only
              rw [a6, if_neg k10, a1, e62, cnb, en2, e63q, cnb, hs3q, d1, if_neg ky, f7, if_pos rfl, f1]
            have RY : rX6_readBody s 12 := by
              unfold rX6_readBody
              rw [y1, e61, cnb, ew1, hs1q, a1]
              refine fun _ => ⟨y2, fun _ => ⟨v9, a2, fun s2' h2 => ?_⟩⟩
              rw [h2, e62, cnb, en2, e63q, cnb, hs3q]
              refine fun _ => ⟨v9, v9, fun s3' h3 => ?_⟩
              rw [h3, d1, f7]
              exact ⟨d2, fun hc => absurd hc ky, fun _ => ⟨f2, fun hc => absurd rfl hc⟩⟩
            have EX : fX12_portLine t = (0, t6) := by
              unfold fX12_portLine
              rw [if_neg kw, c0, hb3, if_neg l9', x1, i15, u1, ua, if_neg k10]
              dsimp only
              rw [b6, if_neg k10, b1, b8, i4, c4, i13, c13, ← ht4, if_neg kx, q1, w7, if_pos rfl, w1]
            have RX : rX12_portLine t := by
              unfold rX12_portLine
              refine ⟨fun hc => absurd hc kw, fun _ => ?_⟩
              rw [c0, hb3, x1, i15, u1, i4, i13, b1]
              refine fun _ => ⟨x2, u2, fun _ => ⟨b2, fun s50 h50 _ => ⟨v4, v13, fun s53 h53 hc => ?_⟩⟩⟩
              rw [h53, h50, b8, c4, c13, ← ht4, q1]
              exact ⟨q2, w2, fun _ => v13⟩
            exact ⟨s5, t6, 0, by unfold mX6_readBody; rw [EY], RY, by unfold mX12_portLine; rw [EX], by unfold vX12_portLine; rw [EX], RX, by unfold vX6_readBody; rw [EY]; exact ln_no f8 w8 fy5 fx6⟩
        · have ky : vX9_says s4 7039342 = 0 := by rw [ys, bI_0]; exact okk
          have kx : vX12_isWord t4 7039342 = 0 := by rw [xs, bI_0]; exact okk
          obtain ⟨z1, z2⟩ := y_bodyEnd e64
          obtain ⟨s5, hs5⟩ : ∃ s5, s5 = pI s4 12 6 (zI ((nb + 1 : Nat) : Int)) := ⟨_, rfl⟩
          obtain ⟨t5, ht5⟩ : ∃ t5, t5 = pI t4 251 0 (zI ((nb + 1 : Nat) : Int)) := ⟨_, rfl⟩
          have g5 : Fq (fun c i => c = 12 ∧ i = 6) (fun _ _ => False) s4 s5 := by rw [hs5]; exact Fq_p _ ⟨rfl, rfl⟩
          have g6 : Fq (fun c i => c = 251 ∧ i = 0) (fun _ _ => False) t4 t5 := by rw [ht5]; exact Fq_p _ ⟨rfl, rfl⟩
          rw [← hs5] at z1
          obtain ⟨m1, m2, m3⟩ := more s5 t5 _ _ _ _ (-1) g5 g6 (fun c i hc => by omega) (fun _ _ _ h => h) (fun c i hc => by omega) (fun _ h => h) (by rw [hs5, gI_pI, if_pos ⟨rfl, rfl⟩]) (by rw [ht5, gI_pI, if_pos ⟨rfl, rfl⟩]) (by omega) (by rw [g5.1 15 nb (by omega), d3.1 15 nb (by omega), hs3, gI_pI, if_pos ⟨rfl, rfl⟩]; rfl) (by rw [g6.1 251 _ (by omega), ht4, gI_pI, if_pos ⟨rfl, rfl⟩]; rfl)
          have fin := ln_stop (s := s) (t := t) (E := k.2.2.1) hN (TkY_fq d4 g5 (fun c i hc => by omega) (fun _ _ _ h => h)) (TkX_fq hx4 g6 (fun c i hc => by omega) (fun _ _ _ h => h)) (TkS_fq hs4 g6 (fun c i hc => by omega)) hk3' ⟨by omega, hE3⟩ m1 m2 m3 (Fq_tr fy4 (Fq_mo g5 (fun c i hc => by omega) (fun _ _ h => h.elim))) (Fq_tr fx4 (Fq_mo g6 (fun c i hc => by omega) (fun _ _ h => h.elim))) (by rw [g5.1 3 2 (by omega)]; exact e32) (by rw [g6.1 248 15 (by omega)]; exact e15)
          have EY : fX6_readBody s 12 = (vX9_isStop s5, mX9_isStop s5) := by
            unfold fX6_readBody
            rw [hb2, if_pos l9, y1, ya, if_neg k10, e61, cnb, ew1, hs1q]
            dsimp only
            rw [a6, if_neg k10, a1, e62, cnb, en2, e63q, cnb, hs3q, d1, ky, if_pos rfl, z1]
          have RY : rX6_readBody s 12 := by
            unfold rX6_readBody
            rw [y1, e61, cnb, ew1, hs1q, a1]
            refine fun _ => ⟨y2, fun _ => ⟨v9, a2, fun s2' h2 => ?_⟩⟩
            rw [h2, e62, cnb, en2, e63q, cnb, hs3q]
            refine fun _ => ⟨v9, v9, fun s3' h3 => ?_⟩
            rw [h3, d1]
            exact ⟨d2, fun _ => z2, fun hc => absurd ky hc⟩
          have EX : fX12_portLine t = (1, t5) := by
            unfold fX12_portLine
            rw [if_neg kw, c0, hb3, if_neg l9', x1, i15, u1, ua, if_neg k10]
            dsimp only
            rw [b6, if_neg k10, b1, b8, i4, c4, i13, c13, ← ht4, kx, if_pos rfl, e0t4, eplus, ← ht5]
          have RX : rX12_portLine t := by
            unfold rX12_portLine
            refine ⟨fun hc => absurd hc kw, fun _ => ?_⟩
            rw [c0, hb3, x1, i15, u1, i4, i13, b1]
            refine fun _ => ⟨x2, u2, fun _ => ⟨b2, fun s50 h50 _ => ⟨v4, v13, fun s53 h53 hc => ?_⟩⟩⟩
            rw [h53, h50, b8, c4, c13, ← ht4] at hc
            exact absurd kx hc
          exact ⟨mX9_isStop s5, t5, 1, by unfold mX6_readBody; rw [EY], RY, by unfold mX12_portLine; rw [EX], by unfold vX12_portLine; rw [EX], RX, by unfold vX6_readBody; rw [EY]; exact fin⟩
      · obtain ⟨a6, a7⟩ := a5 ok2
        obtain ⟨b6, b7⟩ := b5 ok2
        have EY : fX6_readBody s 12 = (0, s2) := by
          unfold fX6_readBody
          rw [hb2, if_pos l9, y1, ya, if_neg k10, e61, cnb, ew1, hs1q]
          dsimp only
          rw [a6, if_pos rfl, a1]
        have RY : rX6_readBody s 12 := by
          unfold rX6_readBody
          rw [y1, e61, cnb, ew1, hs1q, a1]
          refine fun _ => ⟨y2, fun _ => ⟨v9, a2, fun s2' h2 hc => absurd a6 hc⟩⟩
        have EX : fX12_portLine t = (0, t3) := by
          unfold fX12_portLine
          rw [if_neg kw, c0, hb3, if_neg l9', x1, i15, u1, ua, if_neg k10]
          dsimp only
          rw [b6, if_pos rfl, b1]
        have RX : rX12_portLine t := by
          unfold rX12_portLine
          refine ⟨fun hc => absurd hc kw, fun _ => ?_⟩
          rw [c0, hb3, x1, i15, u1, b6]
          exact fun _ => ⟨x2, u2, fun _ => ⟨b2, fun s50 h50 hc => absurd rfl hc⟩⟩
        exact ⟨s2, t3, 0, by unfold mX6_readBody; rw [EY], RY, by unfold mX12_portLine; rw [EX], by unfold vX12_portLine; rw [EX], RX, by unfold vX6_readBody; rw [EY]; exact ln_no a7 b7 fy2 fx3⟩
    · have hf : vX9_takeNewName s 12 = 0 ∧ vX12_fresh t1 (zI ((15 + nb : Nat) : Int)) = 0 ∧ ∃ f A, FtY s1 f A ∧ FtX t2 f A := by
        by_cases cn1 : isN k1
        · have cn2 : ¬ (fnd (gL s (12 + 1)) k1.2.2.2.1 nb 0 = -1 ∧ fnd (gL s (12 + 4)) k1.2.2.2.1 nk 0 = -1) := fun hc => ok1 ⟨cn1, hc⟩
          exact ⟨(y6 cn1 cn2).1, (u6 cn1 cn2).1, _, _, (y6 cn1 cn2).2, (u6 cn1 cn2).2⟩
        · exact ⟨(y5 cn1).1, (u5 cn1).1, _, _, (y5 cn1).2, (u5 cn1).2⟩
      obtain ⟨f7, w7, ff, A, f8, w8⟩ := hf
      have EY : fX6_readBody s 12 = (0, s1) := by
        unfold fX6_readBody
        rw [hb2, if_pos l9, y1, f7, if_pos rfl]
      have RY : rX6_readBody s 12 := by
        unfold rX6_readBody
        exact fun _ => ⟨y2, fun hc => absurd f7 hc⟩
      have EX : fX12_portLine t = (0, t2) := by
        unfold fX12_portLine
        rw [if_neg kw, c0, hb3, if_neg l9', x1, i15, u1, w7, if_pos rfl]
      have RX : rX12_portLine t := by
        unfold rX12_portLine
        refine ⟨fun hc => absurd hc kw, fun _ => ?_⟩
        rw [c0, hb3, x1, i15, w7]
        exact fun _ => ⟨x2, u2, fun hc => absurd rfl hc⟩
      exact ⟨s1, t2, 0, by unfold mX6_readBody; rw [EY], RY, by unfold mX12_portLine; rw [EX], by unfold vX12_portLine; rw [EX], RX, by unfold vX6_readBody; rw [EY]; exact ln_no f8 w8 fy1 fx2⟩
  · have l9 : ¬ zI (nb : Int) < 9 := by rw [show (9 : Int32) = zI 9 from rfl, z_lt (by omega) (by omega)]; omega
    have l9' : zI (nb : Int) = 9 := by rw [show (9 : Int32) = zI 9 from rfl, z_eq (by omega) (by omega)]; omega
    obtain ⟨-, r2, r3⟩ := y_ref hy 4
    obtain ⟨-, q2, q3⟩ := x_bad hx 4
    have EY : fX6_readBody s 12 = (0, mX9_refuse s 4) := by
      unfold fX6_readBody
      rw [hb2, if_neg l9]; rfl
    have RY : rX6_readBody s 12 := by
      unfold rX6_readBody
      rw [hb2]
      exact fun hc => absurd hc l9
    have EX : fX12_portLine t = (0, mX12_bad t 4) := by
      unfold fX12_portLine
      rw [if_neg kw, c0, hb3, if_pos l9']; rfl
    have RX : rX12_portLine t := by
      unfold rX12_portLine
      refine ⟨fun hc => absurd hc kw, fun _ => ?_⟩
      rw [c0, hb3]
      exact fun hc => absurd l9' hc
    exact ⟨mX9_refuse s 4, mX12_bad t 4, 0, by unfold mX6_readBody; rw [EY], RY, by unfold mX12_portLine; rw [EX], by unfold vX12_portLine; rw [EX], RX, by unfold vX6_readBody; rw [EY]; exact ln_no r2 q2 (Fq_mo r3 (fun c i hc => Or.inl hc) (fun c i hc => Or.inl hc)) (Fq_mo q3 (fun c i hc => Or.inl hc) (fun c i hc => Or.inl hc))⟩
end
