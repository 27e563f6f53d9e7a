-- needs: 6n.kin
section
variable {s t : SM} {N : Nat} {bt : Nat → Int}
theorem ln_kind (hp : TpY s N bt) (hN : N ≤ 640) (hs : TkS t N bt) (hr : ∀ i, i < 17 → gL t 254 i = WV i) {k : Tok} (hy : TkY s k) (hx : TkX t N k) (hk : 0 ≤ k.1 ∧ k.1 ≤ 4) (hE : k.2.2.1 ≤ N) {nb nk : Nat} (hb : BdR s t nb) (hki : KiR s t nk) (hl : LiR s t) (hw : k.1 = 1 ∧ k.2.2.2.1 = 1802071652) : ∃ s' t1 v1, mX6_readKind s 12 = s' ∧ rX6_readKind s 12 ∧ mX12_portLine t = t1 ∧ vX12_portLine t = v1 ∧ rX12_portLine t ∧ LnR N bt k.2.2.1 s s' (vX6_readKind s 12) t t1 v1 := by
  obtain ⟨hb1, hb2, hb3, hb4⟩ := hb
  obtain ⟨hk1, hk2, hk3, hk4⟩ := hki
  have kb : vX12_isWord t 1651467385 = 0 := by rw [x_says hx hk, bI_0]; exact fun hh => absurd (hh.2.symm.trans hw.2) (by decide)
  have kw : ¬ vX12_isWord t 1802071652 = 0 := by rw [x_says hx hk, bI_0]; exact fun hh => hh hw
  have c1 : ((1 : Int32)).toNatClampNeg = 1 := rfl
  by_cases c6 : nk < 6
  · have l6 : zI (nk : Int) < 6 := by rw [show (6 : Int32) = zI 6 from rfl, z_lt (by omega) (by omega)]; omega
    have l6' : ¬ zI (nk : Int) = 6 := by rw [show (6 : Int32) = zI 6 from rfl, z_eq (by omega) (by omega)]; omega
    have cnk : (zI (nk : Int)).toNatClampNeg = nk := by rw [z_cl (by omega)]; exact Int.toNat_natCast _
    have i24 : 24 + zI (nk : Int) = zI ((24 + nk : Nat) : Int) := by rw [show (24 : Int32) = zI 24 from rfl, z_add]; congr 1
    have i22 : 22 + zI (nk : Int) = zI ((22 + nk : Nat) : Int) := by rw [show (22 : Int32) = zI 22 from rfl, z_add]; congr 1
    have i28 : 28 + zI (nk : Int) = zI ((28 + nk : Nat) : Int) := by rw [show (28 : Int32) = zI 28 from rfl, z_add]; congr 1
    have c22 : (zI ((22 + nk : Nat) : Int)).toNatClampNeg = 22 + nk := by rw [z_cl (by omega)]; exact Int.toNat_natCast _
    have c28 : (zI ((28 + nk : Nat) : Int)).toNatClampNeg = 28 + nk := by rw [z_cl (by omega)]; exact Int.toNat_natCast _
    have v6 : vp_in (zI (nk : Int)) 6 := by rw [z_in (by omega)]; omega
    have v22 : vp_in (zI ((22 + nk : Nat) : Int)) 34 := by rw [z_in (by omega)]; omega
    have v28 : vp_in (zI ((28 + nk : Nat) : Int)) 34 := by rw [z_in (by omega)]; omega
    -- the name
    obtain ⟨s1, y1, y2, y3, y4, y5, y6, yK⟩ := y_takeNewName hp hN hE hy.2.2.1 (P := 12) (by omega) hb1 hk1 hb2 hk2
    obtain ⟨t1, x1, x2, x3, x4⟩ := x_next hs hN hE hx.2.2.1
    have hk1' := tok_S (N := N) bt k.2.2.1
    obtain ⟨hE1a, hE1⟩ := tok_E bt hE
    obtain ⟨k1, hk1d⟩ : ∃ k1, k1 = tokF N bt k.2.2.1 := ⟨_, rfl⟩
    rw [← hk1d] at y4 y5 y6 x4 hk1' hE1a hE1
    have hs1 := TkS_fq hs x3 (fun c i hc => by omega)
    obtain ⟨t2, u1, u2, u3, u4, u5, u6, uK⟩ := x_fresh x4 hk1' hs1 hN hE1 (fun i hi => by rw [x3.2.1 254 i (by omega)]; exact hr i hi) (a := 24 + nk) hb1 hk1 (by omega) (by rw [x3.1 251 0 (by omega)]; exact hb3) (by rw [x3.1 251 1 (by omega)]; exact hk3)
    have fx1 : Fq PxI PxL t t1 := Fq_mo x3 (fun c i hc => by omega) (fun c i hc => Or.inl hc)
    have fx2 : Fq PxI PxL t t2 := Fq_tr fx1 (Fq_mo u3 (fun c i hc => by omega) (fun c i hc => by omega))
    have fy1 : Fq PyI PyL s s1 := Fq_mo y3 (fun c i hc => Or.inl hc) (fun c i hc => Or.inl hc)
    have n1 : fnd (fun j => gL t1 253 (15 + j)) k1.2.2.2.1 nb 0 = fnd (gL s (12 + 1)) k1.2.2.2.1 nb 0 := fnd_c _ _ _ (fun j _ hj => by rw [x3.2.1 253 _ (by omega)]; exact ((hb4 j (by omega)).1).symm)
    have n2 : fnd (fun j => gL t1 253 (24 + j)) k1.2.2.2.1 nk 0 = fnd (gL s (12 + 4)) k1.2.2.2.1 nk 0 := fnd_c _ _ _ (fun j _ hj => by rw [x3.2.1 253 _ (by omega)]; exact ((hk4 j (by omega)).1).symm)
    rw [n1, n2] at u4 u6
    by_cases ok1 : isN k1 ∧ fnd (gL s (12 + 1)) k1.2.2.2.1 nb 0 = -1 ∧ fnd (gL s (12 + 4)) k1.2.2.2.1 nk 0 = -1
    · obtain ⟨ya, yb⟩ := y4 ok1.1 ok1.2.1 ok1.2.2
      obtain ⟨ua, ub, uc⟩ := u4 ok1.1 ok1.2.1 ok1.2.2
      -- the size
      obtain ⟨s1', hs1'⟩ : ∃ s1', s1' = pL s1 16 nk k1.2.2.2.1 := ⟨_, rfl⟩
      have g1 : Fq (fun _ _ => False) (fun c i => c = 16 ∧ i = nk) s1 s1' := by rw [hs1']; exact Fq_L s1 ⟨rfl, rfl⟩
      have hp1 : TpY s1' N bt := TpY_fq (TpY_fq hp y3 (fun c i hc => by omega)) g1 (fun _ _ _ h => h)
      obtain ⟨s2, a1, a2, a3, a4, a5, aK⟩ := y_takeNumber hp1 hN hE1 (by rw [g1.1 3 7 (fun h => h)]; exact yb.2.2.1) 1 9
      have hk2' := tok_S (N := N) bt k1.2.2.1
      obtain ⟨hE2a, hE2⟩ := tok_E bt hE1
      have hs2 := TkS_fq hs1 u3 (fun c i hc => by omega)
      obtain ⟨k2, hk2d⟩ : ∃ k2, k2 = tokF N bt k1.2.2.1 := ⟨_, rfl⟩
      rw [← hk2d] at a4 a5 ub hk2' hE2a hE2
      obtain ⟨t3, b1, b2, b3, b4, b5, bK⟩ := x_takes (bt := bt) ub hk2' hs2 hN hE2 1 9
      have fx3 : Fq PxI PxL t t3 := Fq_tr fx2 (Fq_mo b3 (fun c i hc => by omega) (fun c i hc => Or.inl hc))
      have fy2 : Fq PyI PyL s s2 := Fq_tr fy1 (Fq_tr (Fq_mo g1 (fun _ _ h => h.elim) (fun c i hc => by omega)) (Fq_mo a3 (fun c i hc => Or.inl hc) (fun c i hc => Or.inl hc)))
      have e71 : gI s1 12 7 = zI (nk : Int) := by rw [y3.1 12 7 (by omega)]; exact hk2
      have ew1 : gL s1 3 4 = k1.2.2.2.1 := yb.2.2.2.1 ok1.1.1
      have e72 : gI s2 12 7 = zI (nk : Int) := by rw [a3.1 12 7 (by omega), g1.1 12 7 (fun h => h)]; exact e71
      have k10 : ¬ (1 : Int32) = 0 := by decide
      have hs1q : pL s1 (12 + 4) nk k1.2.2.2.1 = s1' := hs1'.symm
      by_cases ok2 : nuOk k2 1 9
      · obtain ⟨a6, a7⟩ := a4 ok2
        obtain ⟨b6, b7, b8⟩ := b4 ok2
        have en2 : gI s2 3 5 = k2.2.2.2.2 := a7.2.2.2.2 ok2.1
        obtain ⟨s3, hs3⟩ : ∃ s3, s3 = pI s2 17 nk k2.2.2.2.2 := ⟨_, rfl⟩
        obtain ⟨t4, ht4⟩ : ∃ t4, t4 = pI t3 251 (22 + nk) k2.2.2.2.2 := ⟨_, rfl⟩
        have g3 : Fq (fun c i => c = 17 ∧ i = nk) (fun _ _ => False) s2 s3 := by rw [hs3]; exact Fq_p _ (by omega)
        have g4 : Fq (fun c i => c = 251 ∧ i = 22 + nk) (fun _ _ => False) t3 t4 := by rw [ht4]; exact Fq_p _ (by omega)
        have hs3q : pI s2 (12 + 5) nk k2.2.2.2.2 = s3 := hs3.symm
        have hp3 : TpY s3 N bt := TpY_fq (TpY_fq hp1 a3 (fun c i hc => by omega)) g3 (fun c i hc => by omega)
        obtain ⟨s4, d1, d2, d3, d4⟩ := y_next hp3 hN hE2 (by rw [g3.1 3 7 (by omega)]; exact a7.2.2.1)
        have hp4 : TpY s4 N bt := TpY_fq hp3 d3 (fun c i hc => by omega)
        have hk3' := tok_S (N := N) bt k2.2.2.1
        obtain ⟨hE3a, hE3⟩ := tok_E bt hE2
        obtain ⟨k3, hk3d⟩ : ∃ k3, k3 = tokF N bt k2.2.2.1 := ⟨_, rfl⟩
        rw [← hk3d] at d4 b7 hk3' hE3a hE3
        have hx4 : TkX t4 N k3 := TkX_fq b7 g4 (fun c i hc => by omega) (fun _ _ _ h => h)
        have hs4 : TkS t4 N bt := TkS_fq (TkS_fq hs2 b3 (fun c i hc => by omega)) g4 (fun c i hc => by omega)
        have fx4 : Fq PxI PxL t t4 := Fq_tr fx3 (Fq_mo g4 (fun c i hc => by omega) (fun _ _ h => h.elim))
        have fy4 : Fq PyI PyL s s4 := Fq_tr fy2 (Fq_tr (Fq_mo g3 (fun c i hc => by omega) (fun _ _ h => h.elim)) (Fq_mo d3 (fun c i hc => by omega) (fun c i hc => Or.inl hc)))
        have e32 : gI s4 3 2 = gI s 3 2 := by rw [d3.1 3 2 (by omega), g3.1 3 2 (by omega), aK a6, g1.1 3 2 (fun h => h), yK ya]
        have e15 : gI t4 248 15 = gI t 248 15 := by rw [g4.1 248 15 (by omega), bK b6, uK ua, x3.1 248 15 (by omega)]
        have e74 : gI s4 12 7 = zI (nk : Int) := by rw [d3.1 12 7 (by omega), g3.1 12 7 (by omega)]; exact e72
        have e1t4 : gI t4 251 1 = zI (nk : Int) := by rw [g4.1 251 1 (by omega), b3.1 251 1 (by omega), u3.1 251 1 (by omega), x3.1 251 1 (by omega)]; exact hk3
        have hz : ∃ r : Int, (1 ≤ r ∧ r ≤ 9) ∧ k2.2.2.2.2 = zI r := by
          obtain ⟨r, hr1, hr2⟩ := z_ex k2.2.2.2.2
          have h1 := ok2.2.1
          have h2 := ok2.2.2
          rw [hr2, zl1, z_lt hr1 (by omega)] at h1
          rw [hr2, show (9 : Int32) = zI 9 from rfl, z_le hr1 (by omega)] at h2
          exact ⟨r, by omega, hr2⟩
        obtain ⟨r, hr1, hr2⟩ := hz
        have more : ∀ (s5 t5 : SM) (A B A' B' : Nat → Nat → Prop) (x : Int), Fq A B s4 s5 → Fq A' B' t4 t5 → (∀ c i, (c = 17 ∨ (c = 18 ∧ i < nk) ∨ (c = 12 ∧ ¬ i = 7)) ∨ c = 14 ∨ c = 15 → ¬ A c i) → (∀ c i, c = 13 ∨ c = 16 → ¬ B c i) → (∀ c i, (c = 251 ∧ ¬ i = 1 ∧ ¬ i = 28 + nk) ∨ (c = 248 ∧ (i = 20 ∨ i = 21)) → ¬ A' c i) → (∀ i, ¬ B' 253 i) → gI s5 12 7 = zI ((nk + 1 : Nat) : Int) → gI t5 251 1 = zI ((nk + 1 : Nat) : Int) → (0 ≤ x ∧ x ≤ 4) → gI s5 18 nk = zI x → gI t5 251 (28 + nk) = zI x → BdR s5 t5 nb ∧ KiR s5 t5 (nk + 1) ∧ LiR s5 t5 := by
          intro s5 t5 A B A' B' x f5 f5' hA hB hA' hB' q1 q2 q3 q4 q5
          have ys5 : ∀ c i, ((c = 17 ∧ i < nk) ∨ (c = 18 ∧ i < nk) ∨ (c = 12 ∧ ¬ i = 7)) ∨ c = 14 ∨ c = 15 → gI s5 c i = gI s c i := fun c i hc => by
            rw [f5.1 c i (hA c i (by omega)), d3.1 c i (by omega), g3.1 c i (by omega), a3.1 c i (by omega), g1.1 c i (fun h => h), y3.1 c i (by omega)]
          have yl5 : ∀ c i, (c = 16 ∧ ¬ i = nk) ∨ c = 13 → gL s5 c i = gL s c i := fun c i hc => by
            rw [f5.2.1 c i (hB c i (by omega)), d3.2.1 c i (by omega), g3.2.1 c i (fun h => h), a3.2.1 c i (by omega), g1.2.1 c i (by omega), y3.2.1 c i (by omega)]
          have xt5 : ∀ c i, (c = 251 ∧ ¬ i = 1 ∧ ¬ i = 28 + nk ∧ ¬ i = 22 + nk) ∨ (c = 248 ∧ (i = 20 ∨ i = 21)) → gI t5 c i = gI t c i := fun c i hc => by
            rw [f5'.1 c i (hA' c i (by omega)), g4.1 c i (by omega), b3.1 c i (by omega), u3.1 c i (by omega), x3.1 c i (by omega)]
          have xl5 : ∀ i, ¬ i = 24 + nk → gL t5 253 i = gL t 253 i := fun i hi => by
            rw [f5'.2.1 253 i (hB' i), g4.2.1 253 i (fun h => h), b3.2.1 253 i (by omega), u3.2.1 253 i (by omega), x3.2.1 253 i (by omega)]
          refine ⟨⟨hb1, ?_, ?_, fun b hbb => ?_⟩, ⟨by omega, q1, q2, fun j hj => ?_⟩, ?_⟩
          · rw [ys5 12 6 (by omega)]; exact hb2
          · rw [xt5 251 0 (by omega)]; exact hb3
          · obtain ⟨w1, r', x', w2, w3, w4, w5, w6, w7⟩ := hb4 b hbb
            exact ⟨by rw [yl5 13 b (by omega), xl5 _ (by omega)]; exact w1, r', x', w2, w3, by rw [ys5 14 b (by omega)]; exact w4, by rw [xt5 251 _ (by omega)]; exact w5, by rw [ys5 15 b (by omega)]; exact w6, by rw [xt5 251 _ (by omega)]; exact w7⟩
          · by_cases hbn : j = nk
            · rw [hbn]
              refine ⟨?_, r, x, hr1, q3, ?_, ?_, q4, q5⟩
              · rw [f5.2.1 16 nk (hB _ _ (by omega)), d3.2.1 16 nk (by omega), g3.2.1 16 nk (fun h => h), a3.2.1 16 nk (by omega), hs1', gL_pL, if_pos ⟨rfl, rfl⟩, f5'.2.1 253 _ (hB' _), g4.2.1 253 _ (fun h => h), b3.2.1 253 _ (by omega), uc]
              · rw [f5.1 17 nk (hA _ _ (by omega)), d3.1 17 nk (by omega), hs3, gI_pI, if_pos ⟨rfl, rfl⟩, hr2]
              · rw [f5'.1 251 _ (hA' _ _ (by omega)), ht4, gI_pI, if_pos ⟨rfl, rfl⟩, hr2]
            · obtain ⟨w1, r', x', w2, w3, w4, w5, w6, w7⟩ := hk4 j (by omega)
              exact ⟨by rw [yl5 16 j (by omega), xl5 _ (by omega)]; exact w1, r', x', w2, w3, by rw [ys5 17 j (by omega)]; exact w4, by rw [xt5 251 _ (by omega)]; exact w5, by rw [ys5 18 j (by omega)]; exact w6, by rw [xt5 251 _ (by omega)]; exact w7⟩
          · obtain ⟨⟨l, l1, l2, l3⟩, ⟨dd, m1, m2, m3⟩, fl1, fl2⟩ := hl
            exact ⟨⟨l, l1, by rw [ys5 12 8 (by omega)]; exact l2, by rw [xt5 251 2 (by omega)]; exact l3⟩, ⟨dd, m1, by rw [ys5 12 9 (by omega)]; exact m2, by rw [xt5 251 3 (by omega)]; exact m3⟩, by rw [ys5 12 12 (by omega), xt5 248 20 (by omega)]; exact fl1, by rw [ys5 12 13 (by omega), xt5 248 21 (by omega)]; exact fl2⟩
        have eplus : zI (nk : Int) + 1 = zI ((nk + 1 : Nat) : Int) := by rw [zl1, z_add]; congr 1
        -- the sort
        obtain ⟨y, hsy, hy0, hy4⟩ := soT_ex k3
        have est := y_sorT d4 hk3' hsy
        obtain ⟨s5, hs5⟩ : ∃ s5, s5 = pI s4 18 nk (zI y) := ⟨_, rfl⟩
        have hs5q : pI s4 (12 + 6) nk (zI y) = s5 := hs5.symm
        have g5 : Fq (fun c i => c = 18 ∧ i = nk) (fun _ _ => False) s4 s5 := by rw [hs5]; exact Fq_p _ (by omega)
        have e75 : gI s5 12 7 = zI (nk : Int) := by rw [g5.1 12 7 (by omega)]; exact e74
        have e85 : gI s5 (12 + 6) nk = zI y := by rw [hs5]; show gI (pI s4 18 nk (zI y)) 18 nk = _; rw [gI_pI, if_pos ⟨rfl, rfl⟩]
        have hp5 : TpY s5 N bt := TpY_fq hp4 g5 (fun c i hc => by omega)
        have ty5 : TkY s5 k3 := TkY_fq d4 g5 (fun c i hc => by omega) (fun _ _ _ h => h)
        have nx : ∀ v : Int32, ∃ u, mX12_next (pI t4 251 (28 + nk) v) = u ∧ rX12_next (pI t4 251 (28 + nk) v) ∧ Fq TxI TxL (pI t4 251 (28 + nk) v) u ∧ TkX u N (tokF N bt k3.2.2.1) := fun v => by
          have f : Fq (fun c i => c = 251 ∧ i = 28 + nk) (fun _ _ => False) t4 (pI t4 251 (28 + nk) v) := Fq_p _ ⟨rfl, rfl⟩
          exact x_next (TkS_fq hs4 f (fun c i hc => by omega)) hN hE3 (by rw [f.1 248 4 (by omega)]; exact hx4.2.2.1)
        have gy : ∀ v : Int32, gI (pI t4 251 (28 + nk) v) 251 (28 + nk) = v := fun v => by rw [gI_pI, if_pos ⟨rfl, rfl⟩]
        have g1y : ∀ v : Int32, gI (pI t4 251 (28 + nk) v) 251 1 = zI (nk : Int) := fun v => by rw [gI_pI, if_neg (by omega)]; exact e1t4
        have g1n : ∀ v : Int32, gI (mX12_next (pI t4 251 (28 + nk) v)) 251 1 = zI (nk : Int) := fun v => by
          obtain ⟨u, h1, -, h3, -⟩ := nx v
          rw [h1, h3.1 251 1 (by omega)]; exact g1y v
        have RX : rX12_portLine t := by
          unfold rX12_portLine
          refine ⟨fun _ => ⟨fun hc => absurd hc kw, fun _ => ?_⟩, fun hc => absurd kb hc⟩
          rw [c1, hk3, x1, i24, u1, i22, i28, b1, b8, c22, c28, ← ht4]
          have rn : ∀ v, rX12_next (pI t4 251 (28 + nk) v) := fun v => by obtain ⟨u, -, h2, -, -⟩ := nx v; exact h2
          refine fun _ => ⟨x2, u2, fun _ => ⟨b2, fun _ => ⟨v22, fun s7 h7 => ?_⟩⟩⟩
          rw [h7]
          exact ⟨fun _ => ⟨fun _ => ⟨fun _ => ⟨v28, fun s9 h9 => ⟨v28, fun _ => by rw [h9]; exact rn _⟩⟩, fun _ => ⟨v28, v28, fun _ => rn _⟩⟩, fun _ => ⟨v28, v28, fun _ => rn _⟩⟩, fun _ => ⟨v28, v28, fun _ => rn _⟩⟩
        have RY : rX6_readKind s 12 := by
          unfold rX6_readKind
          rw [y1, e71, cnk, ew1, hs1q, a1]
          refine fun _ => ⟨y2, fun _ => ⟨v6, a2, fun s2' h2 => ?_⟩⟩
          rw [h2, e72, cnk, en2, hs3q, d1, e74, cnk, est, hs5q]
          refine fun _ => ⟨v6, d2, v6, fun s5' h5 => ?_⟩
          rw [h5, e75, cnk, e85]
          refine ⟨v6, fun _ => (y_kindEnd e75).2, fun _ => ?_⟩
          obtain ⟨s6, h1, h2', h3, h4⟩ := y_next hp5 hN hE3 ty5.2.2.1
          rw [h1]
          exact ⟨h2', (y_kindEnd (by rw [h3.1 12 7 (by omega)]; exact e75)).2⟩
        have wX := soT_w hsy (x_says hx4 hk3' 28270047624193380) (x_says hx4 hk3' 114767640814948) (x_says hx4 hk3' 439721161573) (x_says hx4 hk3' 457135713908)
        have EX : fX12_portLine t = (1, if y = 0 then pI (pI t4 251 (28 + nk) (zI y)) 251 1 (zI ((nk + 1 : Nat) : Int)) else pI (mX12_next (pI t4 251 (28 + nk) (zI y))) 251 1 (zI ((nk + 1 : Nat) : Int))) := by
          unfold fX12_portLine
          rw [if_pos kb, if_neg kw, c1, hk3, if_neg l6', x1, i24, u1, ua, if_neg k10]
          dsimp only
          rw [b6, if_neg k10, b1, b8, i22, c22, i28, c28, ← ht4]
          rcases wX with ⟨a, e⟩ | ⟨a, b, e⟩ | ⟨a, b, c, e⟩ | ⟨a, b, c, d, e⟩ | ⟨a, b, c, d, e⟩
          · rw [if_neg a, gy, if_neg (by decide), g1n, eplus, e]; rfl
          · rw [if_pos a, if_neg b, gy, if_neg (by decide), g1n, eplus, e]; rfl
          · rw [if_pos a, if_pos b, if_neg c, gy, if_neg (by decide), g1n, eplus, e]; rfl
          · rw [if_pos a, if_pos b, if_pos c, if_neg d, gy, if_neg (by decide), g1n, eplus, e]; rfl
          · rw [if_pos a, if_pos b, if_pos c, if_pos d, gy, if_pos (by decide), g1y, eplus, e]; rfl
        by_cases y0 : y = 0
        · have zy0 : zI y = 0 := by rw [y0]; rfl
          rw [if_pos y0] at EX
          obtain ⟨z1, z2⟩ := y_kindEnd e75
          obtain ⟨s6, hs6⟩ : ∃ s6, s6 = pI s5 12 7 (zI ((nk + 1 : Nat) : Int)) := ⟨_, rfl⟩
          obtain ⟨t6, ht6⟩ : ∃ t6, t6 = pI (pI t4 251 (28 + nk) (zI y)) 251 1 (zI ((nk + 1 : Nat) : Int)) := ⟨_, rfl⟩
          rw [← hs6] at z1
          rw [← ht6] at EX
          have g6 : Fq (fun c i => (c = 18 ∧ i = nk) ∨ (c = 12 ∧ i = 7)) (fun _ _ => False) s4 s6 := by rw [hs6]; exact Fq_tr (Fq_mo g5 (fun c i hc => Or.inl hc) (fun _ _ h => h)) (Fq_p _ (by omega))
          have g7 : Fq (fun c i => c = 251 ∧ (i = 1 ∨ i = 28 + nk)) (fun _ _ => False) t4 t6 := by rw [ht6]; exact Fq_tr (Fq_p _ (by omega)) (Fq_p _ (by omega))
          obtain ⟨m1, m2, m3⟩ := more s6 t6 _ _ _ _ y g6 g7 (fun c i hc => by omega) (fun _ _ _ h => h) (fun c i hc => by omega) (fun _ h => h) (by rw [hs6, gI_pI, if_pos ⟨rfl, rfl⟩]) (by rw [ht6, gI_pI, if_pos ⟨rfl, rfl⟩]) ⟨hy0, hy4⟩ (by rw [hs6, gI_pI, if_neg (by omega), hs5, gI_pI, if_pos ⟨rfl, rfl⟩]) (by rw [ht6, gI_pI, if_neg (by omega)]; exact gy _)
          have fin := ln_stop (s := s) (t := t) (E := k.2.2.1) hN (TkY_fq d4 g6 (fun c i hc => by omega) (fun _ _ _ h => h)) (TkX_fq hx4 g7 (fun c i hc => by omega) (fun _ _ _ h => h)) (TkS_fq hs4 g7 (fun c i hc => by omega)) hk3' ⟨by omega, hE3⟩ m1 m2 m3 (Fq_tr fy4 (Fq_mo g6 (fun c i hc => by omega) (fun _ _ h => h.elim))) (Fq_tr fx4 (Fq_mo g7 (fun c i hc => by omega) (fun _ _ h => h.elim))) (by rw [g6.1 3 2 (by omega)]; exact e32) (by rw [g7.1 248 15 (by omega)]; exact e15)
          have EY : fX6_readKind s 12 = (vX9_isStop s6, mX9_isStop s6) := by
            unfold fX6_readKind
            rw [hk2, if_pos l6, y1, ya, if_neg k10, e71, cnk, ew1, hs1q]
            dsimp only
            rw [a6, if_neg k10, a1, e72, cnk, en2, hs3q, d1, e74, cnk, est, hs5q, e75, cnk, e85, if_pos zy0, z1]
          exact ⟨mX9_isStop s6, t6, 1, by unfold mX6_readKind; rw [EY], RY, by unfold mX12_portLine; rw [EX], by unfold vX12_portLine; rw [EX], RX, by unfold vX6_readKind; rw [EY]; exact fin⟩
        · have zy0 : ¬ zI y = 0 := by rw [zl0, z_eq (by omega) (by omega)]; exact y0
          rw [if_neg y0] at EX
          obtain ⟨s6, p1, p2, p3, p4⟩ := y_next hp5 hN hE3 ty5.2.2.1
          obtain ⟨u, q1, q2, q3, q4⟩ := nx (zI y)
          have hk4' := tok_S (N := N) bt k3.2.2.1
          obtain ⟨hE4a, hE4⟩ := tok_E bt hE3
          obtain ⟨k4, hk4d⟩ : ∃ k4, k4 = tokF N bt k3.2.2.1 := ⟨_, rfl⟩
          rw [← hk4d] at p4 q4 hk4' hE4a hE4
          have e76 : gI s6 12 7 = zI (nk : Int) := by rw [p3.1 12 7 (by omega)]; exact e75
          obtain ⟨z1, z2⟩ := y_kindEnd e76
          obtain ⟨s7, hs7⟩ : ∃ s7, s7 = pI s6 12 7 (zI ((nk + 1 : Nat) : Int)) := ⟨_, rfl⟩
          obtain ⟨t7, ht7⟩ : ∃ t7, t7 = pI u 251 1 (zI ((nk + 1 : Nat) : Int)) := ⟨_, rfl⟩
          rw [← hs7] at z1
          rw [q1, ← ht7] at EX
          have g7s : Fq (fun c i => c = 12 ∧ i = 7) (fun _ _ => False) s6 s7 := by rw [hs7]; exact Fq_p _ (by omega)
          have g7t : Fq (fun c i => c = 251 ∧ i = 1) (fun _ _ => False) u t7 := by rw [ht7]; exact Fq_p _ (by omega)
          have g4y : Fq (fun c i => c = 251 ∧ i = 28 + nk) (fun _ _ => False) t4 (pI t4 251 (28 + nk) (zI y)) := Fq_p _ ⟨rfl, rfl⟩
          have big : Fq (fun c i => TkI c i ∨ (c = 18 ∧ i = nk) ∨ (c = 12 ∧ i = 7)) TkL s4 s7 := Fq_tr (Fq_mo g5 (fun c i hc => by omega) (fun _ _ h => h.elim)) (Fq_tr (Fq_mo p3 (fun c i hc => Or.inl hc) (fun c i hc => hc)) (Fq_mo g7s (fun c i hc => by omega) (fun _ _ h => h.elim)))
          have bix : Fq (fun c i => TxI c i ∨ (c = 251 ∧ (i = 1 ∨ i = 28 + nk))) TxL t4 t7 := Fq_tr (Fq_mo g4y (fun c i hc => by omega) (fun _ _ h => h.elim)) (Fq_tr (Fq_mo q3 (fun c i hc => Or.inl hc) (fun c i hc => hc)) (Fq_mo g7t (fun c i hc => by omega) (fun _ _ h => h.elim)))
          obtain ⟨m1, m2, m3⟩ := more s7 t7 _ _ _ _ y big bix (fun c i hc => by omega) (fun c i hc => by omega) (fun c i hc => by omega) (fun i => by omega) (by rw [hs7, gI_pI, if_pos ⟨rfl, rfl⟩]) (by rw [ht7, gI_pI, if_pos ⟨rfl, rfl⟩]) ⟨hy0, hy4⟩ (by rw [g7s.1 18 nk (by omega), p3.1 18 nk (by omega), hs5, gI_pI, if_pos ⟨rfl, rfl⟩]) (by rw [g7t.1 251 _ (by omega), q3.1 251 _ (by omega)]; exact gy _)
          have hsu : TkS u N bt := TkS_fq (TkS_fq hs4 g4y (fun c i hc => by omega)) q3 (fun c i hc => by omega)
          have fin := ln_stop (s := s) (t := t) (E := k.2.2.1) hN (TkY_fq p4 g7s (fun c i hc => by omega) (fun _ _ _ h => h)) (TkX_fq q4 g7t (fun c i hc => by omega) (fun _ _ _ h => h)) (TkS_fq hsu g7t (fun c i hc => by omega)) hk4' ⟨by omega, hE4⟩ m1 m2 m3 (Fq_tr fy4 (Fq_mo big (fun c i hc => by omega) (fun c i hc => Or.inl hc))) (Fq_tr fx4 (Fq_mo bix (fun c i hc => by omega) (fun c i hc => Or.inl hc))) (by rw [big.1 3 2 (by omega)]; exact e32) (by rw [bix.1 248 15 (by omega)]; exact e15)
          have EY : fX6_readKind s 12 = (vX9_isStop s7, mX9_isStop s7) := by
            unfold fX6_readKind
            rw [hk2, if_pos l6, y1, ya, if_neg k10, e71, cnk, ew1, hs1q]
            dsimp only
            rw [a6, if_neg k10, a1, e72, cnk, en2, hs3q, d1, e74, cnk, est, hs5q, e75, cnk, e85, if_neg zy0, p1, z1]
          exact ⟨mX9_isStop s7, t7, 1, by unfold mX6_readKind; rw [EY], RY, by unfold mX12_portLine; rw [EX], by unfold vX12_portLine; rw [EX], RX, by unfold vX6_readKind; rw [EY]; exact fin⟩
      · obtain ⟨a6, a7⟩ := a5 ok2
        obtain ⟨b6, b7⟩ := b5 ok2
        have EY : fX6_readKind s 12 = (0, s2) := by
          unfold fX6_readKind
          rw [hk2, if_pos l6, y1, ya, if_neg k10, e71, cnk, ew1, hs1q]
          dsimp only
          rw [a6, if_pos rfl, a1]
        have RY : rX6_readKind s 12 := by
          unfold rX6_readKind
          rw [y1, e71, cnk, ew1, hs1q, a1]
          refine fun _ => ⟨y2, fun _ => ⟨v6, a2, fun s2' h2 hc => absurd a6 hc⟩⟩
        have EX : fX12_portLine t = (0, t3) := by
          unfold fX12_portLine
          rw [if_pos kb, if_neg kw, c1, hk3, if_neg l6', x1, i24, u1, ua, if_neg k10, b6, if_pos rfl, b1]
        have RX : rX12_portLine t := by
          unfold rX12_portLine
          refine ⟨fun _ => ⟨fun hc => absurd hc kw, fun _ => ?_⟩, fun hc => absurd kb hc⟩
          rw [c1, hk3, x1, i24, u1, b6]
          exact fun _ => ⟨x2, u2, fun _ => ⟨b2, fun hc => absurd rfl hc⟩⟩
        exact ⟨s2, t3, 0, by unfold mX6_readKind; rw [EY], RY, by unfold mX12_portLine; rw [EX], by unfold vX12_portLine; rw [EX], RX, by unfold vX6_readKind; rw [EY]; exact ln_no a7 b7 fy2 fx3⟩
    · have hf : vX9_takeNewName s 12 = 0 ∧ vX12_fresh t1 (zI ((24 + nk : Nat) : Int)) = 0 ∧ ∃ f A, FtY s1 f A ∧ FtX t2 f A := by
        by_cases cn1 : isN k1
        · have cn2 : ¬ (fnd (gL s (12 + 1)) k1.2.2.2.1 nb 0 = -1 ∧ fnd (gL s (12 + 4)) k1.2.2.2.1 nk 0 = -1) := fun hc => ok1 ⟨cn1, hc⟩
          exact ⟨(y6 cn1 cn2).1, (u6 cn1 cn2).1, _, _, (y6 cn1 cn2).2, (u6 cn1 cn2).2⟩
        · exact ⟨(y5 cn1).1, (u5 cn1).1, _, _, (y5 cn1).2, (u5 cn1).2⟩
      obtain ⟨f7, w7, ff, A, f8, w8⟩ := hf
      have EY : fX6_readKind s 12 = (0, s1) := by
        unfold fX6_readKind
        rw [hk2, if_pos l6, y1, f7, if_pos rfl]
      have RY : rX6_readKind s 12 := by
        unfold rX6_readKind
        exact fun _ => ⟨y2, fun hc => absurd f7 hc⟩
      have EX : fX12_portLine t = (0, t2) := by
        unfold fX12_portLine
        rw [if_pos kb, if_neg kw, c1, hk3, if_neg l6', x1, i24, u1, w7, if_pos rfl]
      have RX : rX12_portLine t := by
        unfold rX12_portLine
        refine ⟨fun _ => ⟨fun hc => absurd hc kw, fun _ => ?_⟩, fun hc => absurd kb hc⟩
        rw [c1, hk3, x1, i24, w7]
        exact fun _ => ⟨x2, u2, fun hc => absurd rfl hc⟩
      exact ⟨s1, t2, 0, by unfold mX6_readKind; rw [EY], RY, by unfold mX12_portLine; rw [EX], by unfold vX12_portLine; rw [EX], RX, by unfold vX6_readKind; rw [EY]; exact ln_no f8 w8 fy1 fx2⟩
  · have l6 : ¬ zI (nk : Int) < 6 := by rw [show (6 : Int32) = zI 6 from rfl, z_lt (by omega) (by omega)]; omega
    have l6' : zI (nk : Int) = 6 := by rw [show (6 : Int32) = zI 6 from rfl, z_eq (by omega) (by omega)]; omega
    obtain ⟨-, r2, r3⟩ := y_ref hy 4
    obtain ⟨-, q2, q3⟩ := x_bad hx 4
    have EY : fX6_readKind s 12 = (0, mX9_refuse s 4) := by
      unfold fX6_readKind
      rw [hk2, if_neg l6]; rfl
    have RY : rX6_readKind s 12 := by
      unfold rX6_readKind
      rw [hk2]
      exact fun hc => absurd hc l6
    have EX : fX12_portLine t = (0, mX12_bad t 4) := by
      unfold fX12_portLine
      rw [if_pos kb, if_neg kw, c1, hk3, if_pos l6']; rfl
    have RX : rX12_portLine t := by
      unfold rX12_portLine
      refine ⟨fun _ => ⟨fun hc => absurd hc kw, fun _ => ?_⟩, fun hc => absurd kb hc⟩
      rw [c1, hk3]
      exact fun hc => absurd l6' hc
    exact ⟨mX9_refuse s 4, mX12_bad t 4, 0, by unfold mX6_readKind; rw [EY], RY, by unfold mX12_portLine; rw [EX], by unfold vX12_portLine; rw [EX], RX, by unfold vX6_readKind; rw [EY]; exact ln_no r2 q2 (Fq_mo r3 (fun c i hc => Or.inl hc) (fun c i hc => Or.inl hc)) (Fq_mo q3 (fun c i hc => Or.inl hc) (fun c i hc => Or.inl hc))⟩
end
