-- needs: 6zh.bkh
abbrev QbI (c i : Nat) : Prop := (c = 2 ∧ i = 18) ∨ c = 3 ∨ (19 ≤ c ∧ c ≤ 30) ∨ BxI c i
abbrev QbL (c _i : Nat) : Prop := c = 3 ∨ c = 248
theorem Yb_Qb {c i : Nat} (h : YbI c i) : QbI c i := by omega
theorem SQ_HI {s t : SM} {g g' : Nat → Int} {A B : Nat → Nat → Prop} (hi : HI s g) (hw : WF g) (hq : SQ g g') (hf : Fq A B s t) (hA : ∀ c i, c = 55 ∨ (57 ≤ c ∧ c ≤ 164) ∨ c = 255 ∨ (c = 248 ∧ i = 25) → ¬ A c i) : HI t g' := by
  have hi' := HI_fq hi hf hA
  obtain ⟨nt, kp, i1, i2, i3, i4, i5, i6, i7⟩ := hi'
  exact ⟨nt, kp, i1, i2, i3, i4, i5, fun j hj => HRow_fr (i6 j hj) (SQ_sp hq) (fun _ _ _ => rfl) rfl, WA_sq hw i7 hq⟩
section
variable {s : SM} {g : Nat → Int} {N : Nat} {bt : Nat → Int}
theorem q_book (h : LdR s 31 5 g) (h2 : RR s g) (hw : WF g) (hi : HI s g) (ht : TpB s N bt) (hn : NmT s g) (hre : ReT s) (hb : BkR s g) : rX11_book s ∧ rX12_book (mX11_book s) ∧ vX11_book s = vX12_book (mX11_book s) ∧ ∃ g', SQ g g' ∧ WF g' ∧ LdR (mX12_book (mX11_book s)) 31 5 g' ∧ RR (mX12_book (mX11_book s)) g' ∧ HI (mX12_book (mX11_book s)) g' ∧ gI (mX12_book (mX11_book s)) 3 1 = 0 ∧ gI (mX12_book (mX11_book s)) 248 2 = 0 ∧ BkR (mX12_book (mX11_book s)) g' ∧ FlT (mX12_book (mX11_book s)) ∧ Fq QbI QbL s (mX12_book (mX11_book s)) := by
  obtain ⟨hN, hy, hx⟩ := TpB_i.mp ht
  have h0 := hw.w0
  have enb : (((g 0).toNat : Nat) : Int) = g 0 := by omega
  have enk : (((g 1).toNat : Nat) : Int) = g 1 := by omega
  obtain ⟨nb, hnb⟩ : ∃ nb, nb = (g 0).toNat := ⟨_, rfl⟩
  obtain ⟨nk, hnk⟩ : ∃ nk, nk = (g 1).toNat := ⟨_, rfl⟩
  rw [← hnb] at enb
  rw [← hnk] at enk
  have hcs : CtR s s nb nk := ⟨by omega, by omega, by rw [enb]; exact h.1.1.1, by rw [enk]; exact h.1.1.2.1, by rw [enb]; exact h2 0, by rw [enk]; exact h2 1, fun b hb => hn.1 b (by omega), fun k hk => hn.2 k (by omega)⟩
  obtain ⟨s', u0, m1, m2, -, -, f1, -, -, -⟩ := bk_read (t := s) hN hy hx hre hcs
  have xs : ∀ t : SM, TpX t N bt → ReT t → CtR s t nb nk → ∃ t', rX12_book t ∧ mX12_book t = t' ∧ Fq BxI TxL t t' ∧ gI t' 248 2 = 0 ∧ ((vX0_readFrom s 25 5 = 1 ∧ (∃ n t1, DbR s' t1 nb nk n ∧ vX12_book t = zI (n : Int) ∧ gI t1 252 0 = zI (n : Int) ∧ (∀ k, k ≤ 5 * n → gI t' 250 (586 + k) = gI t1 252 k) ∧ ∀ i, (i < 586 ∨ 586 + 5 * n < i) → gI t' 250 i = gI t 250 i) ∧ gI t' 248 15 = 0 ∧ gI s' 3 2 = 0) ∨ (vX0_readFrom s 25 5 = 0 ∧ (∀ i, gI t' 250 i = gI t 250 i) ∧ ∃ f A, FtY s' f A ∧ FtX t' f A ∧ vX12_book t = -1 - zI (A : Int))) := by
    intro t hxt hret hct
    obtain ⟨s'', t', n1, -, n3, n4, -, n6, n7, n8⟩ := bk_read (t := t) hN hy hxt hret hct
    have e : s'' = s' := n1.symm.trans m1
    subst e
    exact ⟨t', n3, n4, n6, n7, n8⟩
  have hv01 : vX0_readFrom s 25 5 = 1 ∨ vX0_readFrom s 25 5 = 0 := by
    obtain ⟨t', -, -, -, -, q⟩ := xs s hx hre hcs
    rcases q with q | q
    · exact Or.inl q.1
    · exact Or.inr q.1
  obtain ⟨s5, hs5⟩ : ∃ s5, s5 = pI (pI s' 2 18 (gI s' 3 2)) 3 1 0 := ⟨_, rfl⟩
  have f5 : Fq (fun c i => (c = 2 ∧ i = 18) ∨ (c = 3 ∧ i = 1)) (fun _ _ => False) s' s5 := by rw [hs5]; exact Fq_tr (Fq_p _ (by omega)) (Fq_p _ (by omega))
  have a18 : gI s5 2 18 = gI s' 3 2 := by rw [hs5, gI_pI, if_neg (by omega), gI_pI, if_pos ⟨rfl, rfl⟩]
  have a31 : gI s5 3 1 = 0 := by rw [hs5, gI_pI, if_pos ⟨rfl, rfl⟩]
  have RY : rX11_book s := m2
  rcases hv01 with hv1 | hv0
  · obtain ⟨c1, c2, c3⟩ := y_bookCopy s5
    obtain ⟨s6, hs6⟩ : ∃ s6, s6 = mX0_copyFrom s5 19 25 := ⟨_, rfl⟩
    rw [← hs6] at c1 c2 c3
    have n0 : ¬ vX0_readFrom s 25 5 = 0 := by rw [hv1]; decide
    have e1 : mX11_book s = s6 := by unfold mX11_book; rw [if_neg n0, m1, ← hs5, ← hs6]
    have e3 : vX11_book s = gI s' 25 0 := by
      unfold vX11_book
      rw [if_neg n0, m1, ← hs5, ← hs6, c1, f5.1 25 0 (by omega)]
    have fs : Fq (fun c i => (c = 2 ∧ i = 18) ∨ c = 3 ∨ (19 ≤ c ∧ c ≤ 30)) TkL s s6 := Fq_tr (Fq_mo f1 (fun c i hc => by omega) (fun _ _ h => h)) (Fq_tr (Fq_mo f5 (fun c i hc => by omega) (fun _ _ h => h.elim)) (Fq_mo c3 (fun c i hc => by omega) (fun _ _ h => h.elim)))
    obtain ⟨t', r1, r2, ft, t2, q⟩ := xs s6 ⟨by rw [fs.1 248 2 (by omega)]; exact hx.1, fun i hi => by rw [fs.1 249 i (by omega)]; exact hx.2 i hi⟩ (fun i hi => by rw [fs.2.1 254 i (by omega)]; exact hre i hi) (CtR_fq hcs (Fq_rf (fun _ _ => False) (fun _ _ => False) s) fs (fun _ _ h => h) (fun _ _ _ h => h) (fun i hi => by omega) (fun i => by omega))
    rcases q with ⟨-, ⟨n, t1, d1, d2, d3, d4, d5⟩, q4, q5⟩ | ⟨q1, -⟩
    · obtain ⟨D1, D2, D3, D4⟩ := d1
      have em : mX12_book (mX11_book s) = t' := by rw [e1]; exact r2
      have ff : Fq QbI QbL s t' := Fq_tr (Fq_mo fs (fun c i hc => by omega) (fun c i hc => by omega)) (Fq_mo ft (fun c i hc => Or.inr (Or.inr (Or.inr hc))) (fun c i hc => by omega))
      obtain ⟨g', hg'⟩ : ∃ g' : Nat → Int, g' = fun j => if 586 ≤ j ∧ j ≤ 586 + 5 * n then (gI t' 250 j).toInt else g j := ⟨_, rfl⟩
      have gin : ∀ k, k ≤ 5 * n → ∀ v : Int, IR v → gI t1 252 k = zI v → g' (586 + k) = v := fun k hk v hv e => by
        rw [hg']
        show (if 586 ≤ 586 + k ∧ 586 + k ≤ 586 + 5 * n then (gI t' 250 (586 + k)).toInt else g (586 + k)) = v
        rw [if_pos (by omega), d4 k hk, e, tI_zI hv]
      have gout : ∀ j, (j < 586 ∨ 586 + 5 * n < j) → g' j = g j := fun j hj => by
        rw [hg']
        show (if 586 ≤ j ∧ j ≤ 586 + 5 * n then (gI t' 250 j).toInt else g j) = g j
        rw [if_neg (by omega)]
      have hsq : SQ g g' := fun k hk => gout k (Or.inl hk)
      have g586 : g' 586 = n := gin 0 (by omega) n (by omega) d3
      have hl0 : LdR t' 31 5 g := by
        have k := LdR_fq (L := 31) (P := 5) h ff (fun c i hc => by omega)
        exact k
      rw [em]
      refine ⟨RY, by rw [e1]; exact r1, by rw [e1, e3, d2, D2], g', hsq, WF_sq hw hsq, ⟨PoR_sp hl0.1 hw (SQ_sp hsq), LdS_sq hl0.2 hw hsq⟩, fun j => ?_, SQ_HI hi hw hsq ff (fun c i hc => by omega), ?_, t2, ⟨?_, by omega, fun i hin => ?_⟩, ?_, ff⟩
      · by_cases c : 586 ≤ j ∧ j ≤ 586 + 5 * n
        · rw [hg']
          show _ = zI (if 586 ≤ j ∧ j ≤ 586 + 5 * n then (gI t' 250 j).toInt else g j)
          rw [if_pos c, zI_tI]
        · rw [d5 j (by omega), fs.1 250 j (by omega), gout j (by omega)]; exact h2 j
      · rw [ft.1 3 1 (by omega), c3.1 3 1 (by omega)]; exact a31
      · rw [ft.1 19 0 (by omega), c1, f5.1 25 0 (by omega), D2, g586]
      · rw [g586] at hin
        obtain ⟨A, B, C, D, E, p1, p2, p3, p4, p5⟩ := D4 i (by omega)
        obtain ⟨p1a, p1b, p1c, p1d, p1e⟩ := p1
        obtain ⟨k2, k3, k4, k5⟩ := p5
        -- what the line's ints are
        have hD : ∀ v : Int32, ∃ x : Int, IR x ∧ v = zI x := fun v => z_ex v
        obtain ⟨B2, hB, eB⟩ := z_ex (zI B)
        obtain ⟨C2, hC, eC⟩ := z_ex (zI C)
        obtain ⟨D2', hD2, eD⟩ := z_ex (zI D)
        obtain ⟨E2, hE, eE⟩ := z_ex (zI E)
        have vA : g' (587 + 5 * i) = A := by rw [show 587 + 5 * i = 586 + (5 * i + 1) by omega]; exact gin _ (by omega) A (by omega) p4
        have vB : g' (588 + 5 * i) = B2 := by rw [show 588 + 5 * i = 586 + (5 * i + 2) by omega]; exact gin _ (by omega) B2 hB (by rw [k2, eB])
        have vC : g' (589 + 5 * i) = C2 := by rw [show 589 + 5 * i = 586 + (5 * i + 3) by omega]; exact gin _ (by omega) C2 hC (by rw [k3, eC])
        have vD : g' (590 + 5 * i) = D2' := by rw [show 590 + 5 * i = 586 + (5 * i + 4) by omega]; exact gin _ (by omega) D2' hD2 (by rw [k4, eD])
        have vE : g' (591 + 5 * i) = E2 := by rw [show 591 + 5 * i = 586 + (5 * i + 5) by omega]; exact gin _ (by omega) E2 hE (by rw [k5, eE])
        have sm : ∀ {x y : Int}, IR x → IR y → zI x = zI y → x = y := fun hx hy e => (z_eq hx hy).mp e
        have cell : ∀ c, 20 ≤ c → c ≤ 24 → gI t' c i = gI s' (c + 6) i := fun c h1 h2 => by rw [ft.1 c i (by omega), c2 c i h1 h2 (by omega), f5.1 (c + 6) i (by omega)]
        have g0' : g' 0 = g 0 := gout 0 (by omega)
        have g1' : g' 1 = g 1 := gout 1 (by omega)
        have l20 : gI t' 20 i = gI s' 26 i := cell 20 (by omega) (by omega)
        have l21 : gI t' 21 i = gI s' 27 i := cell 21 (by omega) (by omega)
        have l22 : gI t' 22 i = gI s' 28 i := cell 22 (by omega) (by omega)
        have l23 : gI t' 23 i = gI s' 29 i := cell 23 (by omega) (by omega)
        have l24 : gI t' 24 i = gI s' 30 i := cell 24 (by omega) (by omega)
        obtain ⟨o0, o1, o2, o4⟩ := p3
        rw [vA, vB, vC, vD, vE]
        refine ⟨⟨p1a, fun hA => ?_, fun hA => ?_, fun hA => ?_, fun hA => ?_⟩, by rw [l20]; exact p2, fun hA => ?_, fun hA => ?_, fun hA => ?_, fun hA => ?_⟩
        · obtain ⟨x1, x2, x3, x4⟩ := p1b hA
          have y1 := sm (by omega) hB eB
          have y2 := sm (by omega) hC eC
          have y3 := sm (by omega) hD2 eD
          have y4 := sm (by omega) hE eE
          unfold bdyZ kndZ
          rw [g0', g1']
          omega
        · have x1 := p1c hA
          have y1 := sm (by omega) hB eB
          omega
        · obtain ⟨x1, x2⟩ := p1d hA
          have y1 := sm (by omega) hB eB
          have y2 := sm (by omega) hC eC
          omega
        · obtain ⟨x1, x2⟩ := p1e hA
          have y1 := sm (by omega) hB eB
          have y2 := sm (by omega) hC eC
          unfold bdyZ
          rw [g0']
          omega
        · obtain ⟨x1, x2, x3, x4⟩ := o0 hA
          exact ⟨by rw [l21, x1, eB], by rw [l22, x2, eC], by rw [l23, x3, eD], by rw [l24, x4, eE]⟩
        · rw [l21, o1 hA, eB]
        · obtain ⟨x1, x2⟩ := o2 hA
          exact ⟨by rw [l21, x1, eB], by rw [l22, x2, eC]⟩
        · obtain ⟨x1, x2⟩ := o4 hA
          exact ⟨by rw [l21, x1, eB], by rw [l22, x2, eC]⟩
      · unfold FlT
        rw [ft.1 2 18 (by omega), c3.1 2 18 (by omega), a18, q5, q4]
    · exact absurd (hv1.symm.trans q1) (by decide)
  · have e1 : mX11_book s = s5 := by unfold mX11_book; rw [if_pos hv0, m1]; exact hs5.symm
    have e3 : vX11_book s = -1 - gI s' 3 3 := by
      unfold vX11_book
      rw [if_pos hv0, m1, ← hs5, f5.1 3 3 (by omega)]
    have fs : Fq (fun c i => (c = 2 ∧ i = 18) ∨ c = 3 ∨ (25 ≤ c ∧ c ≤ 30)) TkL s s5 := Fq_tr (Fq_mo f1 (fun c i hc => by omega) (fun _ _ h => h)) (Fq_mo f5 (fun c i hc => by omega) (fun _ _ h => h.elim))
    obtain ⟨t', r1, r2, ft, t2, q⟩ := xs s5 ⟨by rw [fs.1 248 2 (by omega)]; exact hx.1, fun i hi => by rw [fs.1 249 i (by omega)]; exact hx.2 i hi⟩ (fun i hi => by rw [fs.2.1 254 i (by omega)]; exact hre i hi) (CtR_fq hcs (Fq_rf (fun _ _ => False) (fun _ _ => False) s) fs (fun _ _ h => h) (fun _ _ _ h => h) (fun i hi => by omega) (fun i => by omega))
    rcases q with ⟨q1, -⟩ | ⟨-, q2, f, A, q3, q4, q5⟩
    · exact absurd (hv0.symm.trans q1) (by decide)
    · have em : mX12_book (mX11_book s) = t' := by rw [e1]; exact r2
      have ff : Fq QbI QbL s t' := Fq_tr (Fq_mo fs (fun c i hc => by omega) (fun c i hc => by omega)) (Fq_mo ft (fun c i hc => Or.inr (Or.inr (Or.inr hc))) (fun c i hc => by omega))
      rw [em]
      refine ⟨RY, by rw [e1]; exact r1, by rw [e1, e3, q5, q3.2], g, fun _ _ => rfl, hw, LdR_fq h ff (fun c i hc => by omega), fun j => ?_, SQ_HI hi hw (fun _ _ => rfl) ff (fun c i hc => by omega), ?_, t2, BkR_fr hb rfl rfl (fun _ _ => rfl) (fun c h1 h2 => by funext i; rw [ft.1 c i (by omega), fs.1 c i (by omega)]), ?_, ff⟩
      · rw [q2 j, fs.1 250 j (by omega)]; exact h2 j
      · rw [ft.1 3 1 (by omega)]; exact a31
      · unfold FlT
        rw [ft.1 2 18 (by omega), a18, q3.1, q4.1]
end
