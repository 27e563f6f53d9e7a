-- needs: 6x.prt
theorem Fq_gi {A B : Nat → Nat → Prop} {s t : SM} (h : Fq A B s t) : Fp A s (t.1, s.2.1, t.2.2) := ⟨h.1, rfl, h.2.2⟩
theorem LdR_fq {s t : SM} {L P : Nat} {g : Nat → Int} {A B : Nat → Nat → Prop} (h : LdR s L P g) (hf : Fq A B s t) (hA : ∀ c i, (P ≤ c ∧ c ≤ P + 6) ∨ (L ≤ c ∧ c ≤ L + 11) → ¬ A c i) : LdR t L P g := by
  have k := LdR_fp (t := (t.1, s.2.1, t.2.2)) h (Fq_gi hf) hA
  exact k
theorem RR_fq {s t : SM} {g : Nat → Int} {A B : Nat → Nat → Prop} (h : RR s g) (hf : Fq A B s t) (hA : ∀ i, ¬ A 250 i) : RR t g := by
  have k := RR_fp (t := (t.1, s.2.1, t.2.2)) h (Fq_gi hf) hA
  exact k
theorem HI_fq {s t : SM} {g : Nat → Int} {A B : Nat → Nat → Prop} (hi : HI s g) (hf : Fq A B s t) (hA : ∀ c i, c = 55 ∨ (57 ≤ c ∧ c ≤ 164) ∨ c = 255 ∨ (c = 248 ∧ i = 25) → ¬ A c i) : HI t g := by
  have k := HI_fp (t := (t.1, s.2.1, t.2.2)) hi (fun _ _ => rfl) (Fq_gi hf) hA
  exact k
theorem NmT_fq {s t : SM} {g : Nat → Int} {A B : Nat → Nat → Prop} (h : NmT s g) (hw : WF g) (hf : Fq A B s t) (hB : ∀ c i, c = 6 ∨ c = 9 ∨ (c = 253 ∧ i < 15) → ¬ B c i) : NmT t g := by
  have h0 := hw.w0
  refine ⟨fun b hb => ?_, fun k hk => ?_⟩
  · rw [hf.2.1 6 b (hB _ _ (by omega)), hf.2.1 253 b (hB _ _ (by omega))]; exact h.1 b hb
  · rw [hf.2.1 9 k (hB _ _ (by omega)), hf.2.1 253 _ (hB _ _ (by omega))]; exact h.2 k hk
/-- the latest fault, on both sides -/
def FlT (s : SM) : Prop := gI s 2 18 = gI s 248 15
abbrev ReT (s : SM) : Prop := ∀ i, i < 17 → gL s 254 i = WV i
abbrev QpI (c i : Nat) : Prop := YpI c i ∨ PoI c i
abbrev QpL (c i : Nat) : Prop := YpL c i ∨ PoL c i
section
variable {s : SM} {g : Nat → Int} {N : Nat} {bt : Nat → Int} {G : Nat → Nat → Int} {r : Nat}
theorem q_port (h : LdR s 31 5 g) (h2 : RR s g) (hw : WF g) (hi : HI s g) (ht : TpB s N bt) (hv : SvT s g G r) (hr9 : r < 100000) (hn : NmT s g) (hre : ReT s) (hb : BkR s g) : rX11_port s ∧ rX12_port (mX11_port s) ∧ vX11_port s = vX12_port (mX11_port s) ∧ ∃ g' G' r', (g' = g ∨ g' 34 = 0) ∧ WF g' ∧ LdR (mX12_port (mX11_port s)) 31 5 g' ∧ RR (mX12_port (mX11_port s)) g' ∧ HI (mX12_port (mX11_port s)) g' ∧ gI (mX12_port (mX11_port s)) 3 1 = 0 ∧ gI (mX12_port (mX11_port s)) 248 2 = 0 ∧ SvT (mX12_port (mX11_port s)) g' G' r' ∧ (∀ v, v ≤ r → G' v = G v) ∧ r ≤ r' ∧ r' ≤ r + 1 ∧ NmT (mX12_port (mX11_port s)) g' ∧ BkR (mX12_port (mX11_port s)) g' ∧ FlT (mX12_port (mX11_port s)) ∧ Fq QpI QpL s (mX12_port (mX11_port s)) := by
  obtain ⟨hN, hy, hx⟩ := TpB_i.mp ht
  obtain ⟨s', u0, m1, m2, -, -, f1, -, -, -⟩ := pt_read (t := s) hN hy hx hre
  -- the reference, from any state that keeps the tape and the words
  have xs : ∀ t : SM, TpX t N bt → ReT t → ∃ t', rX12_port t ∧ mX12_port t = t' ∧ Fq PoI PoL t t' ∧ gI t' 248 2 = 0 ∧ ((vX6_readFrom s 12 = 1 ∧ vX12_port t = gI s' 12 10 ∧ (∃ nb nk t1, BdR s' t1 nb ∧ KiR s' t1 nk ∧ LiR s' t1 ∧ (∀ i, i < 34 → gI t' 250 i = gI t1 251 i) ∧ (∀ i, 34 ≤ i → i < 787 → gI t' 250 i = 0) ∧ (∀ i, i < 15 → gL t' 253 i = gL t1 253 (15 + i))) ∧ gI t' 248 25 = 0 ∧ gI t' 248 22 = gI t 248 23 + 1 ∧ gI t' 248 23 = gI t 248 23 + 1 ∧ gI t' 248 15 = 0 ∧ gI s' 3 2 = 0) ∨ (vX6_readFrom s 12 = 0 ∧ Fq PvI PxL t t' ∧ ∃ f A, FtY s' f A ∧ FtX t' f A ∧ vX12_port t = -1 - zI (A : Int))) := by
    intro t hxt hret
    obtain ⟨s'', t', n1, -, n3, n4, -, n6, n7, n8⟩ := pt_read (t := t) hN hy hxt hret
    have e : s'' = s' := n1.symm.trans m1
    subst e
    exact ⟨t', n3, n4, n6, n7, n8⟩
  have hv01 : vX6_readFrom s 12 = 1 ∨ vX6_readFrom s 12 = 0 := by
    obtain ⟨t', -, -, -, -, q⟩ := xs s hx hre
    rcases q with q | q
    · exact Or.inl q.1
    · exact Or.inr q.1
  obtain ⟨v1, v2, v3, ⟨v, w1, w2, w3, w4⟩⟩ := hv
  rcases hv01 with hv1 | hv0
  · obtain ⟨s6, e1, e2, e3, a5, a511, a219, a218, a31, ab, ak, a19, a319, a3110, a3114, a552, fs⟩ := y_port1 m1 hv1 m2 f1
    obtain ⟨t', r1, r2, ft, t2, q⟩ := xs s6 ⟨by rw [fs.1 248 2 (by omega)]; exact hx.1, fun i hi => by rw [fs.1 249 i (by omega)]; exact hx.2 i hi⟩ (fun i hi => by rw [fs.2.1 254 i (by omega)]; exact hre i hi)
    rcases q with ⟨-, q2, ⟨nb, nk, t1, b1, b2, b3, b4, b5, b6⟩, q4, q5, q6, q7, q8⟩ | ⟨q1, -⟩
    · have hfw := frG_wf (old := g) b1 b2 b3
      obtain ⟨g', hg'⟩ : ∃ g', g' = frG t1 g := ⟨_, rfl⟩
      rw [← hg'] at hfw
      obtain ⟨hw', g0, g1⟩ := hfw
      obtain ⟨hb1, hb2, hb3, hb4⟩ := b1
      obtain ⟨hk1, hk2, hk3, hk4⟩ := b2
      obtain ⟨⟨l, l1, l2, l3⟩, ⟨d, d1, d2, d3⟩, -, -⟩ := b3
      have g34 : g' 34 = 0 := by rw [hg']; exact frG_mid (by omega) (by omega)
      have g35 : g' 35 = 0 := by rw [hg']; exact frG_mid (by omega) (by omega)
      have g36 : g' 36 = 0 := by rw [hg']; exact frG_mid (by omega) (by omega)
      have g586 : g' 586 = 0 := by rw [hg']; exact frG_mid (by omega) (by omega)
      have g2 : g' 2 = l := by rw [hg']; exact frG_lo (by omega) (by omega) l3
      have g3 : g' 3 = d := by rw [hg']; exact frG_lo (by omega) (by omega) d3
      have em : mX12_port (mX11_port s) = t' := by rw [e1]; exact r2
      have tc : ∀ c i, ¬ PoI c i → gI t' c i = gI s6 c i := ft.1
      have hz0 : zI 0 = 0 := rfl
      rw [em]
      refine ⟨e2, by rw [e1]; exact r1, by rw [e1, e3, q2], g', fun x => if x = r + 1 then g' else G x, r + 1, Or.inr g34, hw', ⟨⟨⟨?_, ?_, ?_, ?_⟩, fun b hbd => ?_, fun k hkd => ?_⟩, ⟨⟨?_, ?_, ?_⟩, fun b hbd => ?_, fun e he => ?_⟩⟩, fun k => ?_, ?_, ?_, t2, ⟨by omega, ?_, ?_, r + 1, Nat.le_refl _, ?_, ?_, ?_⟩, fun x hx => ?_, by omega, Nat.le_refl _, ⟨fun b hbb => ?_, fun k hkk => ?_⟩, ⟨?_, by omega, fun i hi => ?_⟩, ?_, ?_⟩
      · rw [tc 5 6 (by omega), a5 6 (by omega) (by omega), hb2, g0]
      · rw [tc 5 7 (by omega), a5 7 (by omega) (by omega), hk2, g1]
      · rw [tc 5 8 (by omega), a5 8 (by omega) (by omega), l2, g2]
      · rw [tc 5 9 (by omega), a5 9 (by omega) (by omega), d2, g3]
      · have hbd : 0 ≤ b ∧ b < g' 0 := hbd
        rw [g0] at hbd
        obtain ⟨n, rfl⟩ := Int.eq_ofNat_of_zero_le hbd.1
        obtain ⟨-, x, y, c1, c2, c3, c4, c5, c6⟩ := hb4 n (by omega)
        have e4 : rmZ g' (n : Int) = x := by unfold rmZ; rw [show ((4 + (n : Int)).toNat) = 4 + n by omega, hg']; exact frG_lo (by omega) (by omega) c4
        have e13 : kiZ g' (n : Int) = y := by unfold kiZ; rw [show ((13 + (n : Int)).toNat) = 13 + n by omega, hg']; exact frG_lo (by omega) (by omega) c6
        have ab' := ab n (by omega)
        rw [Int.toNat_natCast, tc 7 n (by omega), tc 8 n (by omega), ab'.1, ab'.2.1, c3, c5, e4, e13]
        exact ⟨rfl, rfl⟩
      · have hkd : 0 ≤ k ∧ k < g' 1 := hkd
        rw [g1] at hkd
        obtain ⟨n, rfl⟩ := Int.eq_ofNat_of_zero_le hkd.1
        obtain ⟨-, z, y, c1, c2, c3, c4, c5, c6⟩ := hk4 n (by omega)
        have e22 : szZ g' (n : Int) = z := by unfold szZ; rw [show ((22 + (n : Int)).toNat) = 22 + n by omega, hg']; exact frG_lo (by omega) (by omega) c4
        have e28 : soZ g' (n : Int) = y := by unfold soZ; rw [show ((28 + (n : Int)).toNat) = 28 + n by omega, hg']; exact frG_lo (by omega) (by omega) c6
        have ak' := ak n (by omega)
        rw [Int.toNat_natCast, tc 10 n (by omega), tc 11 n (by omega), ak'.1, ak'.2.1, c3, c5, e22, e28]
        exact ⟨rfl, rfl⟩
      · rw [tc 31 9 (by omega), a319, g34]; rfl
      · rw [tc 31 10 (by omega), a3110, g35]; rfl
      · rw [tc 31 14 (by omega), a3114, g36]; rfl
      · have hbd : 0 ≤ b ∧ b < g' 0 := hbd
        rw [g0] at hbd
        obtain ⟨n, rfl⟩ := Int.eq_ofNat_of_zero_le hbd.1
        obtain ⟨-, x, y, c1, c2, c3, c4, c5, c6⟩ := hb4 n (by omega)
        have e4 : rmZ g' (n : Int) = x := by unfold rmZ; rw [show ((4 + (n : Int)).toNat) = 4 + n by omega, hg']; exact frG_lo (by omega) (by omega) c4
        have e37 : exZ g' (n : Int) = 0 := by unfold exZ; rw [show ((37 + (n : Int)).toNat) = 37 + n by omega, hg']; exact frG_mid (by omega) (by omega)
        have el : lefZ g' (n : Int) = x := by
          unfold lefZ
          rw [e4, e37, g34]
          show x - 0 - 0 = x
          omega
        have ab' := ab n (by omega)
        unfold LdB
        rw [Int.toNat_natCast, el, e37]
        show gI t' 38 n = _ ∧ gI t' 39 n = _
        rw [tc 38 n (by omega), tc 39 n (by omega), ab'.2.2.2.1, ab'.2.2.2.2, c3]
        exact ⟨rfl, rfl⟩
      · have he : 0 ≤ e ∧ e < g' 34 := he
        rw [g34] at he
        omega
      · by_cases c1 : k < 34
        · rw [b4 k c1, hg']
          unfold frG
          rw [if_pos c1, zI_tI]
        · by_cases c2 : k < 787
          · rw [b5 k (by omega) c2, hg', frG_mid (by omega) c2]; rfl
          · rw [tc 250 k (by omega), fs.1 250 k (by omega), hg']
            unfold frG
            rw [if_neg c1, if_neg c2]
            exact h2 k
      · obtain ⟨nt, kp, x1, -, x3, -⟩ := hi
        exact ⟨nt, 0, x1, by omega, by rw [tc 55 1 (by omega), fs.1 55 1 (by omega)]; exact x3, by rw [tc 55 2 (by omega), a552]; rfl, by rw [q4]; rfl, fun j hj => absurd hj (by omega), WA_0 g34⟩
      · rw [tc 3 1 (by omega), a31]
      · rw [tc 2 19 (by omega), a219, v2, zl1, z_add]; congr 1
      · rw [q6, fs.1 248 23 (by omega), v3, zl1, z_add]; congr 1
      · rw [tc 5 11 (by omega), a511, v2, zl1, z_add]; congr 1
      · rw [q5, fs.1 248 23 (by omega), v3, zl1, z_add]; congr 1
      · intro k hk
        show g' k = (if r + 1 = r + 1 then g' else G (r + 1)) k
        rw [if_pos rfl]
      · show (if x = r + 1 then g' else G x) = G x
        rw [if_neg (by omega)]
      · rw [g0] at hbb
        obtain ⟨c0, -⟩ := hb4 b (by omega)
        rw [ft.2.1 6 b (by omega), (ab b (by omega)).2.2.1, c0, b6 b (by omega)]
      · rw [g1] at hkk
        obtain ⟨c0, -⟩ := hk4 k (by omega)
        rw [ft.2.1 9 k (by omega), (ak k (by omega)).2.2, c0, b6 (9 + k) (by omega), show 15 + (9 + k) = 24 + k by omega]
      · rw [tc 19 0 (by omega), a19, g586]; rfl
      · omega
      · unfold FlT
        rw [tc 2 18 (by omega), a218, q8, q7]
      · exact Fq_tr (Fq_mo fs (fun c i hc => Or.inl hc) (fun c i hc => Or.inl hc)) (Fq_mo ft (fun c i hc => Or.inr hc) (fun c i hc => Or.inr hc))
    · exact absurd (hv1.symm.trans q1) (by decide)
  · obtain ⟨s6, hs6⟩ : ∃ s6, s6 = pI (pI s' 2 18 (gI s' 3 2)) 3 1 0 := ⟨_, rfl⟩
    have f6 : Fq (fun c i => (c = 2 ∧ i = 18) ∨ (c = 3 ∧ i = 1)) (fun _ _ => False) s' s6 := by rw [hs6]; exact Fq_tr (Fq_p _ (by omega)) (Fq_p _ (by omega))
    have e1 : mX11_port s = s6 := by unfold mX11_port; rw [if_pos hv0, m1]; exact hs6.symm
    have e2 : rX11_port s := by unfold rX11_port; exact ⟨m2, fun hc => absurd hv0 hc⟩
    have e3 : vX11_port s = -1 - gI s' 3 3 := by
      unfold vX11_port
      rw [if_pos hv0, m1, ← hs6, f6.1 3 3 (by omega)]
    have fs : Fq YpI YpL s s6 := Fq_tr (Fq_mo f1 (fun _ _ hc => Pz_Yp hc) (fun _ _ hc => PyL_Yp hc)) (Fq_mo f6 (fun c i hc => by omega) (fun _ _ h => h.elim))
    have fs2 : Fq (fun c i => PzI c i ∨ (c = 2 ∧ i = 18) ∨ (c = 3 ∧ i = 1)) PyL s s6 := Fq_tr (Fq_mo f1 (fun c i hc => Or.inl hc) (fun c i hc => hc)) (Fq_mo f6 (fun c i hc => Or.inr hc) (fun _ _ h => h.elim))
    obtain ⟨t', r1, r2, ft, t2, q⟩ := xs s6 ⟨by rw [fs2.1 248 2 (by omega)]; exact hx.1, fun i hi => by rw [fs2.1 249 i (by omega)]; exact hx.2 i hi⟩ (fun i hi => by rw [fs2.2.1 254 i (by omega)]; exact hre i hi)
    rcases q with ⟨q1, -⟩ | ⟨-, ft2, f, A, q3, q4, q5⟩
    · exact absurd (hv0.symm.trans q1) (by decide)
    · have em : mX12_port (mX11_port s) = t' := by rw [e1]; exact r2
      have fa : Fq (fun c i => PzI c i ∨ (c = 2 ∧ i = 18) ∨ (c = 3 ∧ i = 1) ∨ PvI c i) (fun c i => PyL c i ∨ PxL c i) s t' := Fq_tr (Fq_mo fs2 (fun c i hc => hc.elim Or.inl (fun h => h.elim (fun h => Or.inr (Or.inl h)) (fun h => Or.inr (Or.inr (Or.inl h))))) (fun c i hc => Or.inl hc)) (Fq_mo ft2 (fun c i hc => Or.inr (Or.inr (Or.inr hc))) (fun c i hc => Or.inr hc))
      rw [em]
      refine ⟨e2, by rw [e1]; exact r1, by rw [e1, e3, q5, q3.2], g, G, r, Or.inl rfl, hw, LdR_fq h fa (fun c i hc => by omega), RR_fq h2 fa (fun i => by omega), HI_fq hi fa (fun c i hc => by omega), ?_, t2, ⟨v1, ?_, ?_, v, w1, ?_, ?_, w4⟩, fun _ _ => rfl, Nat.le_refl _, by omega, NmT_fq hn hw fa (fun c i hc => by omega), BkR_fr hb rfl rfl (fun _ _ => rfl) (fun c h1 h2 => by funext i; exact fa.1 c i (by omega)), ?_, ?_⟩
      · rw [ft.1 3 1 (by omega), hs6, gI_pI, if_pos ⟨rfl, rfl⟩]
      · rw [fa.1 2 19 (by omega)]; exact v2
      · rw [fa.1 248 23 (by omega)]; exact v3
      · rw [fa.1 5 11 (by omega)]; exact w2
      · rw [fa.1 248 22 (by omega)]; exact w3
      · unfold FlT
        rw [ft.1 2 18 (by omega), hs6, gI_pI, if_neg (by omega), gI_pI, if_pos ⟨rfl, rfl⟩, q3.1, q4.1]
      · exact Fq_tr (Fq_mo fs (fun c i hc => Or.inl hc) (fun c i hc => Or.inl hc)) (Fq_mo ft (fun c i hc => Or.inr hc) (fun c i hc => Or.inr hc))
end
