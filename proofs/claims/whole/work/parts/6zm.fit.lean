-- needs: 6zl1.fit
section
variable {s : SM} {g : Nat → Int} {el : Nat → Nat} {m M : Nat} {NB told ot : Int → Int}
/-- what both sides call the i-th that is lost -/
def LoX (g : Nat → Int) (el : Nat → Nat) (m : Nat) : Prop := ∀ u : SM, RR u g → (∀ i, i < m → vX12_lostOf u (zI (i : Int)) = zI (el i : Int) ∧ rX12_lostOf u (zI (i : Int)))
theorem x_lostE (hw : WF g) : LoX g (loE (loL g (g 34).toNat)) (loL g (g 34).toNat).length := by
  intro u h i hi
  have h0 := hw.w0
  have hb := (loL_b g (g 34).toNat).2
  obtain ⟨e1, r1⟩ := x_lost_l h hw (zI (i : Int))
  have e2 := loL_run g (k := (i : Int)) (by omega) (g 34).toNat 0 (by omega) (Or.inl (by show ((0 : Nat) : Int) ≤ i; omega))
  rw [Nat.zero_add, if_neg (by omega), if_pos (by omega), Int.toNat_natCast] at e2
  have e3 : (loL g 0).length = 0 := rfl
  rw [e3] at e2
  unfold vX12_lostOf rX12_lostOf fX12_lostOf
  exact ⟨(show lX12_lostOf FU u (zI (i : Int)) 0 0 = _ from e1).trans e2, r1⟩
theorem x_lostN (hw : WF g) {u : SM} (h : RR u g) : vX12_lostOf u (-1) = zI ((loL g (g 34).toNat).length : Int) ∧ rX12_lostOf u (-1) := by
  have h0 := hw.w0
  have hb := (loL_b g (g 34).toNat).2
  obtain ⟨e1, r1⟩ := x_lost_l h hw (zI (-1))
  have e2 := loL_run g (k := -1) (by omega) (g 34).toNat 0 (by omega) (Or.inr rfl)
  rw [Nat.zero_add, if_pos rfl] at e2
  have e3 : (loL g 0).length = 0 := rfl
  rw [e3] at e2
  unfold vX12_lostOf rX12_lostOf fX12_lostOf
  exact ⟨(show lX12_lostOf FU u (zI (-1)) 0 0 = _ from e1).trans e2, r1⟩
def FxD (g : Nat → Int) (el : Nat → Nat) (m M : Nat) (NB told ot : Int → Int) : Prop := m ≤ 4 ∧ (1 ≤ M ∧ M ≤ 20) ∧ (∀ i, i < m → opZ g (el i) ∧ ¬ sorZ g (el i) = 3) ∧ WF g ∧ LoX g el m ∧ (∀ b, NB b = told b - ot b) ∧ (∀ b, -100000 ≤ told b ∧ told b ≤ 100000) ∧ ∀ b, -100000 ≤ ot b ∧ ot b ≤ 100000
def FxC (g : Nat → Int) (told ot : Int → Int) (s : SM) : Prop := RR s g ∧ ∀ b, bdyZ g b → gI s 273 b.toNat = zI (told b) ∧ gI s 274 b.toNat = zI (ot b)
theorem FxC_c {t : SM} {A : Nat → Nat → Prop} (h : FxC g told ot s) (hf : Fp A s t) (hA : ∀ c i, c = 250 ∨ c = 273 ∨ c = 274 → ¬ A c i) : FxC g told ot t := ⟨RR_fp h.1 hf (fun i => hA _ _ (by omega)), fun b hb => ⟨by rw [hf.1 273 _ (hA _ _ (by omega))]; exact (h.2 b hb).1, by rw [hf.1 274 _ (hA _ _ (by omega))]; exact (h.2 b hb).2⟩⟩
theorem x_isFit (hD : FxD g el m M NB told ot) (hC : FxC g told ot s) {c : List Nat} (hP : MPx 272 s c) (hl : c.length = m) (hcb : ∀ w ∈ c, 1 ≤ w ∧ w ≤ M) : ∃ s', mX12_isFit s (zI (m : Int)) = s' ∧ rX12_isFit s (zI (m : Int)) ∧ Fp (fun c _ => c = 261) s s' ∧ (fitP g el NB c → vX12_isFit s (zI (m : Int)) = 1) ∧ (¬ fitP g el NB c → vX12_isFit s (zI (m : Int)) = 0) := by
  obtain ⟨hm4, hM, hop, hw, hlo, hNB, hto, hot⟩ := hD
  have h0 := hw.w0
  have enb : (((g 0).toNat : Nat) : Int) = g 0 := by omega
  obtain ⟨nb, hnb⟩ : ∃ nb, nb = (g 0).toNat := ⟨_, rfl⟩
  rw [← hnb] at enb
  have c00 : ((0 : Int32)).toNatClampNeg = 0 := rfl
  -- the nets but for what is lost
  obtain ⟨s1, ⟨i1, i2⟩, st1⟩ := ST_up (B := 1) nb (fun (d : Nat) (u : SM) => (∀ b, b < d → gI u 261 b = gI s 274 b) ∧ Fp (fun c _ => c = 261) s u) (fun d u k => (lX12_isFit k).1 u (zI (m : Int)) (zI (d : Int))) (fun d u k => (qX12_isFit k).1 u (zI (m : Int)) (zI (d : Int))) (fun d u hd ⟨a1, a2⟩ => by
    have eg : gI u 250 0 = zI (nb : Int) := by rw [a2.1 250 0 (by omega), enb]; exact hC.1 0
    have nle : ¬ zI (nb : Int) ≤ zI (d : Int) := by rw [z_le (by omega) (by omega)]; omega
    have cd : (zI (d : Int)).toNatClampNeg = d := by rw [z_cl (by omega)]; exact Int.toNat_natCast _
    have vd : vp_in (zI (d : Int)) 9 := by rw [z_in (by omega)]; omega
    have e1 : zI (d : Int) + 1 = zI ((d + 1 : Nat) : Int) := by rw [zl1, z_add]; congr 1
    have e274 : gI u 274 d = gI s 274 d := a2.1 274 d (by omega)
    refine ⟨pI u 261 d (gI s 274 d), ⟨fun b hb => ?_, Fp_tr a2 (Fp_p u rfl)⟩, ST_1 fun k => ?_⟩
    · rw [gI_pI]
      by_cases hq : b = d
      · rw [if_pos ⟨rfl, hq⟩, hq]
      · rw [if_neg (by omega)]; exact a1 b (by omega)
    · show tX12_isFit_2 (lX12_isFit k) u (zI (m : Int)) (zI (d : Int)) = _ ∧ (_ → uX12_isFit_2 (qX12_isFit k) u (zI (m : Int)) (zI (d : Int)))
      unfold tX12_isFit_2 uX12_isFit_2
      rw [c00, eg, if_neg nle, cd, e274, e1]
      exact ⟨rfl, fun hh => ⟨fun hc => absurd hc nle, fun _ => ⟨vd, vd, hh⟩⟩⟩) nb 0 s (by omega) ⟨fun b hb => absurd hb (by omega), Fp_rf _ s⟩
  have p1 : ST 1 (fun k => (lX12_isFit k).1 s1 (zI (m : Int)) (zI (nb : Int))) (fun k => (qX12_isFit k).1 s1 (zI (m : Int)) (zI (nb : Int))) (fun k => (lX12_isFit k).2.1 s1 (zI (m : Int)) (zI ((0 : Nat) : Int))) (fun k => (qX12_isFit k).2.1 s1 (zI (m : Int)) (zI ((0 : Nat) : Int))) := ST_1 fun k => by
    have eg : gI s1 250 0 = zI (nb : Int) := by rw [i2.1 250 0 (by omega), enb]; exact hC.1 0
    show tX12_isFit_2 (lX12_isFit k) s1 (zI (m : Int)) (zI (nb : Int)) = _ ∧ (_ → uX12_isFit_2 (qX12_isFit k) s1 (zI (m : Int)) (zI (nb : Int)))
    unfold tX12_isFit_2 uX12_isFit_2
    rw [c00, eg, if_pos (Int32.le_refl _)]
    exact ⟨rfl, fun hh => ⟨fun _ => hh, fun hc => absurd (Int32.le_refl _) hc⟩⟩
  -- with the sums
  obtain ⟨s2, ⟨j1, j2⟩, st2⟩ := ST_up (B := 1) m (fun (d : Nat) (u : SM) => (∀ b, bdyZ g b → gI u 261 b.toNat = zI (ot b + smT g el b (ini c d))) ∧ Fp (fun c _ => c = 261) s u) (fun d u k => (lX12_isFit k).2.1 u (zI (m : Int)) (zI (d : Int))) (fun d u k => (qX12_isFit k).2.1 u (zI (m : Int)) (zI (d : Int))) (fun d u hd ⟨a1, a2⟩ => by
    have nle : ¬ zI (m : Int) ≤ zI (d : Int) := by rw [z_le (by omega) (by omega)]; omega
    have cd : (zI (d : Int)).toNatClampNeg = d := by rw [z_cl (by omega)]; exact Int.toNat_natCast _
    have vd : vp_in (zI (d : Int)) 4 := by rw [z_in (by omega)]; omega
    have e1 : zI (d : Int) + 1 = zI ((d + 1 : Nat) : Int) := by rw [zl1, z_add]; congr 1
    have ru : RR u g := RR_fp hC.1 a2 (fun i => by omega)
    obtain ⟨q1, q2⟩ := hlo u ru d hd
    obtain ⟨ho, -⟩ := hop d hd
    have hwd := hw.wd ho.1
    have hft := (hwd.2.2.2.2.2.2.2.2.2 ho.2).2.1
    obtain ⟨f, hf⟩ : ∃ f, f = oZ g (el d) 0 := ⟨_, rfl⟩
    obtain ⟨t, ht⟩ : ∃ t, t = oZ g (el d) 1 := ⟨_, rfl⟩
    have hel := ho.1.2
    have of0 : vX12_of u (zI (el d : Int)) 0 = zI f ∧ rX12_of u (zI (el d : Int)) 0 := by rw [hf]; exact ⟨x_of ru (d := (el d : Int)) (w := 0) (by omega) (by omega), x_of_r u (d := (el d : Int)) (w := 0) (by omega) (by omega)⟩
    obtain ⟨es, rs⟩ := x_sortOf ru hw ho.1
    obtain ⟨w, w1, w2, w3, -⟩ := MPx_k hP d (by omega)
    have hwb := hcb w w1
    have w2u : gI u 272 d = zI (w : Int) := by rw [a2.1 272 d (by omega)]; exact w2
    have hsy := (hw.siz ho.1).2
    have ev : vX12_valueBy u (zI (w : Int)) (zI (sorZ g (el d))) = zI (viT g el d w) := x_valueBy u (by omega) (by omega)
    have li : (ini c d).length = d := by unfold ini; rw [List.length_drop]; omega
    have sm : ∀ b, smT g el b (ini c (d + 1)) = smT g el b (ini c d) + ((if f = b then viT g el d w else 0) - (if t = b then viT g el d w else 0)) := fun b => by
      rw [w3]
      show smT g el b (ini c d) + svT g el b (ini c d).length (viT g el (ini c d).length w) = _
      rw [li]
      unfold svT
      rw [← hf, ← ht]
    have bf : bdyZ g f := by rw [hf]; exact hwd.1
    have bt : bdyZ g t := by rw [ht]; exact hwd.2.1
    rw [← hf, ← ht] at hft
    have bf' : 0 ≤ f ∧ f < 9 := ⟨bf.1, by have := bf.2; omega⟩
    have bt' : 0 ≤ t ∧ t < 9 := ⟨bt.1, by have := bt.2; omega⟩
    have cf : (zI f).toNatClampNeg = f.toNat := z_cl (by omega)
    have ct : (zI t).toNatClampNeg = t.toNat := z_cl (by omega)
    have vf : vp_in (zI f) 9 := by rw [z_in (by omega)]; omega
    have vt : vp_in (zI t) 9 := by rw [z_in (by omega)]; omega
    obtain ⟨v, hv⟩ : ∃ v, v = viT g el d w := ⟨_, rfl⟩
    rw [← hv] at ev
    obtain ⟨u4, hu4⟩ : ∃ u4, u4 = pI u 261 f.toNat (zI (ot f + smT g el f (ini c d) + v)) := ⟨_, rfl⟩
    have f4 : Fp (fun c _ => c = 261) u u4 := by rw [hu4]; exact Fp_p u rfl
    have ru4 : RR u4 g := RR_fp ru f4 (fun i => by omega)
    obtain ⟨q14, q24⟩ := hlo u4 ru4 d hd
    have of1 : vX12_of u4 (zI (el d : Int)) 1 = zI t ∧ rX12_of u4 (zI (el d : Int)) 1 := by rw [ht]; exact ⟨x_of ru4 (d := (el d : Int)) (w := 1) (by omega) (by omega), x_of_r u4 (d := (el d : Int)) (w := 1) (by omega) (by omega)⟩
    obtain ⟨u7, hu7⟩ : ∃ u7, u7 = pI u4 261 t.toNat (zI (ot t + smT g el t (ini c d) - v)) := ⟨_, rfl⟩
    have f7 : Fp (fun c _ => c = 261) u4 u7 := by rw [hu7]; exact Fp_p u4 rfl
    have mk4 : pI u 261 f.toNat (gI u 261 f.toNat + zI v) = u4 := by rw [a1 f bf, z_add]; exact hu4.symm
    have e4t : gI u4 261 t.toNat = zI (ot t + smT g el t (ini c d)) := by rw [hu4, gI_pI, if_neg (by omega)]; exact a1 t bt
    have mk7 : pI u4 261 t.toNat (gI u4 261 t.toNat - zI v) = u7 := by rw [e4t, z_sub]; exact hu7.symm
    refine ⟨u7, ⟨fun b hb => ?_, Fp_tr a2 (Fp_tr f4 f7)⟩, ST_1 fun k => ?_⟩
    · have hb' : 0 ≤ b ∧ b < 9 := ⟨hb.1, by have := hb.2; omega⟩
      rw [sm b, ← hv, hu7, gI_pI]
      by_cases k1 : t = b
      · rw [if_pos ⟨rfl, by rw [k1]⟩, if_neg (by omega), if_pos k1, k1]; congr 1; omega
      · rw [if_neg (by omega), hu4, gI_pI]
        by_cases k2 : f = b
        · rw [if_pos ⟨rfl, by rw [k2]⟩, if_pos k2, if_neg k1, k2]; congr 1; omega
        · rw [if_neg (by omega), if_neg k2, if_neg k1, a1 b hb]; congr 1; omega
    · show tX12_isFit_32 (lX12_isFit k) u (zI (m : Int)) (zI (d : Int)) = _ ∧ (_ → uX12_isFit_32 (qX12_isFit k) u (zI (m : Int)) (zI (d : Int)))
      unfold tX12_isFit_32 uX12_isFit_32
      rw [if_neg nle, q1, cd, w2u, es, ev, of0.1, cf, mk4]
      dsimp only
      rw [of1.1, ct, mk7, e1]
      refine ⟨rfl, fun hh => ⟨fun hc => absurd hc nle, fun _ => ⟨q2, vd, rs, of0.2, vf, vf, fun s4 h4 => ?_⟩⟩⟩
      rw [h4, of1.1, ct, mk7]
      exact ⟨of1.2, vt, vt, fun s7 h7 => by rw [h7]; exact hh⟩) m 0 s1 (by omega) ⟨fun b hb => by
      have hb' : 0 ≤ b ∧ b < g 0 := hb
      rw [i1 b.toNat (by omega), (hC.2 b hb).2, ini_0]
      show _ = zI (ot b + 0)
      rw [Int.add_zero], i2⟩
  have p2 : ST 1 (fun k => (lX12_isFit k).2.1 s2 (zI (m : Int)) (zI (m : Int))) (fun k => (qX12_isFit k).2.1 s2 (zI (m : Int)) (zI (m : Int))) (fun k => (lX12_isFit k).2.2 s2 (zI (m : Int)) (zI ((0 : Nat) : Int))) (fun k => (qX12_isFit k).2.2 s2 (zI (m : Int)) (zI ((0 : Nat) : Int))) := ST_1 fun k => by
    show tX12_isFit_32 (lX12_isFit k) s2 (zI (m : Int)) (zI (m : Int)) = _ ∧ (_ → uX12_isFit_32 (qX12_isFit k) s2 (zI (m : Int)) (zI (m : Int)))
    unfold tX12_isFit_32 uX12_isFit_32
    rw [if_pos (Int32.le_refl _)]
    exact ⟨rfl, fun hh => ⟨fun _ => hh, fun hc => absurd (Int32.le_refl _) hc⟩⟩
  have ec : ini c m = c := by rw [← hl]; exact ini_n c
  rw [ec] at j1
  have r2 : RR s2 g := RR_fp hC.1 j2 (fun i => by omega)
  have bnd := fun b => smT_b (g := g) (el := el) hM.2 b hcb
  -- the nets against those told
  have key : ∀ r d : Nat, d + r = nb → (∀ b : Nat, b < d → livZ g (b : Int) → smT g el (b : Int) c = NB (b : Int)) → ∃ v : Int32, ST (r + 1) (fun k => (lX12_isFit k).2.2 s2 (zI (m : Int)) (zI (d : Int))) (fun k => (qX12_isFit k).2.2 s2 (zI (m : Int)) (zI (d : Int))) (fun _ => (v, s2)) (fun _ => True) ∧ (fitP g el NB c → v = 1) ∧ (¬ fitP g el NB c → v = 0) := by
    intro r
    induction r with
    | zero =>
      intro d hd hok
      have eg : gI s2 250 0 = zI (nb : Int) := by rw [enb]; exact r2 0
      have l : zI (nb : Int) ≤ zI (d : Int) := by rw [z_le (by omega) (by omega)]; omega
      refine ⟨1, ST_1 fun k => ?_, fun _ => rfl, fun hn => absurd (fun b hb hlv => ?_) hn⟩
      · show tX12_isFit_100 (lX12_isFit k) s2 (zI (m : Int)) (zI (d : Int)) = _ ∧ (_ → uX12_isFit_100 (qX12_isFit k) s2 (zI (m : Int)) (zI (d : Int)))
        unfold tX12_isFit_100 uX12_isFit_100
        rw [c00, eg, if_pos l]
        exact ⟨rfl, fun _ hc => absurd l hc⟩
      · have hb' : 0 ≤ b ∧ b < g 0 := hb
        have eb : ((b.toNat : Nat) : Int) = b := by omega
        have := hok b.toNat (by omega) (by rw [eb]; exact hlv)
        rw [eb] at this
        exact this
    | succ r ih =>
      intro d hd hok
      have eg : gI s2 250 0 = zI (nb : Int) := by rw [enb]; exact r2 0
      have l : ¬ zI (nb : Int) ≤ zI (d : Int) := by rw [z_le (by omega) (by omega)]; omega
      have cd : (zI (d : Int)).toNatClampNeg = d := by rw [z_cl (by omega)]; exact Int.toNat_natCast _
      have vd : vp_in (zI (d : Int)) 9 := by rw [z_in (by omega)]; omega
      have e1 : zI (d : Int) + 1 = zI ((d + 1 : Nat) : Int) := by rw [zl1, z_add]; congr 1
      have hbd : bdyZ g (d : Int) := ⟨by omega, by omega⟩
      have lv := x_isLiving r2 (d : Int)
      have k261 : gI s2 261 d = zI (ot d + smT g el d c) := by have := j1 d hbd; rw [Int.toNat_natCast] at this; exact this
      have k273 : gI s2 273 d = zI (told d) := by have := (hC.2 d hbd).1; rw [Int.toNat_natCast] at this; rw [j2.1 273 d (by omega)]; exact this
      have b1 := bnd d
      have b2 := hto d
      have b3 := hot d
      have b4 := hNB d
      have e61 : gI s2 261 d = gI s2 273 d ↔ smT g el d c = NB d := by rw [k261, k273, z_eq (by omega) (by omega)]; omega
      by_cases c1 : livZ g (d : Int)
      · have n1 : ¬ vX12_isLiving s2 (zI (d : Int)) = 0 := by rw [lv, bI_0]; exact fun hc => hc c1
        by_cases c2 : smT g el d c = NB d
        · obtain ⟨v, st, h1, h2⟩ := ih (d + 1) (by omega) (fun b hb hlv => by
            by_cases hq : b = d
            · rw [hq]; exact c2
            · exact hok b (by omega) hlv)
          refine ⟨v, ST_mono (ST_trans (B1 := 1) (ST_1 fun k => ?_) st) (by omega), h1, h2⟩
          show tX12_isFit_100 (lX12_isFit k) s2 (zI (m : Int)) (zI (d : Int)) = _ ∧ (_ → uX12_isFit_100 (qX12_isFit k) s2 (zI (m : Int)) (zI (d : Int)))
          unfold tX12_isFit_100 uX12_isFit_100
          rw [c00, eg, if_neg l, if_neg n1, cd, if_pos (e61.mpr c2), e1]
          exact ⟨rfl, fun hh _ => ⟨fun hc => absurd hc n1, fun _ => ⟨vd, vd, fun _ => hh⟩⟩⟩
        · refine ⟨0, ST_mono (ST_1 fun k => ?_) (show 1 ≤ r + 1 + 1 by omega), fun hp => absurd (hp d hbd c1) c2, fun _ => rfl⟩
          show tX12_isFit_100 (lX12_isFit k) s2 (zI (m : Int)) (zI (d : Int)) = _ ∧ (_ → uX12_isFit_100 (qX12_isFit k) s2 (zI (m : Int)) (zI (d : Int)))
          unfold tX12_isFit_100 uX12_isFit_100
          rw [c00, eg, if_neg l, if_neg n1, cd, if_neg (fun hc => c2 (e61.mp hc))]
          exact ⟨rfl, fun _ _ => ⟨fun hc => absurd hc n1, fun _ => ⟨vd, vd, fun hc => absurd (e61.mp hc) c2⟩⟩⟩
      · have n1 : vX12_isLiving s2 (zI (d : Int)) = 0 := by rw [lv, bI_0]; exact c1
        obtain ⟨v, st, h1, h2⟩ := ih (d + 1) (by omega) (fun b hb hlv => by
          by_cases hq : b = d
          · rw [hq] at hlv; exact absurd hlv c1
          · exact hok b (by omega) hlv)
        refine ⟨v, ST_mono (ST_trans (B1 := 1) (ST_1 fun k => ?_) st) (by omega), h1, h2⟩
        show tX12_isFit_100 (lX12_isFit k) s2 (zI (m : Int)) (zI (d : Int)) = _ ∧ (_ → uX12_isFit_100 (qX12_isFit k) s2 (zI (m : Int)) (zI (d : Int)))
        unfold tX12_isFit_100 uX12_isFit_100
        rw [c00, eg, if_neg l, if_pos n1, e1]
        exact ⟨rfl, fun hh _ => ⟨fun _ => hh, fun hc => absurd n1 hc⟩⟩
  obtain ⟨v, st3, h1, h2⟩ := key nb 0 (by omega) (fun b hb => absurd hb (by omega))
  obtain ⟨E, R⟩ := ST_fu (ST_trans st1 (ST_trans p1 (ST_trans st2 (ST_trans p2 st3)))) (by omega)
  have E' : fX12_isFit s (zI (m : Int)) = (v, s2) := E
  exact ⟨s2, by unfold mX12_isFit; rw [E'], R, j2, fun hp => by unfold vX12_isFit; rw [E']; exact h1 hp, fun hp => by unfold vX12_isFit; rw [E']; exact h2 hp⟩
end
