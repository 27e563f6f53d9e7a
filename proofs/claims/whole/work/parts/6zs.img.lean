-- needs: 6zr.img
/-! what is kept of a day: the class, and both -/
theorem PoR_cp {s t : SM} {P Q : Nat} {g : Nat → Int} (hw : WF g) (h : PoR s Q g) (h1 : ∀ i, 6 ≤ i → i ≤ 11 → gI t P i = gI s Q i) (h2 : ∀ b, b < 9 → gI t (P + 2) b = gI s (Q + 2) b ∧ gI t (P + 3) b = gI s (Q + 3) b) (h3 : ∀ k, k < 6 → gI t (P + 5) k = gI s (Q + 5) k ∧ gI t (P + 6) k = gI s (Q + 6) k) : PoR t P g := by
  have h0 := hw.w0
  obtain ⟨⟨a1, a2, a3, a4⟩, a5, a6⟩ := h
  refine ⟨⟨by rw [h1 6 (by omega) (by omega)]; exact a1, by rw [h1 7 (by omega) (by omega)]; exact a2, by rw [h1 8 (by omega) (by omega)]; exact a3, by rw [h1 9 (by omega) (by omega)]; exact a4⟩, fun b hb => ?_, fun k hk => ?_⟩
  · have hb' : 0 ≤ b ∧ b < g 0 := hb
    obtain ⟨e1, e2⟩ := h2 b.toNat (by omega)
    rw [e1, e2]; exact a5 b hb
  · have hk' : 0 ≤ k ∧ k < g 1 := hk
    obtain ⟨e1, e2⟩ := h3 k.toNat (by omega)
    rw [e1, e2]; exact a6 k hk
def BkB (s : SM) (B : Nat) (g : Nat → Int) : Prop := gI s B 0 = zI (g 586) ∧ (0 ≤ g 586 ∧ g 586 ≤ 40) ∧ ∀ i : Nat, (i : Int) < g 586 → LnD g (g (587 + 5 * i)) (g (588 + 5 * i)) (g (589 + 5 * i)) (g (590 + 5 * i)) (g (591 + 5 * i)) ∧ (gI s (B + 1) i = zI (g (587 + 5 * i)) ∧ (g (587 + 5 * i) = 0 → gI s (B + 2) i = zI (g (588 + 5 * i)) ∧ gI s (B + 3) i = zI (g (589 + 5 * i)) ∧ gI s (B + 4) i = zI (g (590 + 5 * i)) ∧ gI s (B + 5) i = zI (g (591 + 5 * i))) ∧ (g (587 + 5 * i) = 1 → gI s (B + 2) i = zI (g (588 + 5 * i))) ∧ (g (587 + 5 * i) = 2 → gI s (B + 2) i = zI (g (588 + 5 * i)) ∧ gI s (B + 3) i = zI (g (589 + 5 * i))) ∧ (g (587 + 5 * i) = 4 → gI s (B + 2) i = zI (g (588 + 5 * i)) ∧ gI s (B + 3) i = zI (g (589 + 5 * i))))
theorem BkB_19 {s : SM} {g : Nat → Int} : BkB s 19 g ↔ BkR s g := Iff.rfl
theorem BkB_cp {s t : SM} {B Q : Nat} {g : Nat → Int} (h : BkB s Q g) (h0 : gI t B 0 = gI s Q 0) (hj : ∀ i, i < 40 → gI t (B + 1) i = gI s (Q + 1) i ∧ gI t (B + 2) i = gI s (Q + 2) i ∧ gI t (B + 3) i = gI s (Q + 3) i ∧ gI t (B + 4) i = gI s (Q + 4) i ∧ gI t (B + 5) i = gI s (Q + 5) i) : BkB t B g := by
  obtain ⟨b1, b2, b3⟩ := h
  refine ⟨by rw [h0]; exact b1, b2, fun i hi => ?_⟩
  obtain ⟨e1, e2, e3, e4, e5⟩ := hj i (by omega)
  rw [e1, e2, e3, e4, e5]
  exact b3 i hi
theorem BkB_sp {s : SM} {B : Nat} {g g' : Nat → Int} (h : BkB s B g) (hq : ∀ k, k < 787 → g' k = g k) : BkB s B g' := by
  obtain ⟨b1, b2, b3⟩ := h
  have e := hq 586 (by omega)
  refine ⟨by rw [e]; exact b1, by rw [e]; exact b2, fun i hi => ?_⟩
  rw [e] at hi
  rw [hq (587 + 5 * i) (by omega), hq (588 + 5 * i) (by omega), hq (589 + 5 * i) (by omega), hq (590 + 5 * i) (by omega), hq (591 + 5 * i) (by omega)]
  exact ⟨LnD_sp (b3 i hi).1 (hq 0 (by omega)) (hq 1 (by omega)), (b3 i hi).2⟩
/-- one that is kept -/
def ImK (s : SM) (G : Nat → Nat → Int) (r I P L B k : Nat) : Prop := (gI s I 0 = 0 ∧ gI s 277 k = 0) ∨ (¬ gI s I 0 = 0 ∧ ¬ gI s 277 k = 0 ∧ ∃ (u : Nat → Int) (v : Nat), WF u ∧ WA u ∧ LdR s L P u ∧ (∀ b : Nat, (b : Int) < u 0 → gL s (P + 1) b = gL s 276 (15 * k + b)) ∧ (∀ j : Nat, (j : Int) < u 1 → gL s (P + 4) j = gL s 276 (15 * k + (9 + j))) ∧ BkB s B u ∧ v ≤ r ∧ gI s P 11 = zI (v : Int) ∧ gI s 275 (788 * k + 787) = zI (v : Int) ∧ SP (G v) u ∧ ∀ i, i < 787 → gI s 275 (788 * k + i) = zI (u i))
def ImT (s : SM) (G : Nat → Nat → Int) (r : Nat) : Prop := ImK s G r 166 167 174 186 0 ∧ ImK s G r 192 193 200 212 1
theorem ImK_fq {s t : SM} {G G' : Nat → Nat → Int} {r r' I P L B k : Nat} {A A' : Nat → Nat → Prop} (h : ImK s G r I P L B k) (hf : Fq A A' s t) (hG : ∀ v, v ≤ r → G' v = G v) (hr : r ≤ r') (hA : ∀ c i, (c = I ∧ i = 0) ∨ (c = 277 ∧ i = k) ∨ (P ≤ c ∧ c ≤ P + 6) ∨ (L ≤ c ∧ c ≤ L + 11) ∨ (B ≤ c ∧ c ≤ B + 5) ∨ (c = 275 ∧ 788 * k ≤ i ∧ i < 788 * k + 788) → ¬ A c i) (hB : ∀ c i, c = P + 1 ∨ c = P + 4 ∨ (c = 276 ∧ 15 * k ≤ i ∧ i < 15 * k + 15) → ¬ A' c i) : ImK t G' r' I P L B k := by
  have e1 := hf.1 I 0 (hA _ _ (by omega))
  have e2 := hf.1 277 k (hA _ _ (by omega))
  rcases h with ⟨h1, h2⟩ | ⟨h1, h2, u, v, w1, wa, w2, w3, w4, w5, w6, w7, w8, w9, w10⟩
  · exact Or.inl ⟨by rw [e1]; exact h1, by rw [e2]; exact h2⟩
  · have h0 := w1.w0
    refine Or.inr ⟨by rw [e1]; exact h1, by rw [e2]; exact h2, u, v, w1, wa, LdR_fq w2 hf (fun c i hc => hA c i (by omega)), fun b hb => ?_, fun j hj => ?_, BkB_cp w5 (hf.1 _ _ (hA _ _ (by omega))) (fun i _ => ⟨hf.1 _ _ (hA _ _ (by omega)), hf.1 _ _ (hA _ _ (by omega)), hf.1 _ _ (hA _ _ (by omega)), hf.1 _ _ (hA _ _ (by omega)), hf.1 _ _ (hA _ _ (by omega))⟩), by omega, ?_, ?_, by rw [hG v w6]; exact w9, fun i hi => ?_⟩
    · rw [hf.2.1 (P + 1) b (hB _ _ (by omega)), hf.2.1 276 _ (hB _ _ (by omega))]; exact w3 b hb
    · rw [hf.2.1 (P + 4) j (hB _ _ (by omega)), hf.2.1 276 _ (hB _ _ (by omega))]; exact w4 j hj
    · rw [hf.1 P 11 (hA _ _ (by omega))]; exact w7
    · rw [hf.1 275 _ (hA _ _ (by omega))]; exact w8
    · rw [hf.1 275 _ (hA _ _ (by omega))]; exact w10 i hi
theorem ImT_fq {s t : SM} {G G' : Nat → Nat → Int} {r r' : Nat} {A A' : Nat → Nat → Prop} (h : ImT s G r) (hf : Fq A A' s t) (hG : ∀ v, v ≤ r → G' v = G v) (hr : r ≤ r') (hA : ∀ c i, (166 ≤ c ∧ c ≤ 217) ∨ c = 275 ∨ c = 277 → ¬ A c i) (hB : ∀ c i, (166 ≤ c ∧ c ≤ 217) ∨ c = 276 → ¬ A' c i) : ImT t G' r' := ⟨ImK_fq h.1 hf hG hr (fun c i hc => hA c i (by omega)) (fun c i hc => hB c i (by omega)), ImK_fq h.2 hf hG hr (fun c i hc => hA c i (by omega)) (fun c i hc => hB c i (by omega))⟩
abbrev ImI (c i : Nat) : Prop := (166 ≤ c ∧ c ≤ 217) ∨ c = 275 ∨ c = 277 ∨ (c = 248 ∧ i = 0)
abbrev ImL (c _i : Nat) : Prop := (166 ≤ c ∧ c ≤ 217) ∨ c = 276
abbrev ReI (c i : Nat) : Prop := (5 ≤ c ∧ c ≤ 11) ∨ (19 ≤ c ∧ c ≤ 24) ∨ (31 ≤ c ∧ c ≤ 42) ∨ (c = 55 ∧ i = 2) ∨ (c = 250 ∧ i < 787) ∨ (c = 248 ∧ (i = 0 ∨ i = 22 ∨ i = 25))
abbrev ReL (c i : Nat) : Prop := (5 ≤ c ∧ c ≤ 11) ∨ (c = 253 ∧ i < 15)
section
variable {s : SM} {g : Nat → Int} {G : Nat → Nat → Int} {r : Nat}
theorem k_image0 (h : LdR s 31 5 g) (h2 : RR s g) (hw : WF g) (hi : HI s g) (hv : SvT s g G r) (hn : NmT s g) (hb : BkR s g) (hm : ImT s G r) : rX11_image s (zI ((0 : Nat) : Int)) ∧ rX12_image (mX11_image s (zI ((0 : Nat) : Int))) (zI ((0 : Nat) : Int)) ∧ vX11_image s (zI ((0 : Nat) : Int)) = vX12_image (mX11_image s (zI ((0 : Nat) : Int))) (zI ((0 : Nat) : Int)) ∧ ImT (mX12_image (mX11_image s (zI ((0 : Nat) : Int))) (zI ((0 : Nat) : Int))) G r ∧ Fq ImI ImL s (mX12_image (mX11_image s (zI ((0 : Nat) : Int))) (zI ((0 : Nat) : Int))) := by
  have h0 := hw.w0
  obtain ⟨v1, v2, v3, ⟨v, w1, w2, w3, w4⟩⟩ := hv
  have n0 : ¬ zI ((0 : Nat) : Int) < 0 := by decide
  have l2 : zI ((0 : Nat) : Int) < 2 := by decide
  have ck : (zI ((0 : Nat) : Int)).toNatClampNeg = 0 := by decide
  have vk : vp_in (zI ((0 : Nat) : Int)) 2 := by rw [z_in (by omega)]; omega
  have r0 : RF 165 0 = some 166 ∧ rfx 165 0 = 166 ∧ rfx 166 1 = 167 ∧ rfx 166 2 = 174 ∧ rfx 166 3 = 186 := by decide +kernel
  have rI : ((166, 167, 174, 186) : Nat × Nat × Nat × Nat) ∈ IX := by decide
  obtain ⟨r1, r2, r3, r4, r5⟩ := r0
  obtain ⟨s1, hs1⟩ : ∃ s1, s1 = mX6_copyFrom s 167 5 := ⟨_, rfl⟩
  obtain ⟨p1, p2, p3, p4⟩ := y_pc_167_5 s
  rw [← hs1] at p1 p2 p3 p4
  have lds1 : LdR s1 31 5 g := LdR_fq h p4 (fun c i hc => by omega)
  obtain ⟨s2, hs2⟩ : ∃ s2, s2 = mX4_copyFrom s1 174 167 31 5 := ⟨_, rfl⟩
  obtain ⟨c1, c2, c3⟩ := y_copy (s := s1) (P0 := 167) (P1 := 5) (L0 := 174) lds1.2 hw (by omega)
  rw [← hs2] at c1 c2
  have f2 : Fq (fun c _ => 174 ≤ c ∧ c ≤ 185) (fun _ _ => False) s1 s2 := Fq_fp (Fp_fr c2 (fun c hc i => by have hc : 174 ≤ c ∧ c ≤ 174 + 11 := hc; omega))
  obtain ⟨s3, hs3⟩ : ∃ s3, s3 = mX0_copyFrom s2 186 19 := ⟨_, rfl⟩
  obtain ⟨b0, b1, f3⟩ := y_bc_186_19 s2
  rw [← hs3] at b0 b1 f3
  obtain ⟨s4, hs4⟩ : ∃ s4, s4 = pI s3 166 0 1 := ⟨_, rfl⟩
  have f4 : Fq (fun c i => c = 166 ∧ i = 0) (fun _ _ => False) s3 s4 := by rw [hs4]; exact Fq_p s3 ⟨rfl, rfl⟩
  have m4 : mX11_image s (zI ((0 : Nat) : Int)) = s4 := by
    unfold mX11_image mX3_keep
    rw [if_neg n0, if_pos l2, ck, r2, r3, r4, r5, ← hs1, ← hs2, ← hs3, ← hs4]
  obtain ⟨t, x1, x2, x3, x4, x5, x6, x7, x8⟩ := x_image (t := s4) (k := 0) (by omega)
  have F4 : Fq (fun c _ => 166 ≤ c ∧ c ≤ 191) (fun c _ => 167 ≤ c ∧ c ≤ 173) s s4 := Fq_tr (Fq_mo p4 (fun c i hc => by omega) (fun _ _ h => h)) (Fq_tr (Fq_mo f2 (fun c i hc => by omega) (fun _ _ h => h.elim)) (Fq_tr (Fq_mo f3 (fun c i hc => by omega) (fun _ _ h => h.elim)) (Fq_mo f4 (fun c i hc => by omega) (fun _ _ h => h.elim))))
  have F34 : Fq (fun c i => (186 ≤ c ∧ c ≤ 191) ∨ (c = 166 ∧ i = 0)) (fun _ _ => False) s2 s4 := Fq_tr (Fq_mo f3 (fun c i hc => Or.inl hc) (fun _ _ h => h)) (Fq_mo f4 (fun c i hc => Or.inr hc) (fun _ _ h => h))
  have F24 : Fq (fun c i => (174 ≤ c ∧ c ≤ 191) ∨ (c = 166 ∧ i = 0)) (fun _ _ => False) s1 s4 := Fq_tr (Fq_mo f2 (fun c i hc => by omega) (fun _ _ h => h)) (Fq_mo F34 (fun c i hc => by omega) (fun _ _ h => h))
  have po4 : PoR s4 167 g := PoR_cp hw h.1 (fun i h1 h2 => by rw [F24.1 167 i (by omega)]; exact p1 i h1 h2) (fun b hb => by rw [F24.1 (167 + 2) b (by omega), F24.1 (167 + 3) b (by omega)]; exact ⟨(p2 b hb).1, (p2 b hb).2.1⟩) (fun j hj => by rw [F24.1 (167 + 5) j (by omega), F24.1 (167 + 6) j (by omega)]; exact ⟨(p3 j hj).1, (p3 j hj).2.1⟩)
  have ld2 : LdR s2 174 5 g := ⟨(LdR_fq lds1 f2 (fun c i hc => by omega)).1, c1⟩
  have ld4 : LdR s4 174 167 g := ⟨po4, (LdR_fq ld2 F34 (fun c i hc => by omega)).2⟩
  have bk2 : BkB s2 19 g := BkB_cp (BkB_19.mpr hb) (by rw [f2.1 19 0 (by omega), p4.1 19 0 (by omega)]) (fun i _ => ⟨by rw [f2.1 20 i (by omega), p4.1 20 i (by omega)], by rw [f2.1 21 i (by omega), p4.1 21 i (by omega)], by rw [f2.1 22 i (by omega), p4.1 22 i (by omega)], by rw [f2.1 23 i (by omega), p4.1 23 i (by omega)], by rw [f2.1 24 i (by omega), p4.1 24 i (by omega)]⟩)
  have bk4 : BkB s4 186 g := BkB_cp bk2 (by rw [f4.1 186 0 (by omega)]; exact b0) (fun i hi => by
    rw [f4.1 (186 + 1) i (by omega), f4.1 (186 + 2) i (by omega), f4.1 (186 + 3) i (by omega), f4.1 (186 + 4) i (by omega), f4.1 (186 + 5) i (by omega)]
    exact b1 i hi)
  rw [m4, x1, x3]
  have n4 : ¬ gI t 166 0 = 0 := by rw [x8.1 166 0 (by omega), hs4, gI_pI, if_pos ⟨rfl, rfl⟩]; decide
  have FT : Fq (fun c i => (166 ≤ c ∧ c ≤ 191) ∨ (c = 275 ∧ 788 * 0 ≤ i ∧ i < 788 * 0 + 788) ∨ (c = 277 ∧ i = 0) ∨ (c = 248 ∧ i = 0)) (fun c i => (167 ≤ c ∧ c ≤ 173) ∨ (c = 276 ∧ 15 * 0 ≤ i ∧ i < 15 * 0 + 15)) s t := Fq_tr (Fq_mo F4 (fun c i hc => Or.inl hc) (fun c i hc => Or.inl hc)) (Fq_mo x8 (fun c i hc => Or.inr hc) (fun c i hc => Or.inr hc))
  have kn : ImK t G r 166 167 174 186 0 := by
    refine Or.inr ⟨n4, x7, g, v, hw, HI_wa hi, LdR_fq ld4 x8 (fun c i hc => by omega), fun b hbb => ?_, fun j hj => ?_, BkB_cp bk4 (x8.1 _ _ (by omega)) (fun i _ => ⟨x8.1 _ _ (by omega), x8.1 _ _ (by omega), x8.1 _ _ (by omega), x8.1 _ _ (by omega), x8.1 _ _ (by omega)⟩), w1, ?_, ?_, w4, fun i hi => ?_⟩
    · rw [x8.2.1 (167 + 1) b (by omega), x6 b (by omega), F24.2.1 (167 + 1) b (fun h => h), F4.2.1 253 b (by omega)]
      exact (p2 b (by omega)).2.2.trans (hn.1 b hbb)
    · rw [x8.2.1 (167 + 4) j (by omega), x6 (9 + j) (by omega), F24.2.1 (167 + 4) j (fun h => h), F4.2.1 253 (9 + j) (by omega)]
      exact (p3 j (by omega)).2.2.trans (hn.2 j hj)
    · rw [x8.1 167 11 (by omega), F24.1 167 11 (by omega), p1 11 (by omega) (by omega)]; exact w2
    · rw [x5, F4.1 248 22 (by omega)]; exact w3
    · rw [x4 i hi, F4.1 250 i (by omega)]; exact h2 i
  have ko : ImK t G r 192 193 200 212 1 := ImK_fq hm.2 FT (fun _ _ => rfl) (Nat.le_refl _) (fun c i hc => by omega) (fun c i hc => by omega)
  refine ⟨?_, x2, ?_, ⟨kn, ko⟩, Fq_mo FT (fun c i hc => by omega) (fun c i hc => by omega)⟩
  · unfold rX11_image rX3_keep
    rw [ck, r2, r3, r4, r5, ← hs1]
    exact fun _ _ => ⟨vk, r1, rI, c3⟩
  · unfold vX11_image
    rw [if_neg n0, if_pos l2]
theorem k_restore0 (h : LdR s 31 5 g) (h2 : RR s g) (hw : WF g) (hi : HI s g) (hv : SvT s g G r) (hn : NmT s g) (hb : BkR s g) (hm : ImT s G r) : rX11_restore s (zI ((0 : Nat) : Int)) ∧ rX12_restore (mX11_restore s (zI ((0 : Nat) : Int))) (zI ((0 : Nat) : Int)) ∧ vX11_restore s (zI ((0 : Nat) : Int)) = vX12_restore (mX11_restore s (zI ((0 : Nat) : Int))) (zI ((0 : Nat) : Int)) ∧ ∃ g' t, mX12_restore (mX11_restore s (zI ((0 : Nat) : Int))) (zI ((0 : Nat) : Int)) = t ∧ WF g' ∧ LdR t 31 5 g' ∧ RR t g' ∧ HI t g' ∧ SvT t g' G r ∧ NmT t g' ∧ BkR t g' ∧ Fq ReI ReL s t := by
  have n0 : ¬ zI ((0 : Nat) : Int) < 0 := by decide
  have l2 : ¬ (2 : Int32) ≤ zI ((0 : Nat) : Int) := by decide
  have ck : (zI ((0 : Nat) : Int)).toNatClampNeg = 0 := by decide
  have vk : vp_in (zI ((0 : Nat) : Int)) 2 := by rw [z_in (by omega)]; omega
  have r0 : RF 165 0 = some 166 ∧ rfx 165 0 = 166 ∧ rfx 166 1 = 167 ∧ rfx 166 2 = 174 ∧ rfx 166 3 = 186 := by decide +kernel
  have rI : ((166, 167, 174, 186) : Nat × Nat × Nat × Nat) ∈ IX := by decide
  obtain ⟨r1, r2, r3, r4, r5⟩ := r0
  have iM : ∀ t, vX12_isIn t (zI ((0 : Nat) : Int)) 0 1 = 1 := fun t => by
    rw [show vX12_isIn t (zI ((0 : Nat) : Int)) 0 1 = bI ((0 : Int) ≤ ((0 : Nat) : Int) ∧ ((0 : Nat) : Int) ≤ 1) from x_isIn t (b := 0) (c := 1) (by omega) (by omega) (by omega)]
    exact (b_p _).mpr ⟨by omega, by omega⟩
  have n10 : ¬ (1 : Int32) = 0 := by decide
  rcases hm.1 with ⟨i1, i2⟩ | ⟨i1, i2, u, v, q1, qa, q2, q3, q4, q5, q6, q7, q8, q9, q10⟩
  · have mm : mX11_restore s (zI ((0 : Nat) : Int)) = s := by
      unfold mX11_restore
      rw [if_neg n0, if_neg l2, ck, r2, if_pos i1]
    obtain ⟨t0, ht0⟩ : ∃ t0, t0 = pI s 248 0 0 := ⟨_, rfl⟩
    have f0 : Fq (fun c i => c = 248 ∧ i = 0) (fun _ _ => False) s t0 := by rw [ht0]; exact Fq_p s ⟨rfl, rfl⟩
    have z0 : gI t0 277 0 = 0 := by rw [f0.1 277 0 (by omega)]; exact i2
    have EF : fX12_restore s (zI ((0 : Nat) : Int)) = (0, t0) := by
      unfold fX12_restore
      rw [← ht0, iM, if_neg n10, ck, if_pos z0]
    obtain ⟨v1, v2, v3, ⟨v, w1, w2, w3, w4⟩⟩ := hv
    refine ⟨?_, ?_, ?_, g, t0, by rw [mm]; unfold mX12_restore; rw [EF], hw, LdR_fq h f0 (fun c i hc => by omega), RR_fq h2 f0 (fun i => by omega), HI_fq hi f0 (fun c i hc => by omega), ⟨v1, by rw [f0.1 2 19 (by omega)]; exact v2, by rw [f0.1 248 23 (by omega)]; exact v3, v, w1, by rw [f0.1 5 11 (by omega)]; exact w2, by rw [f0.1 248 22 (by omega)]; exact w3, w4⟩, NmT_fq hn hw f0 (fun c i hc h => h), BkR_fr hb rfl rfl (fun _ _ => rfl) (fun c h1 h2 => by funext i; exact f0.1 c i (by omega)), Fq_mo f0 (fun c i hc => by omega) (fun _ _ h => h.elim)⟩
    · unfold rX11_restore
      rw [ck, r2, r3, r4, r5]
      exact fun _ _ => ⟨vk, r1, rI, fun hc => absurd i1 hc⟩
    · rw [mm]
      unfold rX12_restore
      rw [← ht0, ck]
      exact fun _ => ⟨vk, fun hc => absurd z0 hc⟩
    · rw [mm]
      unfold vX11_restore vX12_restore
      rw [if_neg n0, if_neg l2, ck, r2, if_pos i1, EF]
  · have u0 := q1.w0
    obtain ⟨s1, hs1⟩ : ∃ s1, s1 = mX6_copyFrom s 5 167 := ⟨_, rfl⟩
    obtain ⟨p1, p2, p3, p4⟩ := y_pc_5_167 s
    rw [← hs1] at p1 p2 p3 p4
    have lds1 : LdR s1 174 167 u := LdR_fq q2 p4 (fun c i hc => by omega)
    obtain ⟨s2, hs2⟩ : ∃ s2, s2 = mX4_copyFrom s1 31 5 174 167 := ⟨_, rfl⟩
    obtain ⟨c1, c2, c3⟩ := y_copy (s := s1) (P0 := 5) (P1 := 167) (L0 := 31) lds1.2 q1 (by omega)
    rw [← hs2] at c1 c2
    have f2 : Fq (fun c _ => 31 ≤ c ∧ c ≤ 42) (fun _ _ => False) s1 s2 := Fq_fp (Fp_fr c2 (fun c hc i => by have hc : 31 ≤ c ∧ c ≤ 31 + 11 := hc; omega))
    obtain ⟨s3, hs3⟩ : ∃ s3, s3 = mX0_copyFrom s2 19 186 := ⟨_, rfl⟩
    obtain ⟨b0, b1, f3⟩ := y_bc_19_186 s2
    rw [← hs3] at b0 b1 f3
    obtain ⟨s4, hs4⟩ : ∃ s4, s4 = pI s3 55 2 0 := ⟨_, rfl⟩
    have f4 : Fq (fun c i => c = 55 ∧ i = 2) (fun _ _ => False) s3 s4 := by rw [hs4]; exact Fq_p s3 ⟨rfl, rfl⟩
    have m4 : mX11_restore s (zI ((0 : Nat) : Int)) = s4 := by
      unfold mX11_restore mX3_bringBack mX2_forget
      rw [if_neg n0, if_neg l2, ck, r2, r3, r4, r5, if_neg i1, ← hs1, ← hs2, ← hs3]
      exact hs4.symm
    have F4 : Fq (fun c i => (5 ≤ c ∧ c ≤ 11) ∨ (19 ≤ c ∧ c ≤ 24) ∨ (31 ≤ c ∧ c ≤ 42) ∨ (c = 55 ∧ i = 2)) (fun c _ => 5 ≤ c ∧ c ≤ 11) s s4 := Fq_tr (Fq_mo p4 (fun c i hc => by omega) (fun _ _ h => h)) (Fq_tr (Fq_mo f2 (fun c i hc => by omega) (fun _ _ h => h.elim)) (Fq_tr (Fq_mo f3 (fun c i hc => by omega) (fun _ _ h => h.elim)) (Fq_mo f4 (fun c i hc => by omega) (fun _ _ h => h.elim))))
    have n7 : ¬ gI s4 277 0 = 0 := by rw [F4.1 277 0 (by omega)]; exact i2
    obtain ⟨t, x1, x2, x3, x4, x5, x6, x7, x8⟩ := x_restore (t := s4) (k := 0) (by omega) n7
    have F34 : Fq (fun c i => (19 ≤ c ∧ c ≤ 24) ∨ (c = 55 ∧ i = 2)) (fun _ _ => False) s2 s4 := Fq_tr (Fq_mo f3 (fun c i hc => Or.inl hc) (fun _ _ h => h)) (Fq_mo f4 (fun c i hc => Or.inr hc) (fun _ _ h => h))
    have F24 : Fq (fun c i => (31 ≤ c ∧ c ≤ 42) ∨ (19 ≤ c ∧ c ≤ 24) ∨ (c = 55 ∧ i = 2)) (fun _ _ => False) s1 s4 := Fq_tr (Fq_mo f2 (fun c i hc => Or.inl hc) (fun _ _ h => h)) (Fq_mo F34 (fun c i hc => Or.inr hc) (fun _ _ h => h))
    obtain ⟨g', hg'⟩ : ∃ g' : Nat → Int, g' = fun i => if i < 787 then u i else g i := ⟨_, rfl⟩
    have glo : ∀ i, i < 787 → g' i = u i := fun i hi => by rw [hg']; exact if_pos hi
    have ghi : ∀ i, ¬ i < 787 → g' i = g i := fun i hi => by rw [hg']; exact if_neg hi
    have sq : SQ u g' := fun i hi => glo i (by omega)
    have hw' : WF g' := WF_sq q1 sq
    have po1 : PoR s1 5 u := PoR_cp q1 q2.1 p1 (fun b hb => ⟨(p2 b hb).1, (p2 b hb).2.1⟩) (fun j hj => ⟨(p3 j hj).1, (p3 j hj).2.1⟩)
    have po1' : PoR s1 5 g' := PoR_sp po1 q1 (SQ_sp sq)
    have ld2 : LdR s2 31 5 g' := ⟨(LdR_fq (L := 174) ⟨po1', LdS_sq lds1.2 q1 sq⟩ f2 (fun c i hc => by omega)).1, LdS_sq c1 q1 sq⟩
    have ld4 : LdR s4 31 5 g' := LdR_fq ld2 F34 (fun c i hc => by omega)
    have ldt : LdR t 31 5 g' := LdR_fq ld4 x8 (fun c i hc => by omega)
    have bk2 : BkB s2 186 u := BkB_cp q5 (by rw [f2.1 186 0 (by omega), p4.1 186 0 (by omega)]) (fun i _ => ⟨by rw [f2.1 (186 + 1) i (by omega), p4.1 (186 + 1) i (by omega)], by rw [f2.1 (186 + 2) i (by omega), p4.1 (186 + 2) i (by omega)], by rw [f2.1 (186 + 3) i (by omega), p4.1 (186 + 3) i (by omega)], by rw [f2.1 (186 + 4) i (by omega), p4.1 (186 + 4) i (by omega)], by rw [f2.1 (186 + 5) i (by omega), p4.1 (186 + 5) i (by omega)]⟩)
    have bkt : BkB t 19 u := BkB_cp bk2 (by rw [x8.1 19 0 (by omega), f4.1 19 0 (by omega)]; exact b0) (fun i hi => by
      rw [x8.1 (19 + 1) i (by omega), x8.1 (19 + 2) i (by omega), x8.1 (19 + 3) i (by omega), x8.1 (19 + 4) i (by omega), x8.1 (19 + 5) i (by omega), f4.1 (19 + 1) i (by omega), f4.1 (19 + 2) i (by omega), f4.1 (19 + 3) i (by omega), f4.1 (19 + 4) i (by omega), f4.1 (19 + 5) i (by omega)]
      exact b1 i hi)
    obtain ⟨v1, v2, v3, -⟩ := hv
    refine ⟨?_, by rw [m4]; exact x2, ?_, g', t, by rw [m4]; exact x1, hw', ldt, fun i => ?_, ?_, ⟨v1, ?_, ?_, v, q6, ?_, ?_, ?_⟩, ⟨fun b hbb => ?_, fun j hj => ?_⟩, BkB_19.mp (BkB_sp bkt glo), Fq_tr (Fq_mo F4 (fun c i hc => by omega) (fun c i hc => Or.inl hc)) (Fq_mo x8 (fun c i hc => by omega) (fun c i hc => Or.inr hc))⟩
    · unfold rX11_restore rX3_bringBack
      rw [ck, r2, r3, r4, r5, ← hs1]
      exact fun _ _ => ⟨vk, r1, rI, fun _ => ⟨vk, r1, rI, c3⟩⟩
    · rw [m4, x3]
      unfold vX11_restore
      rw [if_neg n0, if_neg l2, ck, r2, if_neg i1]
    · by_cases c : i < 787
      · rw [x4 i c, F4.1 275 _ (by omega), q10 i c, glo i c]
      · rw [x8.1 250 i (by omega), F4.1 250 i (by omega), ghi i c]; exact h2 i
    · obtain ⟨nt, kp, y1, -, y3, -⟩ := hi
      exact ⟨nt, 0, y1, by omega, by rw [x8.1 55 1 (by omega), F4.1 55 1 (by omega)]; exact y3, by rw [x8.1 55 2 (by omega), hs4, gI_pI, if_pos ⟨rfl, rfl⟩]; rfl, by rw [x7]; rfl, fun j hj => absurd hj (by omega), WA_sq q1 qa sq⟩
    · rw [x8.1 2 19 (by omega), F4.1 2 19 (by omega)]; exact v2
    · rw [x8.1 248 23 (by omega), F4.1 248 23 (by omega)]; exact v3
    · rw [x8.1 5 11 (by omega), F24.1 5 11 (by omega), p1 11 (by omega) (by omega)]; exact q7
    · rw [x5, F4.1 275 _ (by omega)]; exact q8
    · intro i hi
      rw [glo i (by omega)]; exact q9 i hi
    · rw [glo 0 (by omega)] at hbb
      rw [x8.2.1 6 b (by omega), x6 b (by omega), F24.2.1 6 b (fun h => h), F4.2.1 276 _ (by omega), (p2 b (by omega)).2.2]
      exact q3 b hbb
    · rw [glo 1 (by omega)] at hj
      rw [x8.2.1 9 j (by omega), x6 (9 + j) (by omega), F24.2.1 9 j (fun h => h), F4.2.1 276 _ (by omega), (p3 j (by omega)).2.2]
      exact q4 j hj
theorem k_image1 (h : LdR s 31 5 g) (h2 : RR s g) (hw : WF g) (hi : HI s g) (hv : SvT s g G r) (hn : NmT s g) (hb : BkR s g) (hm : ImT s G r) : rX11_image s (zI ((1 : Nat) : Int)) ∧ rX12_image (mX11_image s (zI ((1 : Nat) : Int))) (zI ((1 : Nat) : Int)) ∧ vX11_image s (zI ((1 : Nat) : Int)) = vX12_image (mX11_image s (zI ((1 : Nat) : Int))) (zI ((1 : Nat) : Int)) ∧ ImT (mX12_image (mX11_image s (zI ((1 : Nat) : Int))) (zI ((1 : Nat) : Int))) G r ∧ Fq ImI ImL s (mX12_image (mX11_image s (zI ((1 : Nat) : Int))) (zI ((1 : Nat) : Int))) := by
  have h0 := hw.w0
  obtain ⟨v1, v2, v3, ⟨v, w1, w2, w3, w4⟩⟩ := hv
  have n0 : ¬ zI ((1 : Nat) : Int) < 0 := by decide
  have l2 : zI ((1 : Nat) : Int) < 2 := by decide
  have ck : (zI ((1 : Nat) : Int)).toNatClampNeg = 1 := by decide
  have vk : vp_in (zI ((1 : Nat) : Int)) 2 := by rw [z_in (by omega)]; omega
  have r0 : RF 165 1 = some 192 ∧ rfx 165 1 = 192 ∧ rfx 192 1 = 193 ∧ rfx 192 2 = 200 ∧ rfx 192 3 = 212 := by decide +kernel
  have rI : ((192, 193, 200, 212) : Nat × Nat × Nat × Nat) ∈ IX := by decide
  obtain ⟨r1, r2, r3, r4, r5⟩ := r0
  obtain ⟨s1, hs1⟩ : ∃ s1, s1 = mX6_copyFrom s 193 5 := ⟨_, rfl⟩
  obtain ⟨p1, p2, p3, p4⟩ := y_pc_193_5 s
  rw [← hs1] at p1 p2 p3 p4
  have lds1 : LdR s1 31 5 g := LdR_fq h p4 (fun c i hc => by omega)
  obtain ⟨s2, hs2⟩ : ∃ s2, s2 = mX4_copyFrom s1 200 193 31 5 := ⟨_, rfl⟩
  obtain ⟨c1, c2, c3⟩ := y_copy (s := s1) (P0 := 193) (P1 := 5) (L0 := 200) lds1.2 hw (by omega)
  rw [← hs2] at c1 c2
  have f2 : Fq (fun c _ => 200 ≤ c ∧ c ≤ 211) (fun _ _ => False) s1 s2 := Fq_fp (Fp_fr c2 (fun c hc i => by have hc : 200 ≤ c ∧ c ≤ 200 + 11 := hc; omega))
  obtain ⟨s3, hs3⟩ : ∃ s3, s3 = mX0_copyFrom s2 212 19 := ⟨_, rfl⟩
  obtain ⟨b0, b1, f3⟩ := y_bc_212_19 s2
  rw [← hs3] at b0 b1 f3
  obtain ⟨s4, hs4⟩ : ∃ s4, s4 = pI s3 192 0 1 := ⟨_, rfl⟩
  have f4 : Fq (fun c i => c = 192 ∧ i = 0) (fun _ _ => False) s3 s4 := by rw [hs4]; exact Fq_p s3 ⟨rfl, rfl⟩
  have m4 : mX11_image s (zI ((1 : Nat) : Int)) = s4 := by
    unfold mX11_image mX3_keep
    rw [if_neg n0, if_pos l2, ck, r2, r3, r4, r5, ← hs1, ← hs2, ← hs3, ← hs4]
  obtain ⟨t, x1, x2, x3, x4, x5, x6, x7, x8⟩ := x_image (t := s4) (k := 1) (by omega)
  have F4 : Fq (fun c _ => 192 ≤ c ∧ c ≤ 217) (fun c _ => 193 ≤ c ∧ c ≤ 199) s s4 := Fq_tr (Fq_mo p4 (fun c i hc => by omega) (fun _ _ h => h)) (Fq_tr (Fq_mo f2 (fun c i hc => by omega) (fun _ _ h => h.elim)) (Fq_tr (Fq_mo f3 (fun c i hc => by omega) (fun _ _ h => h.elim)) (Fq_mo f4 (fun c i hc => by omega) (fun _ _ h => h.elim))))
  have F34 : Fq (fun c i => (212 ≤ c ∧ c ≤ 217) ∨ (c = 192 ∧ i = 0)) (fun _ _ => False) s2 s4 := Fq_tr (Fq_mo f3 (fun c i hc => Or.inl hc) (fun _ _ h => h)) (Fq_mo f4 (fun c i hc => Or.inr hc) (fun _ _ h => h))
  have F24 : Fq (fun c i => (200 ≤ c ∧ c ≤ 217) ∨ (c = 192 ∧ i = 0)) (fun _ _ => False) s1 s4 := Fq_tr (Fq_mo f2 (fun c i hc => by omega) (fun _ _ h => h)) (Fq_mo F34 (fun c i hc => by omega) (fun _ _ h => h))
  have po4 : PoR s4 193 g := PoR_cp hw h.1 (fun i h1 h2 => by rw [F24.1 193 i (by omega)]; exact p1 i h1 h2) (fun b hb => by rw [F24.1 (193 + 2) b (by omega), F24.1 (193 + 3) b (by omega)]; exact ⟨(p2 b hb).1, (p2 b hb).2.1⟩) (fun j hj => by rw [F24.1 (193 + 5) j (by omega), F24.1 (193 + 6) j (by omega)]; exact ⟨(p3 j hj).1, (p3 j hj).2.1⟩)
  have ld2 : LdR s2 200 5 g := ⟨(LdR_fq lds1 f2 (fun c i hc => by omega)).1, c1⟩
  have ld4 : LdR s4 200 193 g := ⟨po4, (LdR_fq ld2 F34 (fun c i hc => by omega)).2⟩
  have bk2 : BkB s2 19 g := BkB_cp (BkB_19.mpr hb) (by rw [f2.1 19 0 (by omega), p4.1 19 0 (by omega)]) (fun i _ => ⟨by rw [f2.1 20 i (by omega), p4.1 20 i (by omega)], by rw [f2.1 21 i (by omega), p4.1 21 i (by omega)], by rw [f2.1 22 i (by omega), p4.1 22 i (by omega)], by rw [f2.1 23 i (by omega), p4.1 23 i (by omega)], by rw [f2.1 24 i (by omega), p4.1 24 i (by omega)]⟩)
  have bk4 : BkB s4 212 g := BkB_cp bk2 (by rw [f4.1 212 0 (by omega)]; exact b0) (fun i hi => by
    rw [f4.1 (212 + 1) i (by omega), f4.1 (212 + 2) i (by omega), f4.1 (212 + 3) i (by omega), f4.1 (212 + 4) i (by omega), f4.1 (212 + 5) i (by omega)]
    exact b1 i hi)
  rw [m4, x1, x3]
  have n4 : ¬ gI t 192 0 = 0 := by rw [x8.1 192 0 (by omega), hs4, gI_pI, if_pos ⟨rfl, rfl⟩]; decide
  have FT : Fq (fun c i => (192 ≤ c ∧ c ≤ 217) ∨ (c = 275 ∧ 788 * 1 ≤ i ∧ i < 788 * 1 + 788) ∨ (c = 277 ∧ i = 1) ∨ (c = 248 ∧ i = 0)) (fun c i => (193 ≤ c ∧ c ≤ 199) ∨ (c = 276 ∧ 15 * 1 ≤ i ∧ i < 15 * 1 + 15)) s t := Fq_tr (Fq_mo F4 (fun c i hc => Or.inl hc) (fun c i hc => Or.inl hc)) (Fq_mo x8 (fun c i hc => Or.inr hc) (fun c i hc => Or.inr hc))
  have kn : ImK t G r 192 193 200 212 1 := by
    refine Or.inr ⟨n4, x7, g, v, hw, HI_wa hi, LdR_fq ld4 x8 (fun c i hc => by omega), fun b hbb => ?_, fun j hj => ?_, BkB_cp bk4 (x8.1 _ _ (by omega)) (fun i _ => ⟨x8.1 _ _ (by omega), x8.1 _ _ (by omega), x8.1 _ _ (by omega), x8.1 _ _ (by omega), x8.1 _ _ (by omega)⟩), w1, ?_, ?_, w4, fun i hi => ?_⟩
    · rw [x8.2.1 (193 + 1) b (by omega), x6 b (by omega), F24.2.1 (193 + 1) b (fun h => h), F4.2.1 253 b (by omega)]
      exact (p2 b (by omega)).2.2.trans (hn.1 b hbb)
    · rw [x8.2.1 (193 + 4) j (by omega), x6 (9 + j) (by omega), F24.2.1 (193 + 4) j (fun h => h), F4.2.1 253 (9 + j) (by omega)]
      exact (p3 j (by omega)).2.2.trans (hn.2 j hj)
    · rw [x8.1 193 11 (by omega), F24.1 193 11 (by omega), p1 11 (by omega) (by omega)]; exact w2
    · rw [x5, F4.1 248 22 (by omega)]; exact w3
    · rw [x4 i hi, F4.1 250 i (by omega)]; exact h2 i
  have ko : ImK t G r 166 167 174 186 0 := ImK_fq hm.1 FT (fun _ _ => rfl) (Nat.le_refl _) (fun c i hc => by omega) (fun c i hc => by omega)
  refine ⟨?_, x2, ?_, ⟨ko, kn⟩, Fq_mo FT (fun c i hc => by omega) (fun c i hc => by omega)⟩
  · unfold rX11_image rX3_keep
    rw [ck, r2, r3, r4, r5, ← hs1]
    exact fun _ _ => ⟨vk, r1, rI, c3⟩
  · unfold vX11_image
    rw [if_neg n0, if_pos l2]
theorem k_restore1 (h : LdR s 31 5 g) (h2 : RR s g) (hw : WF g) (hi : HI s g) (hv : SvT s g G r) (hn : NmT s g) (hb : BkR s g) (hm : ImT s G r) : rX11_restore s (zI ((1 : Nat) : Int)) ∧ rX12_restore (mX11_restore s (zI ((1 : Nat) : Int))) (zI ((1 : Nat) : Int)) ∧ vX11_restore s (zI ((1 : Nat) : Int)) = vX12_restore (mX11_restore s (zI ((1 : Nat) : Int))) (zI ((1 : Nat) : Int)) ∧ ∃ g' t, mX12_restore (mX11_restore s (zI ((1 : Nat) : Int))) (zI ((1 : Nat) : Int)) = t ∧ WF g' ∧ LdR t 31 5 g' ∧ RR t g' ∧ HI t g' ∧ SvT t g' G r ∧ NmT t g' ∧ BkR t g' ∧ Fq ReI ReL s t := by
  have n0 : ¬ zI ((1 : Nat) : Int) < 0 := by decide
  have l2 : ¬ (2 : Int32) ≤ zI ((1 : Nat) : Int) := by decide
  have ck : (zI ((1 : Nat) : Int)).toNatClampNeg = 1 := by decide
  have vk : vp_in (zI ((1 : Nat) : Int)) 2 := by rw [z_in (by omega)]; omega
  have r0 : RF 165 1 = some 192 ∧ rfx 165 1 = 192 ∧ rfx 192 1 = 193 ∧ rfx 192 2 = 200 ∧ rfx 192 3 = 212 := by decide +kernel
  have rI : ((192, 193, 200, 212) : Nat × Nat × Nat × Nat) ∈ IX := by decide
  obtain ⟨r1, r2, r3, r4, r5⟩ := r0
  have iM : ∀ t, vX12_isIn t (zI ((1 : Nat) : Int)) 0 1 = 1 := fun t => by
    rw [show vX12_isIn t (zI ((1 : Nat) : Int)) 0 1 = bI ((0 : Int) ≤ ((1 : Nat) : Int) ∧ ((1 : Nat) : Int) ≤ 1) from x_isIn t (b := 0) (c := 1) (by omega) (by omega) (by omega)]
    exact (b_p _).mpr ⟨by omega, by omega⟩
  have n10 : ¬ (1 : Int32) = 0 := by decide
  rcases hm.2 with ⟨i1, i2⟩ | ⟨i1, i2, u, v, q1, qa, q2, q3, q4, q5, q6, q7, q8, q9, q10⟩
  · have mm : mX11_restore s (zI ((1 : Nat) : Int)) = s := by
      unfold mX11_restore
      rw [if_neg n0, if_neg l2, ck, r2, if_pos i1]
    obtain ⟨t0, ht0⟩ : ∃ t0, t0 = pI s 248 0 0 := ⟨_, rfl⟩
    have f0 : Fq (fun c i => c = 248 ∧ i = 0) (fun _ _ => False) s t0 := by rw [ht0]; exact Fq_p s ⟨rfl, rfl⟩
    have z0 : gI t0 277 1 = 0 := by rw [f0.1 277 1 (by omega)]; exact i2
    have EF : fX12_restore s (zI ((1 : Nat) : Int)) = (0, t0) := by
      unfold fX12_restore
      rw [← ht0, iM, if_neg n10, ck, if_pos z0]
    obtain ⟨v1, v2, v3, ⟨v, w1, w2, w3, w4⟩⟩ := hv
    refine ⟨?_, ?_, ?_, g, t0, by rw [mm]; unfold mX12_restore; rw [EF], hw, LdR_fq h f0 (fun c i hc => by omega), RR_fq h2 f0 (fun i => by omega), HI_fq hi f0 (fun c i hc => by omega), ⟨v1, by rw [f0.1 2 19 (by omega)]; exact v2, by rw [f0.1 248 23 (by omega)]; exact v3, v, w1, by rw [f0.1 5 11 (by omega)]; exact w2, by rw [f0.1 248 22 (by omega)]; exact w3, w4⟩, NmT_fq hn hw f0 (fun c i hc h => h), BkR_fr hb rfl rfl (fun _ _ => rfl) (fun c h1 h2 => by funext i; exact f0.1 c i (by omega)), Fq_mo f0 (fun c i hc => by omega) (fun _ _ h => h.elim)⟩
    · unfold rX11_restore
      rw [ck, r2, r3, r4, r5]
      exact fun _ _ => ⟨vk, r1, rI, fun hc => absurd i1 hc⟩
    · rw [mm]
      unfold rX12_restore
      rw [← ht0, ck]
      exact fun _ => ⟨vk, fun hc => absurd z0 hc⟩
    · rw [mm]
      unfold vX11_restore vX12_restore
      rw [if_neg n0, if_neg l2, ck, r2, if_pos i1, EF]
  · have u0 := q1.w0
    obtain ⟨s1, hs1⟩ : ∃ s1, s1 = mX6_copyFrom s 5 193 := ⟨_, rfl⟩
    obtain ⟨p1, p2, p3, p4⟩ := y_pc_5_193 s
    rw [← hs1] at p1 p2 p3 p4
    have lds1 : LdR s1 200 193 u := LdR_fq q2 p4 (fun c i hc => by omega)
    obtain ⟨s2, hs2⟩ : ∃ s2, s2 = mX4_copyFrom s1 31 5 200 193 := ⟨_, rfl⟩
    obtain ⟨c1, c2, c3⟩ := y_copy (s := s1) (P0 := 5) (P1 := 193) (L0 := 31) lds1.2 q1 (by omega)
    rw [← hs2] at c1 c2
    have f2 : Fq (fun c _ => 31 ≤ c ∧ c ≤ 42) (fun _ _ => False) s1 s2 := Fq_fp (Fp_fr c2 (fun c hc i => by have hc : 31 ≤ c ∧ c ≤ 31 + 11 := hc; omega))
    obtain ⟨s3, hs3⟩ : ∃ s3, s3 = mX0_copyFrom s2 19 212 := ⟨_, rfl⟩
    obtain ⟨b0, b1, f3⟩ := y_bc_19_212 s2
    rw [← hs3] at b0 b1 f3
    obtain ⟨s4, hs4⟩ : ∃ s4, s4 = pI s3 55 2 0 := ⟨_, rfl⟩
    have f4 : Fq (fun c i => c = 55 ∧ i = 2) (fun _ _ => False) s3 s4 := by rw [hs4]; exact Fq_p s3 ⟨rfl, rfl⟩
    have m4 : mX11_restore s (zI ((1 : Nat) : Int)) = s4 := by
      unfold mX11_restore mX3_bringBack mX2_forget
      rw [if_neg n0, if_neg l2, ck, r2, r3, r4, r5, if_neg i1, ← hs1, ← hs2, ← hs3]
      exact hs4.symm
    have F4 : Fq (fun c i => (5 ≤ c ∧ c ≤ 11) ∨ (19 ≤ c ∧ c ≤ 24) ∨ (31 ≤ c ∧ c ≤ 42) ∨ (c = 55 ∧ i = 2)) (fun c _ => 5 ≤ c ∧ c ≤ 11) s s4 := Fq_tr (Fq_mo p4 (fun c i hc => by omega) (fun _ _ h => h)) (Fq_tr (Fq_mo f2 (fun c i hc => by omega) (fun _ _ h => h.elim)) (Fq_tr (Fq_mo f3 (fun c i hc => by omega) (fun _ _ h => h.elim)) (Fq_mo f4 (fun c i hc => by omega) (fun _ _ h => h.elim))))
    have n7 : ¬ gI s4 277 1 = 0 := by rw [F4.1 277 1 (by omega)]; exact i2
    obtain ⟨t, x1, x2, x3, x4, x5, x6, x7, x8⟩ := x_restore (t := s4) (k := 1) (by omega) n7
    have F34 : Fq (fun c i => (19 ≤ c ∧ c ≤ 24) ∨ (c = 55 ∧ i = 2)) (fun _ _ => False) s2 s4 := Fq_tr (Fq_mo f3 (fun c i hc => Or.inl hc) (fun _ _ h => h)) (Fq_mo f4 (fun c i hc => Or.inr hc) (fun _ _ h => h))
    have F24 : Fq (fun c i => (31 ≤ c ∧ c ≤ 42) ∨ (19 ≤ c ∧ c ≤ 24) ∨ (c = 55 ∧ i = 2)) (fun _ _ => False) s1 s4 := Fq_tr (Fq_mo f2 (fun c i hc => Or.inl hc) (fun _ _ h => h)) (Fq_mo F34 (fun c i hc => Or.inr hc) (fun _ _ h => h))
    obtain ⟨g', hg'⟩ : ∃ g' : Nat → Int, g' = fun i => if i < 787 then u i else g i := ⟨_, rfl⟩
    have glo : ∀ i, i < 787 → g' i = u i := fun i hi => by rw [hg']; exact if_pos hi
    have ghi : ∀ i, ¬ i < 787 → g' i = g i := fun i hi => by rw [hg']; exact if_neg hi
    have sq : SQ u g' := fun i hi => glo i (by omega)
    have hw' : WF g' := WF_sq q1 sq
    have po1 : PoR s1 5 u := PoR_cp q1 q2.1 p1 (fun b hb => ⟨(p2 b hb).1, (p2 b hb).2.1⟩) (fun j hj => ⟨(p3 j hj).1, (p3 j hj).2.1⟩)
    have po1' : PoR s1 5 g' := PoR_sp po1 q1 (SQ_sp sq)
    have ld2 : LdR s2 31 5 g' := ⟨(LdR_fq (L := 200) ⟨po1', LdS_sq lds1.2 q1 sq⟩ f2 (fun c i hc => by omega)).1, LdS_sq c1 q1 sq⟩
    have ld4 : LdR s4 31 5 g' := LdR_fq ld2 F34 (fun c i hc => by omega)
    have ldt : LdR t 31 5 g' := LdR_fq ld4 x8 (fun c i hc => by omega)
    have bk2 : BkB s2 212 u := BkB_cp q5 (by rw [f2.1 212 0 (by omega), p4.1 212 0 (by omega)]) (fun i _ => ⟨by rw [f2.1 (212 + 1) i (by omega), p4.1 (212 + 1) i (by omega)], by rw [f2.1 (212 + 2) i (by omega), p4.1 (212 + 2) i (by omega)], by rw [f2.1 (212 + 3) i (by omega), p4.1 (212 + 3) i (by omega)], by rw [f2.1 (212 + 4) i (by omega), p4.1 (212 + 4) i (by omega)], by rw [f2.1 (212 + 5) i (by omega), p4.1 (212 + 5) i (by omega)]⟩)
    have bkt : BkB t 19 u := BkB_cp bk2 (by rw [x8.1 19 0 (by omega), f4.1 19 0 (by omega)]; exact b0) (fun i hi => by
      rw [x8.1 (19 + 1) i (by omega), x8.1 (19 + 2) i (by omega), x8.1 (19 + 3) i (by omega), x8.1 (19 + 4) i (by omega), x8.1 (19 + 5) i (by omega), f4.1 (19 + 1) i (by omega), f4.1 (19 + 2) i (by omega), f4.1 (19 + 3) i (by omega), f4.1 (19 + 4) i (by omega), f4.1 (19 + 5) i (by omega)]
      exact b1 i hi)
    obtain ⟨v1, v2, v3, -⟩ := hv
    refine ⟨?_, by rw [m4]; exact x2, ?_, g', t, by rw [m4]; exact x1, hw', ldt, fun i => ?_, ?_, ⟨v1, ?_, ?_, v, q6, ?_, ?_, ?_⟩, ⟨fun b hbb => ?_, fun j hj => ?_⟩, BkB_19.mp (BkB_sp bkt glo), Fq_tr (Fq_mo F4 (fun c i hc => by omega) (fun c i hc => Or.inl hc)) (Fq_mo x8 (fun c i hc => by omega) (fun c i hc => Or.inr hc))⟩
    · unfold rX11_restore rX3_bringBack
      rw [ck, r2, r3, r4, r5, ← hs1]
      exact fun _ _ => ⟨vk, r1, rI, fun _ => ⟨vk, r1, rI, c3⟩⟩
    · rw [m4, x3]
      unfold vX11_restore
      rw [if_neg n0, if_neg l2, ck, r2, if_neg i1]
    · by_cases c : i < 787
      · rw [x4 i c, F4.1 275 _ (by omega), q10 i c, glo i c]
      · rw [x8.1 250 i (by omega), F4.1 250 i (by omega), ghi i c]; exact h2 i
    · obtain ⟨nt, kp, y1, -, y3, -⟩ := hi
      exact ⟨nt, 0, y1, by omega, by rw [x8.1 55 1 (by omega), F4.1 55 1 (by omega)]; exact y3, by rw [x8.1 55 2 (by omega), hs4, gI_pI, if_pos ⟨rfl, rfl⟩]; rfl, by rw [x7]; rfl, fun j hj => absurd hj (by omega), WA_sq q1 qa sq⟩
    · rw [x8.1 2 19 (by omega), F4.1 2 19 (by omega)]; exact v2
    · rw [x8.1 248 23 (by omega), F4.1 248 23 (by omega)]; exact v3
    · rw [x8.1 5 11 (by omega), F24.1 5 11 (by omega), p1 11 (by omega) (by omega)]; exact q7
    · rw [x5, F4.1 275 _ (by omega)]; exact q8
    · intro i hi
      rw [glo i (by omega)]; exact q9 i hi
    · rw [glo 0 (by omega)] at hbb
      rw [x8.2.1 6 b (by omega), x6 b (by omega), F24.2.1 6 b (fun h => h), F4.2.1 276 _ (by omega), (p2 b (by omega)).2.2]
      exact q3 b hbb
    · rw [glo 1 (by omega)] at hj
      rw [x8.2.1 9 j (by omega), x6 (9 + j) (by omega), F24.2.1 9 j (fun h => h), F4.2.1 276 _ (by omega), (p3 j (by omega)).2.2]
      exact q4 j hj
/-- no such one -/
theorem q_image (h : LdR s 31 5 g) (h2 : RR s g) (hw : WF g) (hi : HI s g) (hv : SvT s g G r) (hn : NmT s g) (hb : BkR s g) (hm : ImT s G r) (a1 : Int32) : rX11_image s a1 ∧ rX12_image (mX11_image s a1) a1 ∧ vX11_image s a1 = vX12_image (mX11_image s a1) a1 ∧ ImT (mX12_image (mX11_image s a1) a1) G r ∧ Fq ImI ImL s (mX12_image (mX11_image s a1) a1) := by
  obtain ⟨a, ha, rfl⟩ := z_ex a1
  by_cases c0 : a = 0
  · subst c0
    exact k_image0 h h2 hw hi hv hn hb hm
  · by_cases c1 : a = 1
    · subst c1
      exact k_image1 h h2 hw hi hv hn hb hm
    · have iM : ∀ t, vX12_isIn t (zI a) 0 1 = 0 := fun t => by
        rw [show vX12_isIn t (zI a) 0 1 = bI ((0 : Int) ≤ a ∧ a ≤ 1) from x_isIn t ha (b := 0) (c := 1) (by omega) (by omega), bI_0]
        omega
      have l0 : zI a < 0 ↔ a < 0 := by rw [zl0, z_lt ha (by omega)]
      have l2 : zI a < 2 ↔ a < 2 := by rw [zl2, z_lt ha (by omega)]
      have mm : mX11_image s (zI a) = s := by
        unfold mX11_image
        by_cases c : a < 0
        · rw [if_pos (l0.mpr c)]
        · rw [if_neg (by rw [l0]; exact c), if_neg (by rw [l2]; omega)]
      have vv : vX11_image s (zI a) = 0 := by
        unfold vX11_image
        by_cases c : a < 0
        · rw [if_pos (l0.mpr c)]
        · rw [if_neg (by rw [l0]; exact c), if_neg (by rw [l2]; omega)]
      have EF : fX12_image s (zI a) = (0, pI s 248 0 0) := by
        unfold fX12_image
        rw [iM, if_pos rfl]
      have f0 : Fq (fun c i => c = 248 ∧ i = 0) (fun _ _ => False) s (pI s 248 0 0) := Fq_p s ⟨rfl, rfl⟩
      have mx : mX12_image s (zI a) = pI s 248 0 0 := by unfold mX12_image; rw [EF]
      rw [mm, mx, vv]
      refine ⟨?_, ?_, by unfold vX12_image; rw [EF], ImT_fq hm f0 (fun _ _ => rfl) (Nat.le_refl _) (fun c i hc => by omega) (fun _ _ _ h => h), Fq_mo f0 (fun c i hc => by omega) (fun _ _ h => h.elim)⟩
      · unfold rX11_image
        intro n1 n2
        rw [l0] at n1
        rw [l2] at n2
        omega
      · unfold rX12_image
        rw [iM]
        exact fun hc => absurd rfl hc
theorem q_restore (h : LdR s 31 5 g) (h2 : RR s g) (hw : WF g) (hi : HI s g) (hv : SvT s g G r) (hn : NmT s g) (hb : BkR s g) (hm : ImT s G r) (a1 : Int32) : rX11_restore s a1 ∧ rX12_restore (mX11_restore s a1) a1 ∧ vX11_restore s a1 = vX12_restore (mX11_restore s a1) a1 ∧ ∃ g' t, mX12_restore (mX11_restore s a1) a1 = t ∧ WF g' ∧ LdR t 31 5 g' ∧ RR t g' ∧ HI t g' ∧ SvT t g' G r ∧ NmT t g' ∧ BkR t g' ∧ Fq ReI ReL s t := by
  obtain ⟨a, ha, rfl⟩ := z_ex a1
  by_cases c0 : a = 0
  · subst c0
    exact k_restore0 h h2 hw hi hv hn hb hm
  · by_cases c1 : a = 1
    · subst c1
      exact k_restore1 h h2 hw hi hv hn hb hm
    · have iM : ∀ t, vX12_isIn t (zI a) 0 1 = 0 := fun t => by
        rw [show vX12_isIn t (zI a) 0 1 = bI ((0 : Int) ≤ a ∧ a ≤ 1) from x_isIn t ha (b := 0) (c := 1) (by omega) (by omega), bI_0]
        omega
      have l0 : zI a < 0 ↔ a < 0 := by rw [zl0, z_lt ha (by omega)]
      have l2 : (2 : Int32) ≤ zI a ↔ 2 ≤ a := by rw [zl2, z_le (by omega) ha]
      have mm : mX11_restore s (zI a) = s := by
        unfold mX11_restore
        by_cases c : a < 0
        · rw [if_pos (l0.mpr c)]
        · rw [if_neg (by rw [l0]; exact c), if_pos (l2.mpr (by omega))]
      have vv : vX11_restore s (zI a) = 0 := by
        unfold vX11_restore
        by_cases c : a < 0
        · rw [if_pos (l0.mpr c)]
        · rw [if_neg (by rw [l0]; exact c), if_pos (l2.mpr (by omega))]
      have EF : fX12_restore s (zI a) = (0, pI s 248 0 0) := by
        unfold fX12_restore
        rw [iM, if_pos rfl]
      obtain ⟨t0, ht0⟩ : ∃ t0, t0 = pI s 248 0 0 := ⟨_, rfl⟩
      have f0 : Fq (fun c i => c = 248 ∧ i = 0) (fun _ _ => False) s t0 := by rw [ht0]; exact Fq_p s ⟨rfl, rfl⟩
      have mx : mX12_restore s (zI a) = t0 := by unfold mX12_restore; rw [EF, ht0]
      obtain ⟨v1, v2, v3, ⟨v, w1, w2, w3, w4⟩⟩ := hv
      rw [mm, vv]
      refine ⟨?_, ?_, by unfold vX12_restore; rw [EF], g, t0, mx, hw, LdR_fq h f0 (fun c i hc => by omega), RR_fq h2 f0 (fun i => by omega), HI_fq hi f0 (fun c i hc => by omega), ⟨v1, by rw [f0.1 2 19 (by omega)]; exact v2, by rw [f0.1 248 23 (by omega)]; exact v3, v, w1, by rw [f0.1 5 11 (by omega)]; exact w2, by rw [f0.1 248 22 (by omega)]; exact w3, w4⟩, NmT_fq hn hw f0 (fun c i hc h => h), BkR_fr hb rfl rfl (fun _ _ => rfl) (fun c h1 h2 => by funext i; exact f0.1 c i (by omega)), Fq_mo f0 (fun c i hc => by omega) (fun _ _ h => h.elim)⟩
      · unfold rX11_restore
        intro n1 n2
        rw [l0] at n1
        rw [l2] at n2
        omega
      · unfold rX12_restore
        rw [iM]
        exact fun hc => absurd rfl hc
end
