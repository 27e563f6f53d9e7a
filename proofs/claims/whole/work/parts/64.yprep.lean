-- needs: 42.qa 51.fr 54.copy 55.hist 56.hist 60.rg 61.xrg 62.best
/-! the class's search for rings: what is laid ready -/
/-- Rings looks at ledger L at port P -/
def RgL (s : SM) (L P : Nat) : Prop := gD s 0 = some L ∧ (L, P) ∈ LX ∧ rfx L 8 = P
theorem RgL_x {s : SM} {L P : Nat} (h : RgL s L P) : gDx s 0 = L := by unfold gDx; rw [h.1]; rfl
theorem LX_b : ∀ p ∈ LX, p.1 ≤ 206 ∧ p.2 ≤ 200 := by decide
theorem RgL_b {s : SM} {L P : Nat} (h : RgL s L P) : L ≤ 206 ∧ P ≤ 200 := LX_b (L, P) h.2.1
theorem RgL_c {s t : SM} {L P : Nat} (h : RgL s L P) (hd : gD t = gD s) : RgL t L P := ⟨by rw [hd]; exact h.1, h.2⟩
theorem okR_p {g : Nat → Int} {d : Int} (ho : opZ g d) : okR g d ↔ (sorZ g d = 0 ∨ sorZ g d = 4) := ⟨fun h => h.2, fun h => ⟨ho, h⟩⟩
section
variable {s : SM} {g : Nat → Int} {L P : Nat}
theorem y_mayBeIn (h : LdR s L P g) (hw : WF g) (hL : RgL s L P) {d : Int} (hd : IR d) : vX7_mayBeIn s (zI d) = bI (okR g d) ∧ rX7_mayBeIn s (zI d) := by
  have h0 := hw.w0
  obtain ⟨e, r⟩ := y_isOpen (P := P) h.2 hw hd
  unfold vX7_mayBeIn rX7_mayBeIn
  rw [RgL_x hL, hL.2.2, e]
  by_cases ho : opZ g d
  · obtain ⟨f0, f1, f2, f3, f4, f5, f6, f7, f8⟩ := n_f h.2 hw ho.1
    have hwd := hw.wd ho.1
    have hk : kndZ g (oZ g d 3) := hwd.2.2.2.1
    have hs := (h.1.2.2 _ hk).2
    have hsb := (hw.wk hk).2
    have ck : (zI (oZ g d 3)).toNatClampNeg = (oZ g d 3).toNat := z_cl (by omega)
    have vk : vp_in (zI (oZ g d 3)) 6 := by rw [z_in (by omega)]; omega
    have vd := y_vp hw ho.1
    have hso : sorZ g d = soZ g (oZ g d 3) := rfl
    have n0 : ¬ bI (opZ g d) = 0 := by rw [bI_0]; exact not_not_intro ho
    unfold vX6_isForRings rX6_isForRings
    rw [if_neg n0, f3, ck, hs, ← hso]
    refine ⟨?_, hL.1, hL.2.1, r, fun _ => ⟨hL.1, hL.2.1, hL.1, hL.2.1, vd, vk, fun _ => vk⟩⟩
    rw [← hso] at hsb
    have k0 : (zI (sorZ g d) = 0) = (sorZ g d = 0) := by rw [zl0]; exact propext (z_eq (by omega) (by omega))
    have k4 : (zI (sorZ g d) = 4) = (sorZ g d = 4) := propext (by rw [show (4 : Int32) = zI 4 from rfl]; exact z_eq (by omega) (by omega))
    by_cases h1 : sorZ g d = 0
    · rw [bI_T' (show okR g d from ⟨ho, Or.inl h1⟩)]
      simp only [k0, eq_true h1, if_true, if_false, true_and, and_true, not_true, not_false_eq_true, false_implies, true_implies, imp_self, and_self]
      decide
    · by_cases h4 : sorZ g d = 4
      · rw [bI_T' (show okR g d from ⟨ho, Or.inr h4⟩)]
        simp only [k0, k4, eq_false h1, eq_true h4, if_true, if_false, true_and, and_true, not_true, not_false_eq_true, false_implies, true_implies, imp_self, and_self]
        decide
      · rw [bI_F' (fun (hc : okR g d) => by rcases hc.2 with hc | hc; exact h1 hc; exact h4 hc)]
        simp only [k0, k4, eq_false h1, eq_false h4, if_true, if_false, true_and, and_true, not_true, not_false_eq_true, false_implies, true_implies, imp_self, and_self]
  · rw [bI_F' ho, if_pos rfl, bI_F' (fun hc => ho hc.1)]
    exact ⟨rfl, hL.1, hL.2.1, r, fun hc => absurd rfl hc⟩
theorem y_dotOn (h : LdR s L P g) (hw : WF g) {d : Int} (hd : dlZ g d) : vX6_dotOn s P (zI (oZ g d 3)) = zI (dtZ g d) ∧ rX6_dotOn s P (zI (oZ g d 3)) := by
  have h0 := hw.w0
  have hwd := hw.wd hd
  have hk : kndZ g (oZ g d 3) := hwd.2.2.2.1
  have hs := (h.1.2.2 _ hk).1
  have hsb := (hw.wk hk).1
  have ck : (zI (oZ g d 3)).toNatClampNeg = (oZ g d 3).toNat := z_cl (by omega)
  have vk : vp_in (zI (oZ g d 3)) 6 := by rw [z_in (by omega)]; omega
  have h9 := h.1.1.2.2.2
  have hsz : szZ g (oZ g d 3) = sizZ g d := rfl
  rw [hsz] at hs hsb
  unfold vX6_dotOn rX6_dotOn dtZ
  simp only [ck, hs, h9, z_lt (show IR (sizZ g d) by omega) (show IR (g 3) by omega)]
  refine ⟨?_, vk⟩
  by_cases h1 : sizZ g d < g 3
  · rw [if_pos h1, if_pos (by omega)]
  · rw [if_neg h1]
    by_cases h2 : sizZ g d ≤ g 3
    · rw [if_pos h2]; congr 1; omega
    · rw [if_neg h2]
theorem y_freedBy (h : LdR s L P g) (hw : WF g) {d : Int} (ho : opZ g d) : vX4_freedBy s L P (zI d) = zI (frd g d) ∧ rX4_freedBy s L P (zI d) := by
  have h0 := hw.w0
  have hwd := hw.wd ho.1
  have h67 := hwd.2.2.2.2.2.2.2.2.2 ho.2
  obtain ⟨f0, f1, f2, f3, f4, f5, f6, f7, f8⟩ := n_f h.2 hw ho.1
  obtain ⟨a6, q6⟩ := y_bearer (P := P) h.2 hw ho.1 (w := 0) (Or.inl rfl)
  obtain ⟨a7, q7⟩ := y_bearer (P := P) h.2 hw ho.1 (w := 1) (Or.inr rfl)
  have i6 := y_isBuried (P := P) h.2 (b := oZ g d 6) (by omega) (by omega)
  have i7 := y_isBuried (P := P) h.2 (b := oZ g d 7) (by omega) (by omega)
  obtain ⟨ed, rd⟩ := y_dotOn h hw ho.1
  have hk : kndZ g (oZ g d 3) := hwd.2.2.2.1
  have hs := (h.1.2.2 _ hk).1
  have ck : (zI (oZ g d 3)).toNatClampNeg = (oZ g d 3).toNat := z_cl (by omega)
  have vk : vp_in (zI (oZ g d 3)) 6 := by rw [z_in (by omega)]; omega
  have vd := y_vp hw ho.1
  have hsz : szZ g (oZ g d 3) = sizZ g d := rfl
  rw [hsz] at hs
  rw [show (6 : Int) + 0 = 6 from rfl] at a6
  rw [show (6 : Int) + 1 = 7 from rfl] at a7
  have k10 : (zI 1 = zI 0) = False := eq_false (by decide)
  have st : ST 3 (fun n => lX4_freedBy n s L P (zI d) (zI 0) (zI 0)) (fun n => qX4_freedBy n s L P (zI d) (zI 0) (zI 0)) (fun _ => zI (frd g d)) (fun _ => True) := by
    rcases tf (livZ g (oZ g d 6)) with k6 | k6 <;> rcases tf (livZ g (oZ g d 7)) with k7 | k7
    all_goals
      have hf : ∀ y : Int, frd g d = y → zI (frd g d) = zI y := fun y hy => by rw [hy]
      rw [hf _ (by unfold frd; simp only [k6, k7, if_true, if_false, true_and, and_true, not_true, not_false_eq_true, false_implies, true_implies, imp_self, and_self]; rfl)]
    all_goals
      refine ⟨3, by decide, fun n => ?_⟩
      simp (disch := omega) only [lX4_freedBy, qX4_freedBy, tX4_freedBy_4, uX4_freedBy_4, zl0, zl1, zl2, z_lt, z_add, z_sub, a6, q6, a7, q7, i6, i7, k6, k7, k10, f3, ck, hs, ed, rd, vk, vd, bI_T, bI_F, bI_z, Int.reduceAdd, Int.reduceSub, Int.reduceMul, Int.reduceNeg, Int.reduceLT, Int.reduceLE, Int.reduceToNat, Int.reduceEq, i_a0, i_s0, i_or0, Int.natCast_succ, Int.sub_sub, Int.add_assoc, Int.add_zero, Int.zero_add, Int.sub_zero, if_true, if_false, true_and, and_true, not_true, not_false_eq_true, false_implies, true_implies, imp_self, and_self, and_false, false_and, or_true, true_or, or_false, false_or, ite_self, implies_true]
  obtain ⟨e, r⟩ := ST_fu st (by omega)
  exact ⟨e, r⟩
end
def Blk (g : Nat → Int) (br : Nat → Nat) (b : Int) (l u D : Nat) : Prop := l ≤ u ∧ (∀ i, l ≤ i → i < u → okR g (br i) ∧ oZ g (br i) 0 = b ∧ br i < D) ∧ (∀ i j, l ≤ i → i < j → j < u → br i < br j) ∧ (∀ w : Nat, w < D → okR g w → oZ g w 0 = b → ∃ i, l ≤ i ∧ i < u ∧ br i = w)
theorem Blk_skip {g : Nat → Int} {br : Nat → Nat} {b : Int} {l u D : Nat} (h : Blk g br b l u D) (hn : ¬ (okR g D ∧ oZ g D 0 = b)) : Blk g br b l u (D + 1) := by
  obtain ⟨h1, h2, h3, h4⟩ := h
  refine ⟨h1, fun i a c => ⟨(h2 i a c).1, (h2 i a c).2.1, by have := (h2 i a c).2.2; omega⟩, h3, fun w hw ho hb => ?_⟩
  by_cases hq : w = D
  · subst hq; exact absurd ⟨ho, hb⟩ hn
  · exact h4 w (by omega) ho hb
theorem Blk_add {g : Nat → Int} {br : Nat → Nat} {b : Int} {l u D : Nat} (h : Blk g br b l u D) (ho : okR g D) (hb : oZ g D 0 = b) : Blk g (fun i => if i = u then D else br i) b l (u + 1) (D + 1) := by
  obtain ⟨h1, h2, h3, h4⟩ := h
  refine ⟨by omega, fun i a c => ?_, fun i j a c e => ?_, fun w hw ho2 hb2 => ?_⟩
  · by_cases hq : i = u
    · simp only [if_pos hq]; exact ⟨ho, hb, by omega⟩
    · simp only [if_neg hq]; have := h2 i a (by omega); exact ⟨this.1, this.2.1, by omega⟩
  · by_cases hq : j = u
    · simp only [if_pos hq, if_neg (show ¬ i = u by omega)]; exact (h2 i a (by omega)).2.2
    · simp only [if_neg hq, if_neg (show ¬ i = u by omega)]; exact h3 i j a c (by omega)
  · by_cases hq : w = D
    · exact ⟨u, h1, by omega, by simp only [if_pos rfl]; exact hq.symm⟩
    · obtain ⟨i, a, c, e⟩ := h4 w (by omega) ho2 hb2
      exact ⟨i, a, by omega, by simp only [if_neg (show ¬ i = u by omega)]; exact e⟩
theorem Blk_ch {g : Nat → Int} {br br' : Nat → Nat} {b : Int} {l u D : Nat} (h : Blk g br b l u D) (hc : ∀ i, i < u → br' i = br i) : Blk g br' b l u D := by
  obtain ⟨h1, h2, h3, h4⟩ := h
  refine ⟨h1, fun i a c => by rw [hc i c]; exact h2 i a c, fun i j a c e => by rw [hc i (by omega), hc j e]; exact h3 i j a c e, fun w hw ho hb => ?_⟩
  obtain ⟨i, a, c, e⟩ := h4 w hw ho hb
  exact ⟨i, a, c, by rw [hc i c]; exact e⟩
def cN (g : Nat → Int) (b d : Int) : Int := sumZ (fun e => if okR g e ∧ (oZ g e 0 < b ∨ oZ g e 0 = b ∧ e < d) then 1 else 0) (g 34).toNat
theorem cN_b {g : Nat → Int} (hw : WF g) (b d : Int) : cN g b d ≤ 60 := by
  have h0 := hw.w0
  have := sumZ_le (f := fun e => if okR g e ∧ (oZ g e 0 < b ∨ oZ g e 0 = b ∧ e < d) then 1 else 0) (n := (g 34).toNat) (a := 1) (fun e h1 h2 => by split <;> omega)
  unfold cN
  omega
theorem cN_skip {g : Nat → Int} {b d : Int} (hn : ¬ (okR g d ∧ oZ g d 0 = b)) : cN g b (d + 1) = cN g b d := by
  unfold cN
  refine sumZ_c _ (fun e h1 h2 => ?_)
  by_cases hq : e = d
  · subst hq
    by_cases ho : okR g e
    · have : ¬ oZ g e 0 = b := fun hc => hn ⟨ho, hc⟩
      simp only [ho, this, false_and, or_false]
    · simp only [ho, false_and]
  · have : (e < d + 1) = (e < d) := propext ⟨fun h => by omega, fun h => by omega⟩
    simp only [this]
theorem cN_add {g : Nat → Int} {b d : Int} (hd : dlZ g d) (ho : okR g d) (hb : oZ g d 0 = b) : cN g b (d + 1) = cN g b d + 1 := by
  unfold cN
  rw [sumZ_1 (g := fun e => if okR g e ∧ (oZ g e 0 < b ∨ oZ g e 0 = b ∧ e < d) then 1 else 0) d hd.1 (by omega) (fun e h1 h2 h3 => ?_)]
  · have k1 : okR g d ∧ (oZ g d 0 < b ∨ oZ g d 0 = b ∧ d < d + 1) := ⟨ho, Or.inr ⟨hb, by omega⟩⟩
    have k2 : ¬ (okR g d ∧ (oZ g d 0 < b ∨ oZ g d 0 = b ∧ d < d)) := fun hc => by omega
    simp only [if_pos k1, if_neg k2]
    omega
  · have : (e < d + 1) = (e < d) := propext ⟨fun h => by omega, fun h => by omega⟩
    simp only [this]
theorem cN_next {g : Nat → Int} (hw : WF g) (b : Int) : cN g b ((g 34).toNat : Int) = cN g (b + 1) ((0 : Nat) : Int) := by
  have h0 := hw.w0
  unfold cN
  refine sumZ_c _ (fun e h1 h2 => ?_)
  have : (oZ g e 0 < b ∨ oZ g e 0 = b ∧ e < ((g 34).toNat : Int)) = (oZ g e 0 < b + 1 ∨ oZ g e 0 = b + 1 ∧ e < ((0 : Nat) : Int)) := propext ⟨fun h => by omega, fun h => by omega⟩
  simp only [this]
theorem cN_0 {g : Nat → Int} (hw : WF g) : cN g 0 0 = 0 := by
  have h0 := hw.w0
  have := sumZ_c (f := fun e => if okR g e ∧ (oZ g e 0 < 0 ∨ oZ g e 0 = 0 ∧ e < 0) then 1 else 0) (g := fun _ => (0 : Int)) (g 34).toNat (fun e h1 h2 => by
    by_cases ho : okR g e
    · have := (hw.wd ho.1.1).1
      rw [if_neg (fun hc => by omega)]
    · rw [if_neg (fun hc => ho hc.1)])
  have h2 := sumZ_le (f := fun _ => (0 : Int)) (n := (g 34).toNat) (a := 0) (fun _ _ _ => by omega)
  have h3 := sumZ_ge (f := fun _ => (0 : Int)) (n := (g 34).toNat) (a := 0) (fun _ _ _ => by omega)
  unfold cN
  omega
section
variable {g : Nat → Int} {L P : Nat}
abbrev PrA (c i : Nat) : Prop := (c = 218 ∧ i = 7) ∨ (221 ≤ c ∧ c ≤ 224)
abbrev RoA (c i : Nat) : Prop := (218 ≤ c ∧ c ≤ 224)
/-- the deals ahead of (b, D) in the order of the rows -/
abbrev ahd (g : Nat → Int) (b D : Int) (w : Nat) : Prop := okR g w ∧ (oZ g w 0 < b ∨ oZ g w 0 = b ∧ (w : Int) < D)
def PrO (g : Nat → Int) (t : SM) (br lo en : Nat → Nat) (b D n : Nat) : Prop := (∀ i, i < n → gI t 222 i = zI (br i : Int)) ∧ (∀ c, c < b → gI t 223 c = zI (lo c : Int) ∧ gI t 224 c = zI (en c : Int) ∧ en c ≤ n ∧ Blk g br (c : Int) (lo c) (en c) (g 34).toNat) ∧ (n : Int) = cN g b D ∧ (∀ w : Nat, ahd g b D w → gI t 221 w = zI (frd g w)) ∧ ∃ mf : Int, gI t 218 7 = zI mf ∧ 0 ≤ mf ∧ mf ≤ 18 ∧ ∀ w : Nat, ahd g b D w → frd g w ≤ mf
theorem PrO_skip {t : SM} {br lo en : Nat → Nat} {b D n : Nat} (h : PrO g t br lo en b D n) (hn : ¬ (okR g D ∧ oZ g D 0 = b)) : PrO g t br lo en b (D + 1) n := by
  obtain ⟨h1, h2, h3, h4, mf, h5, h6, h7, h8⟩ := h
  have e : ∀ w : Nat, ahd g b ((D + 1 : Nat) : Int) w → ahd g b D w := fun w hw => by
    refine ⟨hw.1, ?_⟩
    by_cases hq : w = D
    · subst hq
      rcases hw.2 with h | h
      · exact Or.inl h
      · exact absurd ⟨hw.1, h.1⟩ hn
    · have := hw.2; omega
  refine ⟨h1, h2, ?_, fun w hw => h4 w (e w hw), mf, h5, h6, h7, fun w hw => h8 w (e w hw)⟩
  rw [Int.natCast_succ, cN_skip hn]; exact h3
theorem y_prep_in {s0 : SM} (h : LdR s0 L P g) (hw : WF g) (hL : RgL s0 L P) {b : Nat} (hb9 : b < 9) {n0 : Nat} {s : SM} {br lo en : Nat → Nat} (hf : Fp PrA s0 s) (hd : gD s = gD s0) (hlo : gI s 223 b = zI (lo b : Int)) (hln : lo b = n0) (hp : PrO g s br lo en b 0 n0) : ∃ n t br', Fp PrA s0 t ∧ gD t = gD s0 ∧ gI t 223 b = zI (lo b : Int) ∧ Blk g br' (b : Int) (lo b) n (g 34).toNat ∧ PrO g t br' lo en b (g 34).toNat n ∧ ST (1 * (g 34).toNat) (fun m => (lX7_prepare m).2 s L P (zI (n0 : Int)) (zI (b : Int)) (zI ((0 : Nat) : Int))) (fun m => (qX7_prepare m).2 s L P (zI (n0 : Int)) (zI (b : Int)) (zI ((0 : Nat) : Int))) (fun m => (lX7_prepare m).2 t L P (zI (n : Int)) (zI (b : Int)) (zI ((g 34).toNat : Int))) (fun m => (qX7_prepare m).2 t L P (zI (n : Int)) (zI (b : Int)) (zI ((g 34).toNat : Int))) := by
  have h0 := hw.w0
  have hLb := RgL_b hL
  have up := ST_up (B := 1) (g 34).toNat (fun D (a : Nat × SM) => ∃ br', Fp PrA s0 a.2 ∧ gD a.2 = gD s0 ∧ gI a.2 223 b = zI (lo b : Int) ∧ Blk g br' (b : Int) (lo b) a.1 D ∧ PrO g a.2 br' lo en b D a.1) (fun D a m => (lX7_prepare m).2 a.2 L P (zI (a.1 : Int)) (zI (b : Int)) (zI (D : Int))) (fun D a m => (qX7_prepare m).2 a.2 L P (zI (a.1 : Int)) (zI (b : Int)) (zI (D : Int))) (by
    rintro D ⟨n, t⟩ hD ⟨br', f1, f2, f3, f4, f5⟩
    dsimp only at f1 f2 f3 f4 f5
    have hdl : dlZ g D := by omega
    have hwd := hw.wd hdl
    have fr1 : Fp RoA s0 t := Fp_mo f1 (fun c i hc => by omega)
    have hl : LdR t L P g := by
      refine LdR_fr h (A := fun c => 218 ≤ c ∧ c ≤ 224) ⟨fun c hc => by funext i; exact fr1.1 c i hc, fr1.2⟩ (fun c hc => by omega)
    have hLt := RgL_c hL f2
    obtain ⟨e0, -⟩ := n_f hl.2 hw hdl
    have cD : (zI (D : Int)).toNatClampNeg = D := by rw [z_cl (by omega)]; exact Int.toNat_natCast _
    rw [cD] at e0
    obtain ⟨em, rm⟩ := y_mayBeIn hl hw hLt (d := (D : Int)) (by omega)
    have x0 := RgL_x hLt
    have e9 : gI t L 9 = zI (g 34) := hl.2.1.1
    have vd := y_vp hw hdl
    have n1 : (g 34 ≤ (D : Int)) = False := eq_false (by omega)
    have d0 := hLt.1
    have dx := hLt.2.1
    have hn60 := cN_b hw (b : Int) (D : Int)
    have hn : (n : Int) = cN g b D := f5.2.2.1
    by_cases hok : okR g D ∧ oZ g D 0 = b
    · have hn61 := cN_b hw (b : Int) ((D : Int) + 1)
      rw [cN_add hdl hok.1 hok.2] at hn61
      obtain ⟨t1, ht1⟩ : ∃ t1, t1 = pI t 222 n (zI (D : Int)) := ⟨_, rfl⟩
      have l1 : LdR t1 L P g := by rw [ht1]; exact LdR_fr hl (Fr_pI t n _ (A := fun c => c = 222) rfl) (fun c hc => by omega)
      have L1 : RgL t1 L P := RgL_c hLt (by rw [ht1]; rfl)
      obtain ⟨ef, rf⟩ := y_freedBy l1 hw hok.1.1
      have x1 := RgL_x L1
      have d1 := L1.1
      obtain ⟨t2, ht2⟩ : ∃ t2, t2 = pI t1 221 D (zI (frd g D)) := ⟨_, rfl⟩
      obtain ⟨mf, m1, m2, m3, m4⟩ := f5.2.2.2.2
      have m1' : gI t2 218 7 = zI mf := by rw [ht2, gI_n _ _ _ _ (by omega), ht1, gI_n _ _ _ _ (by omega)]; exact m1
      have fD : gI t2 221 D = zI (frd g D) := by rw [ht2, gI_s, if_pos rfl]
      have fb := frd_b hw hdl
      obtain ⟨mx, hmx⟩ : ∃ mx, mx = if mf < frd g D then frd g D else mf := ⟨_, rfl⟩
      have hmx2 : 0 ≤ mx ∧ mx ≤ 18 ∧ mf ≤ mx ∧ frd g D ≤ mx := by rw [hmx]; split <;> omega
      obtain ⟨t3, ht3⟩ : ∃ t3, t3 = pI t2 218 7 (zI mx) := ⟨_, rfl⟩
      have cn : (zI (n : Int)).toNatClampNeg = n := by rw [z_cl (by omega)]; exact Int.toNat_natCast _
      have vn : vp_in (zI (n : Int)) 60 := by rw [z_in (by omega)]; omega
      have emx : (if zI mf < zI (frd g D) then zI (frd g D) else zI mf) = zI mx := by rw [zif, hmx]; congr 1; simp only [z_lt (show IR mf by omega) (show IR (frd g D) by omega)]
      have ft : Fp PrA t t3 := by rw [ht3, ht2, ht1]; exact Fp_tr (Fp_p t (by omega)) (Fp_tr (Fp_p _ (by omega)) (Fp_p _ (by omega)))
      have g3 : ∀ c i, ¬ (c = 218 ∧ i = 7) → ¬ (c = 221 ∧ i = D) → ¬ (c = 222 ∧ i = n) → gI t3 c i = gI t c i := fun c i c1 c2 c3 => by
        rw [ht3, gI_pI, if_neg c1, ht2, gI_pI, if_neg c2, ht1, gI_pI, if_neg c3]
      refine ⟨(n + 1, t3), ⟨fun i => if i = n then D else br' i, Fp_tr f1 ft, by rw [← f2, ht3, ht2, ht1]; rfl, by rw [g3 223 b (by omega) (by omega) (by omega)]; exact f3, Blk_add f4 hok.1 hok.2, ?_⟩, ST_1 fun m => ?_⟩
      · refine ⟨fun i hi => ?_, fun c hc => ?_, ?_, fun w hw2 => ?_, mx, ?_, hmx2.1, hmx2.2.1, fun w hw2 => ?_⟩
        · by_cases hq : i = n
          · simp only [if_pos hq]; rw [hq, ht3, gI_n _ _ _ _ (by omega), ht2, gI_n _ _ _ _ (by omega), ht1, gI_s, if_pos rfl]
          · simp only [if_neg hq]; dsimp only at hi; rw [g3 222 i (by omega) (by omega) (by omega)]; exact f5.1 i (by omega)
        · obtain ⟨k1, k2, k3, k4⟩ := f5.2.1 c hc
          dsimp only
          refine ⟨by rw [g3 223 c (by omega) (by omega) (by omega)]; exact k1, by rw [g3 224 c (by omega) (by omega) (by omega)]; exact k2, by omega, Blk_ch k4 (fun i hi => if_neg (by omega))⟩
        · dsimp only; rw [Int.natCast_succ, Int.natCast_succ, cN_add hdl hok.1 hok.2, hn]
        · dsimp only
          by_cases hq : w = D
          · subst hq; rw [ht3, gI_n _ _ _ _ (by omega)]; exact fD
          · rw [g3 221 w (by omega) (by omega) (by omega)]; exact f5.2.2.2.1 w ⟨hw2.1, by have := hw2.2; omega⟩
        · dsimp only; rw [ht3, gI_s, if_pos rfl]
        · by_cases hq : w = D
          · subst hq; omega
          · have := m4 w ⟨hw2.1, by have := hw2.2; omega⟩; omega
      · dsimp only
        rw [lpX7_prepare_45, qpX7_prepare_45]
        generalize hlK : lX7_prepare m = K
        generalize hqK : qX7_prepare m = Q
        have k2 : (oZ g D 0 = (b : Int)) = True := eq_true hok.2
        have k1 : okR g D = True := eq_true hok.1
        simp (disch := omega) only [tX7_prepare_45, uX7_prepare_45, x0, d0, dx, hLt.2.2, e9, e0, em, rm, zl0, zl1, z_add, z_le, z_eq, n1, vd, k1, k2, bI_T, bI_z, cD, cn, vn, Int.reduceAdd, Int.reduceSub, Int.reduceMul, Int.reduceNeg, Int.reduceLT, Int.reduceLE, Int.reduceToNat, Int.reduceEq, ← ht1, x1, d1, ef, rf, cD, ← ht2, m1', fD, emx, ← ht3, forall_eq, Int.natCast_succ, if_true, if_false, true_and, and_true, not_true, not_false_eq_true, false_implies, true_implies, imp_self, and_self, and_false, false_and, or_true, true_or, or_false, false_or, ite_self, implies_true]
    · refine ⟨(n, t), ⟨br', f1, f2, f3, Blk_skip f4 hok, PrO_skip f5 hok⟩, ST_1 fun m => ?_⟩
      dsimp only
      rw [lpX7_prepare_45, qpX7_prepare_45]
      generalize hlK : lX7_prepare m = K
      generalize hqK : qX7_prepare m = Q
      rcases tf (oZ g D 0 = (b : Int)) with k2 | k2
      · have k1 : okR g D = False := eq_false (fun hc => hok ⟨hc, of_eq_true k2⟩)
        simp (disch := omega) only [tX7_prepare_45, uX7_prepare_45, x0, d0, dx, hLt.2.2, e9, e0, em, rm, zl0, zl1, z_add, z_le, z_eq, n1, vd, k1, k2, bI_F, cD, Int.natCast_succ, Int.reduceAdd, Int.reduceSub, Int.reduceMul, Int.reduceNeg, Int.reduceLT, Int.reduceLE, Int.reduceToNat, Int.reduceEq, if_true, if_false, true_and, and_true, not_true, not_false_eq_true, false_implies, true_implies, imp_self, and_self, and_false, false_and, or_true, true_or, or_false, false_or, ite_self, implies_true]
      · simp (disch := omega) only [tX7_prepare_45, uX7_prepare_45, x0, d0, dx, hLt.2.2, e9, e0, em, rm, zl0, zl1, z_add, z_le, z_eq, n1, vd, k2, cD, Int.natCast_succ, Int.reduceAdd, Int.reduceSub, Int.reduceMul, Int.reduceNeg, Int.reduceLT, Int.reduceLE, Int.reduceToNat, Int.reduceEq, if_true, if_false, true_and, and_true, not_true, not_false_eq_true, false_implies, true_implies, imp_self, and_self, and_false, false_and, or_true, true_or, or_false, false_or, ite_self, implies_true])
  obtain ⟨⟨n, t⟩, ⟨br', f1, f2, f3, f4, f5⟩, st⟩ := up (g 34).toNat 0 (n0, s) (by omega) ⟨br, hf, hd, hlo, ⟨by omega, fun i a c => by omega, fun i j a c e => by omega, fun w hw2 => by omega⟩, hp⟩
  exact ⟨n, t, br', f1, f2, f3, f4, f5, st⟩
/-- the rows of the deals that rings may hold -/
def RoW (g : Nat → Int) (t : SM) (br lo en : Nat → Nat) : Prop := (∀ c, c < 9 → gI t 224 c = zI (en c : Int) ∧ en c ≤ 60 ∧ Blk g br (c : Int) (lo c) (en c) (g 34).toNat ∧ ∀ i, i < en c → gI t 222 i = zI (br i : Int)) ∧ (∀ w : Nat, okR g w → gI t 221 w = zI (frd g w)) ∧ ∃ mf : Int, gI t 218 7 = zI mf ∧ 0 ≤ mf ∧ mf ≤ 18 ∧ ∀ w : Nat, okR g w → frd g w ≤ mf
theorem y_prepare {s : SM} (h : LdR s L P g) (hw : WF g) (hLX : (L, P) ∈ LX) (hr : rfx L 8 = P) : ∃ t br lo en, mX7_prepare s L P = t ∧ rX7_prepare s L P ∧ Fp RoA s t ∧ RgL t L P ∧ (∀ c i, c = 219 ∨ c = 220 → gI t c i = gI s c i) ∧ gI t 218 1 = zI 0 ∧ gI t 218 2 = zI (-1) ∧ RoW g t br lo en ∧ ∀ c, c < 9 → gI t 223 c = zI (lo c : Int) := by
  have h0 := hw.w0
  have hLb := LX_b (L, P) hLX
  dsimp only at hLb
  obtain ⟨s1, hs1⟩ : ∃ s1, s1 = pI (pI (pI (pI (pD s 0 L) 218 1 0) 218 2 (-1)) 218 3 0) 218 7 0 := ⟨_, rfl⟩
  have g1 : ∀ c i, ¬ c = 218 → gI s1 c i = gI s c i := fun c i hc => by
    rw [hs1, gI_n _ _ _ _ hc, gI_n _ _ _ _ hc, gI_n _ _ _ _ hc, gI_n _ _ _ _ hc, gI_pD]
  have fp1 : Fp RoA s s1 := ⟨fun c i hc => g1 c i (by omega), by rw [hs1]; rfl, by rw [hs1]; rfl⟩
  have hL1 : RgL s1 L P := ⟨by rw [hs1]; rfl, hLX, hr⟩
  have l1 : LdR s1 L P g := LdR_fr h (A := fun c => 218 ≤ c ∧ c ≤ 224) ⟨fun c hc => by funext i; exact fp1.1 c i hc, fp1.2⟩ (fun c hc => by omega)
  have up := ST_up (B := 62) 9 (fun b (a : Nat × SM) => ∃ br lo en, Fp PrA s1 a.2 ∧ gD a.2 = gD s1 ∧ PrO g a.2 br lo en b 0 a.1) (fun b a m => (lX7_prepare m).1 a.2 L P (zI (a.1 : Int)) (zI (b : Int))) (fun b a m => (qX7_prepare m).1 a.2 L P (zI (a.1 : Int)) (zI (b : Int))) (by
    rintro b ⟨n, t⟩ hb ⟨br, lo, en, f1, f2, f3⟩
    dsimp only at f1 f2 f3
    obtain ⟨lo', hlo'⟩ : ∃ lo' : Nat → Nat, lo' = fun c => if c = b then n else lo c := ⟨_, rfl⟩
    have hlb : lo' b = n := by rw [hlo']; exact if_pos rfl
    obtain ⟨t1, ht1⟩ : ∃ t1, t1 = pI t 223 b (zI (n : Int)) := ⟨_, rfl⟩
    have g2 : ∀ c i, ¬ (c = 223 ∧ i = b) → gI t1 c i = gI t c i := fun c i hc => by rw [ht1, gI_pI, if_neg hc]
    have hp1 : PrO g t1 br lo' en b 0 n := by
      obtain ⟨p1, p2, p3, p4, mf, p5, p6, p7, p8⟩ := f3
      refine ⟨fun i hi => by rw [g2 222 i (by omega)]; exact p1 i hi, fun c hc => ?_, p3, fun w hw2 => by rw [g2 221 w (by omega)]; exact p4 w hw2, mf, by rw [g2 218 7 (by omega)]; exact p5, p6, p7, p8⟩
      obtain ⟨k1, k2, k3, k4⟩ := p2 c hc
      have : lo' c = lo c := by rw [hlo']; exact if_neg (by omega)
      rw [this, g2 223 c (by omega), g2 224 c (by omega)]
      exact ⟨k1, k2, k3, k4⟩
    obtain ⟨n', t', br', q1, q2, q3, q4, q5, q6⟩ := y_prep_in l1 hw hL1 hb (n0 := n) (s := t1) (lo := lo') (Fp_tr f1 (by rw [ht1]; exact Fp_p t (by omega))) (by rw [← f2, ht1]; rfl) (by rw [hlb, ht1, gI_s, if_pos rfl]) hlb hp1
    obtain ⟨en', hen'⟩ : ∃ en' : Nat → Nat, en' = fun c => if c = b then n' else en c := ⟨_, rfl⟩
    have heb : en' b = n' := by rw [hen']; exact if_pos rfl
    have hn60 := cN_b hw (b : Int) ((g 34).toNat : Int)
    have hn : (n' : Int) = cN g b (g 34).toNat := q5.2.2.1
    have hn0 : (n : Int) = cN g b 0 := f3.2.2.1
    have hn00 := cN_b hw (b : Int) 0
    obtain ⟨t2, ht2⟩ : ∃ t2, t2 = pI t' 224 b (zI (n' : Int)) := ⟨_, rfl⟩
    have g4 : ∀ c i, ¬ (c = 224 ∧ i = b) → gI t2 c i = gI t' c i := fun c i hc => by rw [ht2, gI_pI, if_neg hc]
    have ah : ∀ w : Nat, ahd g ((b + 1 : Nat) : Int) ((0 : Nat) : Int) w → ahd g b ((g 34).toNat : Int) w := fun w hw2 => ⟨hw2.1, by have := hw2.2; have := hw2.1.1.1; omega⟩
    have cb : (zI (b : Int)).toNatClampNeg = b := by rw [z_cl (by omega)]; exact Int.toNat_natCast _
    have vb : vp_in (zI (b : Int)) 9 := by rw [z_in (by omega)]; omega
    have n9 : ((9 : Int) ≤ (b : Int)) = False := eq_false (by omega)
    have hLt := RgL_c hL1 q2
    have x0 := RgL_x hLt
    have d0 := hLt.1
    have dx := hLt.2.1
    have e9 : gI t' L 9 = zI (g 34) := by rw [q1.1 L 9 (by omega)]; exact l1.2.1.1
    have hN : ((g 34).toNat : Int) = g 34 := by omega
    refine ⟨(n', t2), ⟨br', lo', en', Fp_tr q1 (by rw [ht2]; exact Fp_p t' (by omega)), by rw [← q2, ht2]; rfl, ?_⟩, ST_mono (ST_trans (B1 := 1) (ST_1 fun m => ?_) (ST_trans (B2 := 1) q6 (ST_1 fun m => ?_))) (by omega)⟩
    · obtain ⟨p1, p2, p3, p4, mf, p5, p6, p7, p8⟩ := q5
      dsimp only
      refine ⟨fun i hi => by rw [g4 222 i (by omega)]; exact p1 i hi, fun c hc => ?_, by rw [p3, cN_next hw]; rfl, fun w hw2 => by rw [g4 221 w (by omega)]; exact p4 w (ah w hw2), mf, by rw [g4 218 7 (by omega)]; exact p5, p6, p7, fun w hw2 => p8 w (ah w hw2)⟩
      by_cases hq : c = b
      · subst hq
        rw [heb, g4 223 c (by omega)]
        exact ⟨q3, by rw [ht2, gI_s, if_pos rfl], Nat.le_refl _, q4⟩
      · obtain ⟨k1, k2, k3, k4⟩ := p2 c (by omega)
        have : en' c = en c := by rw [hen']; exact if_neg hq
        rw [this, g4 223 c (by omega), g4 224 c (by omega)]
        exact ⟨k1, k2, k3, k4⟩
    · dsimp only
      rw [lpX7_prepare_29, qpX7_prepare_29]
      generalize hlK : lX7_prepare m = K
      generalize hqK : qX7_prepare m = Q
      simp (disch := omega) only [tX7_prepare_29, uX7_prepare_29, zl0, zl9, z_le, n9, cb, vb, ← ht1, Int.natCast_zero, if_true, if_false, true_and, and_true, not_true, not_false_eq_true, false_implies, true_implies, imp_self, and_self, and_false, false_and, or_true, true_or, or_false, false_or, ite_self, implies_true]
    · dsimp only
      rw [lpX7_prepare_45, qpX7_prepare_45]
      generalize hlK : lX7_prepare m = K
      generalize hqK : qX7_prepare m = Q
      simp (disch := omega) only [tX7_prepare_45, uX7_prepare_45, x0, d0, dx, hLt.2.2, e9, hN, zl1, z_add, z_le, Int.le_refl, cb, vb, ← ht2, Int.natCast_succ, if_true, if_false, true_and, and_true, not_true, not_false_eq_true, false_implies, true_implies, imp_self, and_self, and_false, false_and, or_true, true_or, or_false, false_or, ite_self, implies_true])
  obtain ⟨⟨n, t⟩, ⟨br, lo, en, f1, f2, f3⟩, st⟩ := up 9 0 (0, s1) (by omega) ⟨fun _ => 0, fun _ => 0, fun _ => 0, Fp_rf _ s1, rfl, fun i hi => by omega, fun c hc => by omega, (cN_0 hw).symm, fun w hw2 => absurd hw2.2 (by have := (hw.wd hw2.1.1.1).1; omega), 0, by rw [hs1, gI_s, if_pos rfl]; rfl, by omega, by omega, fun w hw2 => absurd hw2.2 (by have := (hw.wd hw2.1.1.1).1; omega)⟩
  dsimp only at f1 f2 f3
  obtain ⟨E, R⟩ := ST_fu (ST_trans st (ST_1 (F' := fun _ => t) (C' := fun _ => True) (fun m => by
    dsimp only
    rw [lpX7_prepare_29, qpX7_prepare_29]
    generalize hlK : lX7_prepare m = K
    generalize hqK : qX7_prepare m = Q
    simp (disch := omega) only [tX7_prepare_29, uX7_prepare_29, zl9, z_le, show (((9 : Nat) : Int)) = 9 from rfl, Int.le_refl, if_true, if_false, true_and, and_true, not_true, not_false_eq_true, false_implies, true_implies, imp_self, and_self, and_false, false_and, or_true, true_or, or_false, false_or, ite_self, implies_true]))) (by omega)
  dsimp only at E R
  have hn : (n : Int) = cN g ((9 : Nat) : Int) ((0 : Nat) : Int) := f3.2.2.1
  have hn60 := cN_b hw ((9 : Nat) : Int) ((0 : Nat) : Int)
  have all : ∀ w : Nat, okR g w → ahd g ((9 : Nat) : Int) ((0 : Nat) : Int) w := fun w hw2 => ⟨hw2, Or.inl (by have := (hw.wd hw2.1.1).1; omega)⟩
  obtain ⟨p1, p2, p3, p4, mf, p5, p6, p7, p8⟩ := f3
  refine ⟨t, br, lo, en, ?_, ?_, Fp_tr fp1 (Fp_mo f1 (fun c i hc => by omega)), RgL_c hL1 f2, fun c i hc => by rw [f1.1 c i (by omega), g1 c i (by omega)], ?_, ?_, ⟨fun c hc => ?_, fun w hw2 => p4 w (all w hw2), mf, p5, p6, p7, fun w hw2 => p8 w (all w hw2)⟩, fun c hc => (p2 c hc).1⟩
  · unfold mX7_prepare fX7_prepare; rw [← hs1]; exact E
  · unfold rX7_prepare; rw [← hs1]; exact R
  · rw [f1.1 218 1 (by omega), hs1, gI_s, if_neg (by decide), gI_s, if_neg (by decide), gI_s, if_neg (by decide), gI_s, if_pos rfl]; rfl
  · rw [f1.1 218 2 (by omega), hs1, gI_s, if_neg (by decide), gI_s, if_neg (by decide), gI_s, if_pos rfl]; rfl
  · obtain ⟨k1, k2, k3, k4⟩ := p2 c hc
    exact ⟨k2, by omega, k4, fun i hi => p1 i (by omega)⟩
end
