-- needs: 51.fr
def cp (a b n : Nat) (s : SM) : SM := cI s a (va_cpy (gI s b) (gI s a) 0 0 n)
theorem cp_n (s : SM) {a b n c : Nat} (h : c ≠ a) : gI (cp a b n s) c = gI s c := by
  unfold cp; rw [gI_cI, if_neg h]
theorem cp_s (s : SM) (a b n i : Nat) : gI (cp a b n s) a i = if i < n then gI s b i else gI s a i := by
  unfold cp; rw [gI_cI, if_pos rfl]; unfold va_cpy
  by_cases h : i < n
  · rw [if_pos (by omega), if_pos h]; congr 1; omega
  · rw [if_neg (by omega), if_neg h]
theorem cp_1 (s : SM) {a b n i : Nat} (h : i < n) : gI (cp a b n s) a i = gI s b i := by rw [cp_s, if_pos h]
theorem cp_f {A : Nat → Prop} (s : SM) {a b n : Nat} (h : A a) : Fr A s (cp a b n s) := ⟨fun c hc => cp_n s (fun hq => hc (hq ▸ h)), rfl, rfl⟩
theorem cp_fr {A : Nat → Prop} {s t : SM} {a b n : Nat} (h0 : Fr A s t) (h : A a) : Fr A s (cp a b n t) := Fr_tr h0 (cp_f t h)
def fin3 (L0 L1 : Nat) (v : Int32) (s : SM) : SM := pI (pI (pI s L0 9 v) L0 10 (gI (pI s L0 9 v) L1 10)) L0 14 (gI (pI (pI s L0 9 v) L0 10 (gI (pI s L0 9 v) L1 10)) L1 14)
theorem y_copy {s : SM} {L0 P0 L1 P1 : Nat} {g : Nat → Int} (h : LdS s L1 g) (hw : WF g) (hd : L0 + 12 ≤ L1 ∨ L1 + 12 ≤ L0) : LdS (mX4_copyFrom s L0 P0 L1 P1) L0 g ∧ Fr (InL L0) s (mX4_copyFrom s L0 P0 L1 P1) ∧ rX4_copyFrom s L0 P0 L1 P1 := by
  have h0 := hw.w0
  have e9 : gI s L1 9 = zI (g 34) := h.1.1
  have n1 : ¬ gI s L1 9 < 0 := by rw [e9, zl0, z_lt (by omega) (by omega)]; omega
  have n2 : gI s L1 9 ≤ 60 := by rw [e9, zl60, z_le (by omega) (by omega)]; omega
  have n3 : (gI s L1 9).toNatClampNeg = (g 34).toNat := by rw [e9, z_cl (by omega)]
  obtain ⟨n, hn⟩ : ∃ n, n = (g 34).toNat := ⟨_, rfl⟩
  have e : mX4_copyFrom s L0 P0 L1 P1 = fin3 L0 L1 (gI s L1 9) (cp (L0 + 8) (L1 + 8) 9 (cp (L0 + 7) (L1 + 7) 9 (cp (L0 + 11) (L1 + 11) n (cp (L0 + 10) (L1 + 10) n (cp (L0 + 9) (L1 + 9) n (cp (L0 + 6) (L1 + 6) n (cp (L0 + 5) (L1 + 5) n (cp (L0 + 4) (L1 + 4) n (cp (L0 + 3) (L1 + 3) n (cp (L0 + 2) (L1 + 2) n (cp (L0 + 1) (L1 + 1) n s))))))))))) := by
    unfold mX4_copyFrom
    rw [if_neg n1, if_pos n2, hn, ← n3]
    rfl
  refine ⟨?_, ?_, ?_⟩
  · rw [e, e9]
    have hc : ∀ (t : SM) (c : Nat), c ≠ L0 → gI (fin3 L0 L1 (zI (g 34)) t) c = gI t c := fun t c hc => by
      unfold fin3
      funext i
      rw [gI_n _ _ _ _ hc, gI_n _ _ _ _ hc, gI_n _ _ _ _ hc]
    refine ⟨⟨?_, ?_, ?_⟩, fun b hb => ?_, fun d hd2 => ?_⟩
    · unfold fin3; simp (disch := omega) only [gI_s, Int.reduceAdd, Int.reduceSub, Int.reduceMul, Int.reduceNeg, Int.reduceLT, Int.reduceLE, Int.reduceToNat, Int.reduceEq, if_true, if_false, true_and, and_true, not_true, not_false_eq_true, false_implies, true_implies, imp_self, and_self, Nat.reduceEqDiff]
    · unfold fin3
      have hL : L1 ≠ L0 := by omega
      have k : gI s L1 10 = zI (g 35) := h.1.2.1
      simp (disch := omega) only [gI_s, gI_n, cp_n, Int.reduceAdd, Int.reduceSub, Int.reduceMul, Int.reduceNeg, Int.reduceLT, Int.reduceLE, Int.reduceToNat, Int.reduceEq, if_true, if_false, true_and, and_true, not_true, not_false_eq_true, false_implies, true_implies, imp_self, and_self, Nat.reduceEqDiff]
      exact k
    · unfold fin3
      have k : gI s L1 14 = zI (g 36) := h.1.2.2
      simp (disch := omega) only [gI_s, gI_n, cp_n, Int.reduceAdd, Int.reduceSub, Int.reduceMul, Int.reduceNeg, Int.reduceLT, Int.reduceLE, Int.reduceToNat, Int.reduceEq, if_true, if_false, true_and, and_true, not_true, not_false_eq_true, false_implies, true_implies, imp_self, and_self, Nat.reduceEqDiff]
      exact k
    · have k := h.2.1 b hb
      unfold LdB at k ⊢
      rw [hc _ _ (by omega), hc _ _ (by omega)]
      simp (disch := omega) only [cp_1, cp_n]
      exact k
    · have k := h.2.2 d hd2
      unfold LdD at k ⊢
      have hdn : d.toNat < n := by omega
      rw [hc _ _ (by omega), hc _ _ (by omega), hc _ _ (by omega), hc _ _ (by omega), hc _ _ (by omega), hc _ _ (by omega), hc _ _ (by omega), hc _ _ (by omega), hc _ _ (by omega)]
      simp (disch := omega) only [cp_1, cp_n]
      exact k
  · rw [e]
    unfold fin3
    have q : ∀ {t : SM}, Fr (InL L0) s t → Fr (InL L0) s (fin3 L0 L1 (gI s L1 9) t) := fun hq => Fr_p (Fr_p (Fr_p hq ⟨by omega, by omega⟩) ⟨by omega, by omega⟩) ⟨by omega, by omega⟩
    refine q ?_
    refine cp_fr (cp_fr (cp_fr (cp_fr (cp_fr (cp_fr (cp_fr (cp_fr (cp_fr (cp_fr (cp_fr (Fr_rf _ s) ?_) ?_) ?_) ?_) ?_) ?_) ?_) ?_) ?_) ?_) ?_ <;> exact ⟨by omega, by omega⟩
  · have hm : ¬ gI s L1 9 < 0 ∧ 0 + (gI s L1 9).toNatClampNeg ≤ 60 := ⟨n1, by rw [n3]; omega⟩
    unfold rX4_copyFrom
    intro _ _
    refine ⟨hm, fun _ _ => ⟨hm, fun _ _ => ⟨hm, fun _ _ => ⟨hm, fun _ _ => ⟨hm, fun _ _ => ⟨hm, fun _ _ => ⟨hm, fun _ _ => ⟨hm, fun _ _ => hm⟩⟩⟩⟩⟩⟩⟩⟩
/-! what agrees ahead of the book -/
def SQ (g g' : Nat → Int) : Prop := ∀ k, k < 586 → g' k = g k
theorem SQ_sp {g g' : Nat → Int} (h : SQ g g') : SP g g' := fun k hk => h k (by omega)
theorem SQ_oZ {g g' : Nat → Int} (h : SQ g g') {d w : Int} (h1 : 46 + 9 * d + w < 586) : oZ g' d w = oZ g d w := h _ (by omega)
theorem SQ_sz {g g' : Nat → Int} (h : SQ g g') {k : Int} (hk : k < 500) : szZ g' k = szZ g k := h _ (by omega)
theorem SQ_so {g g' : Nat → Int} (h : SQ g g') {k : Int} (hk : k < 500) : soZ g' k = soZ g k := h _ (by omega)
theorem SQ_lef {g g' : Nat → Int} (h : SQ g g') (hw : WF g) {b : Int} (hb : b < 9) : lefZ g' b = lefZ g b := by
  have h0 := hw.w0
  unfold lefZ
  rw [show rmZ g' b = rmZ g b from h _ (by omega), show exZ g' b = exZ g b from h _ (by omega), h 34 (by omega), sumZ_c (g 34).toNat (fun d h1 h2 => by
    have hwd := (hw.wd (show dlZ g d by omega)).2.2.2.1
    unfold mkZ sizZ
    rw [SQ_oZ h (by omega), SQ_oZ h (by omega), SQ_oZ h (by omega), SQ_sz h (by omega)])]
  rfl
theorem WF_sq {g g' : Nat → Int} (hw : WF g) (h : SQ g g') : WF g' := by
  have h0 := hw.w0
  refine ⟨?_, fun b hb => ?_, fun k hk => ?_, fun d hd => ?_⟩
  · unfold W0; rw [h 0 (by omega), h 1 (by omega), h 2 (by omega), h 3 (by omega), h 34 (by omega), h 35 (by omega), h 36 (by omega)]; exact h0
  · unfold bdyZ at hb
    rw [h 0 (by omega)] at hb
    have k := hw.wb hb
    unfold WB at k ⊢
    rw [SQ_lef h hw (by omega), show rmZ g' b = rmZ g b from h _ (by omega), show exZ g' b = exZ g b from h _ (by omega), show kiZ g' b = kiZ g b from h _ (by omega), h 0 (by omega)]; exact k
  · unfold kndZ at hk
    rw [h 1 (by omega)] at hk
    have k2 := hw.wk hk
    unfold WK at k2 ⊢
    rw [SQ_sz h (by omega), SQ_so h (by omega)]; exact k2
  · unfold dlZ at hd
    rw [h 34 (by omega)] at hd
    have k := hw.wd hd
    unfold WD at k ⊢
    simp only [SQ_oZ h (show 46 + 9 * d + 0 < 586 by omega), SQ_oZ h (show 46 + 9 * d + 1 < 586 by omega), SQ_oZ h (show 46 + 9 * d + 2 < 586 by omega), SQ_oZ h (show 46 + 9 * d + 3 < 586 by omega), SQ_oZ h (show 46 + 9 * d + 4 < 586 by omega), SQ_oZ h (show 46 + 9 * d + 5 < 586 by omega), SQ_oZ h (show 46 + 9 * d + 6 < 586 by omega), SQ_oZ h (show 46 + 9 * d + 7 < 586 by omega), SQ_oZ h (show 46 + 9 * d + 8 < 586 by omega), h 0 (by omega), h 1 (by omega), h 34 (by omega)]
    exact k
theorem LdS_sq {s : SM} {L : Nat} {g g' : Nat → Int} (hl : LdS s L g) (hw : WF g) (h : SQ g g') : LdS s L g' := by
  have h0 := hw.w0
  refine ⟨?_, fun b hb => ?_, fun d hd => ?_⟩
  · rw [h 34 (by omega), h 35 (by omega), h 36 (by omega)]; exact hl.1
  · unfold bdyZ at hb
    rw [h 0 (by omega)] at hb
    have k := hl.2.1 b hb
    unfold LdB at k ⊢
    rw [SQ_lef h hw (by omega), show exZ g' b = exZ g b from h _ (by omega)]; exact k
  · unfold dlZ at hd
    rw [h 34 (by omega)] at hd
    have k := hl.2.2 d hd
    unfold LdD at k ⊢
    simp only [SQ_oZ h (show 46 + 9 * d + 0 < 586 by omega), SQ_oZ h (show 46 + 9 * d + 1 < 586 by omega), SQ_oZ h (show 46 + 9 * d + 2 < 586 by omega), SQ_oZ h (show 46 + 9 * d + 3 < 586 by omega), SQ_oZ h (show 46 + 9 * d + 4 < 586 by omega), SQ_oZ h (show 46 + 9 * d + 5 < 586 by omega), SQ_oZ h (show 46 + 9 * d + 6 < 586 by omega), SQ_oZ h (show 46 + 9 * d + 7 < 586 by omega), SQ_oZ h (show 46 + 9 * d + 8 < 586 by omega)]
    exact k
theorem PoR_sp {s : SM} {P : Nat} {g g' : Nat → Int} (hp : PoR s P g) (hw : WF g) (h : SP g g') : PoR s P g' := PoR_c hw h hp
