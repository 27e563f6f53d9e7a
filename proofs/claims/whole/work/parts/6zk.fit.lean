-- needs: 6zj.fit
def fitP (g : Nat → Int) (el : Nat → Nat) (NB : Int → Int) (c : List Nat) : Prop := ∀ b, bdyZ g b → livZ g b → smT g el b c = NB b
def NdR (g : Nat → Int) (el : Nat → Nat) (NB : Int → Int) (s : SM) (P : List Nat) : Prop := ∀ b, bdyZ g b → gI s 238 b.toNat = zI (NB b - smT g el b P)
def FtC (g : Nat → Int) (el : Nat → Nat) (m M : Nat) (s : SM) : Prop := LdR s 31 5 g ∧ gD s 2 = some 31 ∧ gI s 233 6 = zI (m : Int) ∧ gI s 233 8 = zI (M : Int) ∧ (∀ i, i < m → gI s 234 i = zI (el i : Int)) ∧ ∀ b, bdyZ g b → gI s 239 b.toNat = zI (laT g el b m)
def FtD (g : Nat → Int) (el : Nat → Nat) (m M : Nat) (NB : Int → Int) : Prop := m ≤ 4 ∧ (1 ≤ M ∧ M ≤ 20) ∧ (∀ i, i < m → opZ g (el i) ∧ ¬ sorZ g (el i) = 3) ∧ (∀ b, -200000 ≤ NB b ∧ NB b ≤ 200000) ∧ (∀ b, bdyZ g b → livZ g b → laT g el b m = -1 → NB b = 0) ∧ WF g ∧ WA g
def AcR (m : Nat) (s : SM) (a : Acc) : Prop := gI s 233 9 = zI (a.1 : Int) ∧ (¬ a.1 = 0 → ∀ i, i < m → (a.2.1 i ≤ 99 ∧ a.2.2 i ≤ 99) ∧ gI s 236 i = zI (a.2.1 i : Int) ∧ gI s 237 i = zI (a.2.2 i : Int))
abbrev FitA (c i : Nat) : Prop := (235 ≤ c ∧ c ≤ 238) ∨ (c = 233 ∧ i = 9)
theorem FtC_c {g : Nat → Int} {el : Nat → Nat} {m M : Nat} {s t : SM} {A : Nat → Nat → Prop} (h : FtC g el m M s) (hf : Fp A s t) (hg : gD t = gD s) (hA : ∀ c i, c < 233 ∨ c = 234 ∨ c = 239 ∨ (c = 233 ∧ (i = 6 ∨ i = 8)) → ¬ A c i) : FtC g el m M t := by
  obtain ⟨h1, h2, h3, h4, h5, h6⟩ := h
  exact ⟨LdR_fp h1 hf (fun c i hc => hA c i (by omega)), by rw [hg]; exact h2, by rw [hf.1 233 6 (hA _ _ (by omega))]; exact h3, by rw [hf.1 233 8 (hA _ _ (by omega))]; exact h4, fun i hi => by rw [hf.1 234 i (hA _ _ (by omega))]; exact h5 i hi, fun b hb => by rw [hf.1 239 _ (hA _ _ (by omega))]; exact h6 b hb⟩
theorem AcR_c {m : Nat} {s t : SM} {a : Acc} {A : Nat → Nat → Prop} (h : AcR m s a) (hf : Fp A s t) (hA : ∀ c i, c = 236 ∨ c = 237 ∨ (c = 233 ∧ i = 9) → ¬ A c i) : AcR m t a := by
  refine ⟨by rw [hf.1 233 9 (hA _ _ (by omega))]; exact h.1, fun h0 i hi => ?_⟩
  obtain ⟨k1, k2, k3⟩ := h.2 h0 i hi
  exact ⟨k1, by rw [hf.1 236 i (hA _ _ (by omega))]; exact k2, by rw [hf.1 237 i (hA _ _ (by omega))]; exact k3⟩
theorem MPx_g {cc : Nat} {s : SM} : ∀ {c : List Nat}, MPx cc s c → ∀ i, i < c.length → gI s cc i = zI (gEl c i : Int) := by
  intro c
  induction c with
  | nil => intro _ i hi; exact absurd hi (by simp)
  | cons w P ih =>
    intro h i hi
    rw [List.length_cons] at hi
    unfold gEl
    by_cases c : i = P.length
    · rw [if_pos c, c]; exact h.1
    · rw [if_neg c]; exact ih h.2 i (by omega)
theorem gEl_b {M : Nat} : ∀ {c : List Nat}, (∀ w ∈ c, 1 ≤ w ∧ w ≤ M) → ∀ i, gEl c i ≤ M := by
  intro c
  induction c with
  | nil => intro _ i; exact Nat.zero_le _
  | cons w P ih =>
    intro h i
    unfold gEl
    by_cases c : i = P.length
    · rw [if_pos c]; exact (h w (by simp)).2
    · rw [if_neg c]; exact ih (fun x hx => h x (by simp [hx])) i
/-- a way is noted, by the class -/
theorem y_noteWay {m M : Nat} {s : SM} {c : List Nat} {a : Acc} (hm : m ≤ 4) (h6 : gI s 233 6 = zI (m : Int)) (hP : MPx 235 s c) (hl : c.length = m) (hM : M ≤ 20) (hc : ∀ w ∈ c, 1 ≤ w ∧ w ≤ M) (ha : AcR m s a) (hb : a.1 ≤ 200000) : ∃ s', mX1_noteWay s = s' ∧ rX1_noteWay s ∧ Fp (fun c i => c = 236 ∨ c = 237 ∨ (c = 233 ∧ i = 9)) s s' ∧ gD s' = gD s ∧ AcR m s' (ntA c a) := by
  have hge := fun i => gEl_b hc i
  have z9 : gI s 233 9 = 0 ↔ a.1 = 0 := by rw [ha.1, zl0, z_eq (by omega) (by omega)]; omega
  obtain ⟨t, ⟨i1, i2, i3, i4⟩, st⟩ := ST_up (B := 1) m (fun (d : Nat) (u : SM) => Fp (fun c i => c = 236 ∨ c = 237) s u ∧ gD u = gD s ∧ (∀ i, i < d → gI u 236 i = zI ((ntA c a).2.1 i : Int) ∧ gI u 237 i = zI ((ntA c a).2.2 i : Int)) ∧ ∀ i, d ≤ i → gI u 236 i = gI s 236 i ∧ gI u 237 i = gI s 237 i) (fun d u n => lX1_noteWay n u (zI (d : Int))) (fun d u n => qX1_noteWay n u (zI (d : Int))) (fun d u hd ⟨a1, a2, a3, a4⟩ => by
    have nle : ¬ zI (m : Int) ≤ zI (d : Int) := by rw [z_le (by omega) (by omega)]; omega
    have cd : (zI (d : Int)).toNatClampNeg = d := by rw [z_cl (by omega)]; exact Int.toNat_natCast _
    have vd : vp_in (zI (d : Int)) 4 := by rw [z_in (by omega)]; omega
    have e1 : zI (d : Int) + 1 = zI ((d + 1 : Nat) : Int) := by rw [zl1, z_add]; congr 1
    have u6 : gI u 233 6 = zI (m : Int) := by rw [a1.1 233 6 (by omega)]; exact h6
    have u9 : gI u 233 9 = gI s 233 9 := a1.1 233 9 (by omega)
    have u5 : gI u 235 d = zI (gEl c d : Int) := by rw [a1.1 235 d (by omega)]; exact MPx_g hP d (by omega)
    have gd := hge d
    obtain ⟨x, hx⟩ : ∃ x, x = (ntA c a).2.1 d := ⟨_, rfl⟩
    obtain ⟨y, hy⟩ : ∃ y, y = (ntA c a).2.2 d := ⟨_, rfl⟩
    obtain ⟨v, hv⟩ : ∃ v, v = pI (pI u 236 d (zI (x : Int))) 237 d (zI (y : Int)) := ⟨_, rfl⟩
    have fv : Fp (fun c i => (c = 236 ∨ c = 237) ∧ i = d) u v := by rw [hv]; exact Fp_tr (Fp_p u (by omega)) (Fp_p _ (by omega))
    refine ⟨v, ⟨Fp_tr a1 (Fp_mo fv (fun c i hc => hc.1)), by rw [hv, gD_pI, gD_pI]; exact a2, fun i hi => ?_, fun i hi => ?_⟩, ST_1 fun n => ?_⟩
    · by_cases c1 : i = d
      · subst c1
        rw [hv, gI_pI, if_neg (by omega), gI_pI, if_pos ⟨rfl, rfl⟩, gI_pI, if_pos ⟨rfl, rfl⟩, hx, hy]
        exact ⟨rfl, rfl⟩
      · rw [fv.1 236 i (by omega), fv.1 237 i (by omega)]; exact a3 i (by omega)
    · rw [fv.1 236 i (by omega), fv.1 237 i (by omega)]; exact a4 i (by omega)
    · show tX1_noteWay_2 (lX1_noteWay n) u (zI (d : Int)) = _ ∧ (_ → uX1_noteWay_2 (qX1_noteWay n) u (zI (d : Int)))
      unfold tX1_noteWay_2 uX1_noteWay_2
      rw [u6, if_neg nle, cd, u9, u5, e1]
      by_cases c0 : a.1 = 0
      · have k0 := z9.mpr c0
        have ex : x = gEl c d := by rw [hx]; show (if a.1 = 0 then _ else _) = _; rw [if_pos c0]
        have ey : y = gEl c d := by rw [hy]; show (if a.1 = 0 then _ else _) = _; rw [if_pos c0]
        have g9 : gI (pI u 236 d (zI (gEl c d : Int))) 233 9 = 0 := by rw [gI_pI, if_neg (by omega), u9]; exact k0
        have g5 : gI (pI u 236 d (zI (gEl c d : Int))) 235 d = zI (gEl c d : Int) := by rw [gI_pI, if_neg (by omega)]; exact u5
        rw [if_pos k0, if_pos g9, g5, hv, ex, ey]
        exact ⟨rfl, fun hh _ => ⟨fun hc => absurd k0 hc, fun _ => ⟨vd, vd, fun hc => absurd g9 hc, fun _ => ⟨vd, vd, fun s20 h20 => by rw [h20]; exact hh⟩⟩⟩⟩
      · have k0 : ¬ gI s 233 9 = 0 := fun hc => c0 (z9.mp hc)
        obtain ⟨⟨b1, b2⟩, b3, b4⟩ := ha.2 c0 d hd
        have o6 : gI u 236 d = zI (a.2.1 d : Int) := by rw [(a4 d (Nat.le_refl _)).1]; exact b3
        have o7 : gI u 237 d = zI (a.2.2 d : Int) := by rw [(a4 d (Nat.le_refl _)).2]; exact b4
        have ex : (if zI (gEl c d : Int) < zI (a.2.1 d : Int) then zI (gEl c d : Int) else zI (a.2.1 d : Int)) = zI (x : Int) := by
          have e : x = if gEl c d < a.2.1 d then gEl c d else a.2.1 d := by rw [hx]; show (if a.1 = 0 then _ else _) = _; rw [if_neg c0]
          rw [e]
          by_cases c2 : gEl c d < a.2.1 d
          · rw [if_pos c2, if_pos (by rw [z_lt (by omega) (by omega)]; omega)]
          · rw [if_neg c2, if_neg (by rw [z_lt (by omega) (by omega)]; omega)]
        have ey : (if zI (a.2.2 d : Int) < zI (gEl c d : Int) then zI (gEl c d : Int) else zI (a.2.2 d : Int)) = zI (y : Int) := by
          have e : y = if a.2.2 d < gEl c d then gEl c d else a.2.2 d := by rw [hy]; show (if a.1 = 0 then _ else _) = _; rw [if_neg c0]
          rw [e]
          by_cases c2 : a.2.2 d < gEl c d
          · rw [if_pos c2, if_pos (by rw [z_lt (by omega) (by omega)]; omega)]
          · rw [if_neg c2, if_neg (by rw [z_lt (by omega) (by omega)]; omega)]
        have g9 : ¬ gI (pI u 236 d (zI (x : Int))) 233 9 = 0 := by rw [gI_pI, if_neg (by omega), u9]; exact k0
        have g5 : gI (pI u 236 d (zI (x : Int))) 235 d = zI (gEl c d : Int) := by rw [gI_pI, if_neg (by omega)]; exact u5
        have g7 : gI (pI u 236 d (zI (x : Int))) 237 d = zI (a.2.2 d : Int) := by rw [gI_pI, if_neg (by omega)]; exact o7
        rw [if_neg k0, o6, ex]
        dsimp only
        rw [if_neg g9, g5, g7, ey, ← hv]
        refine ⟨rfl, fun hh _ => ⟨fun _ => ⟨vd, vd, vd, fun s4 h4 => ?_⟩, fun hc => absurd hc k0⟩⟩
        rw [h4, g5, g7, ey, ← hv]
        exact ⟨fun _ => ⟨vd, vd, vd, fun s8 h8 => by rw [h8]; exact hh⟩, fun hc => absurd hc g9⟩) m 0 s (by omega) ⟨Fp_rf _ s, rfl, fun i hi => absurd hi (by omega), fun _ _ => ⟨rfl, rfl⟩⟩
  have t6 : gI t 233 6 = zI (m : Int) := by rw [i1.1 233 6 (by omega)]; exact h6
  have t9 : gI t 233 9 = zI (a.1 : Int) := by rw [i1.1 233 9 (by omega)]; exact ha.1
  have en : zI (a.1 : Int) + 1 = zI ((a.1 + 1 : Nat) : Int) := by rw [zl1, z_add]; congr 1
  obtain ⟨t', ht'⟩ : ∃ t', t' = pI t 233 9 (zI ((a.1 + 1 : Nat) : Int)) := ⟨_, rfl⟩
  have ft : Fp (fun c i => c = 233 ∧ i = 9) t t' := by rw [ht']; exact Fp_p t (by omega)
  obtain ⟨E, R⟩ := ST_fu (ST_trans st (ST_1 (F' := fun _ => t') (C' := fun _ => True) (fun n => by
    show tX1_noteWay_2 (lX1_noteWay n) t (zI (m : Int)) = _ ∧ (_ → uX1_noteWay_2 (qX1_noteWay n) t (zI (m : Int)))
    unfold tX1_noteWay_2 uX1_noteWay_2
    rw [t6, if_pos (Int32.le_refl _), t9, en, ← ht']
    exact ⟨rfl, fun _ hc => absurd (Int32.le_refl _) hc⟩))) (by omega)
  refine ⟨t', E, R, Fp_tr (Fp_mo i1 (fun c i hc => by omega)) (Fp_mo ft (fun c i hc => by omega)), by rw [ht', gD_pI]; exact i2, ?_, fun _ i hi => ⟨?_, ?_, ?_⟩⟩
  · rw [ht', gI_pI, if_pos ⟨rfl, rfl⟩]; rfl
  · have gd := hge i
    show (if a.1 = 0 then _ else _) ≤ 99 ∧ (if a.1 = 0 then _ else _) ≤ 99
    by_cases c0 : a.1 = 0
    · rw [if_pos c0, if_pos c0]; omega
    · obtain ⟨⟨b1, b2⟩, -⟩ := ha.2 c0 i hi
      rw [if_neg c0, if_neg c0]
      constructor
      · split <;> omega
      · split <;> omega
  · rw [ft.1 236 i (by omega)]; exact (i3 i hi).1
  · rw [ft.1 237 i (by omega)]; exact (i3 i hi).2
theorem y_vBy {s : SM} {P : Nat} {g : Nat → Int} (h : PoR s P g) (hw : WF g) {k x : Int} (hk : kndZ g k) (hx : 0 ≤ x ∧ x ≤ 99) : vX6_valueOf s P (zI k) (zI x) = zI (vbZ x (soZ g k)) ∧ rX6_valueOf s P (zI k) (zI x) := by
  have h0 := hw.w0
  have h4 := h.2.2 k hk
  have h5 := hw.wk hk
  unfold vX6_valueOf rX6_valueOf vbZ
  rw [z_cl (by omega), h4.2, z_in (by omega)]
  refine ⟨?_, by omega⟩
  simp (disch := omega) only [zl0, zl1, zl2, zl3, z_eq, z_mul, z_div]
  split
  · rfl
  · split
    · rfl
    · split <;> rfl
theorem smT_b {g : Nat → Int} {el : Nat → Nat} {M : Nat} (hM : M ≤ 20) (b : Int) : ∀ {P : List Nat}, (∀ w ∈ P, 1 ≤ w ∧ w ≤ M) → -198 * (P.length : Int) ≤ smT g el b P ∧ smT g el b P ≤ 198 * (P.length : Int) := by
  intro P
  induction P with
  | nil => intro _; exact ⟨by show -198 * (0 : Int) ≤ 0; omega, by show (0 : Int) ≤ 198 * 0; omega⟩
  | cons w P ih =>
    intro h
    have h1 := ih (fun x hx => h x (by simp [hx]))
    have h2 := h w (by simp)
    have h3 : 0 ≤ viT g el P.length w ∧ viT g el P.length w ≤ 198 := vb_b (by omega)
    have h4 : smT g el b (w :: P) = smT g el b P + svT g el b P.length (viT g el P.length w) := rfl
    have h5 : -198 ≤ svT g el b P.length (viT g el P.length w) ∧ svT g el b P.length (viT g el P.length w) ≤ 198 := by
      unfold svT
      split <;> split <;> omega
    rw [h4, List.length_cons]
    omega
