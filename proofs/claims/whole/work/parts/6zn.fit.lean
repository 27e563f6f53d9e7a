-- needs: 6zm.fit
def AcX (m : Nat) (s : SM) (a : Acc) : Prop := (a.1 = 0 → gI s 248 53 = 0) ∧ (¬ a.1 = 0 → gI s 248 53 = zI (m : Int) ∧ ∀ i, i < m → (a.2.1 i ≤ 99 ∧ a.2.2 i ≤ 99) ∧ gI s 270 i = zI (a.2.1 i : Int) ∧ gI s 271 i = zI (a.2.2 i : Int))
theorem AcX_c {m : Nat} {s t : SM} {a : Acc} {A : Nat → Nat → Prop} (h : AcX m s a) (hf : Fp A s t) (hA : ∀ c i, c = 270 ∨ c = 271 ∨ (c = 248 ∧ i = 53) → ¬ A c i) : AcX m t a := by
  refine ⟨fun h0 => by rw [hf.1 248 53 (hA _ _ (by omega))]; exact h.1 h0, fun h0 => ?_⟩
  obtain ⟨k0, k⟩ := h.2 h0
  refine ⟨by rw [hf.1 248 53 (hA _ _ (by omega))]; exact k0, fun i hi => ?_⟩
  obtain ⟨k1, k2, k3⟩ := k i hi
  exact ⟨k1, by rw [hf.1 270 i (hA _ _ (by omega))]; exact k2, by rw [hf.1 271 i (hA _ _ (by omega))]; exact k3⟩
section
variable {s : SM} {g : Nat → Int} {el : Nat → Nat} {m M : Nat} {NB told ot : Int → Int}
/-- a way is noted, by the reference -/
theorem x_noteF (hm : m ≤ 4) (hM : M ≤ 20) {c : List Nat} (hP : MPx 272 s c) (hl : c.length = m) (hcb : ∀ w ∈ c, 1 ≤ w ∧ w ≤ M) {a : Acc} (ha : AcX m s a) (hb : a.1 ≤ 200000) (x1 : Int32) : ∃ s', ST (3 * m + 1) (fun k => (lX12_fits k).2.2.2.1 s x1 (zI (m : Int)) (zI (a.1 : Int)) 1 0) (fun k => (qX12_fits k).2.2.2.1 s x1 (zI (m : Int)) (zI (a.1 : Int)) 1 0) (fun k => (lX12_fits k).2.2.2.2.2.2.1 s' x1 (zI (m : Int)) (zI ((a.1 + 1 : Nat) : Int)) 1 (zI ((m : Int) - 1))) (fun k => (qX12_fits k).2.2.2.2.2.2.1 s' x1 (zI (m : Int)) (zI ((a.1 + 1 : Nat) : Int)) 1 (zI ((m : Int) - 1))) ∧ Fp (fun c i => c = 270 ∨ c = 271 ∨ (c = 248 ∧ i = 53)) s s' ∧ AcX m s' (ntA c a) := by
  have hge := fun i => gEl_b hcb i
  have z0 : zI (a.1 : Int) = 0 ↔ a.1 = 0 := by rw [zl0, z_eq (by omega) (by omega)]; omega
  obtain ⟨t, ⟨i1, i3, i4⟩, st⟩ := ST_up (B := 3) m (fun (d : Nat) (u : SM) => Fp (fun c i => c = 270 ∨ c = 271) s u ∧ (∀ i, i < d → gI u 270 i = zI ((ntA c a).2.1 i : Int) ∧ gI u 271 i = zI ((ntA c a).2.2 i : Int)) ∧ ∀ i, d ≤ i → gI u 270 i = gI s 270 i ∧ gI u 271 i = gI s 271 i) (fun d u n => (lX12_fits n).2.2.2.1 u x1 (zI (m : Int)) (zI (a.1 : Int)) 1 (zI (d : Int))) (fun d u n => (qX12_fits n).2.2.2.1 u x1 (zI (m : Int)) (zI (a.1 : Int)) 1 (zI (d : Int))) (fun d u hd ⟨a1, a3, a4⟩ => by
    have nle : ¬ zI (m : Int) ≤ zI (d : Int) := by rw [z_le (by omega) (by omega)]; omega
    have cd : (zI (d : Int)).toNatClampNeg = d := by rw [z_cl (by omega)]; exact Int.toNat_natCast _
    have vd : vp_in (zI (d : Int)) 4 := by rw [z_in (by omega)]; omega
    have e1 : zI (d : Int) + 1 = zI ((d + 1 : Nat) : Int) := by rw [zl1, z_add]; congr 1
    have u2 : gI u 272 d = zI (gEl c d : Int) := by rw [a1.1 272 d (by omega)]; exact MPx_g hP d (by omega)
    have gd := hge d
    obtain ⟨x, hx⟩ : ∃ x, x = (ntA c a).2.1 d := ⟨_, rfl⟩
    obtain ⟨y, hy⟩ : ∃ y, y = (ntA c a).2.2 d := ⟨_, rfl⟩
    -- the least
    have lo : ∃ v, (v = u ∨ v = pI u 270 d (zI (gEl c d : Int))) ∧ gI v 270 d = zI (x : Int) ∧ ST 2 (fun n => (lX12_fits n).2.2.2.1 u x1 (zI (m : Int)) (zI (a.1 : Int)) 1 (zI (d : Int))) (fun n => (qX12_fits n).2.2.2.1 u x1 (zI (m : Int)) (zI (a.1 : Int)) 1 (zI (d : Int))) (fun n => (lX12_fits n).2.2.2.2.2.1 v x1 (zI (m : Int)) (zI (a.1 : Int)) 1 (zI (d : Int))) (fun n => (qX12_fits n).2.2.2.2.2.1 v x1 (zI (m : Int)) (zI (a.1 : Int)) 1 (zI (d : Int))) := by
      have s232 : ST 1 (fun n => (lX12_fits n).2.2.2.2.1 u x1 (zI (m : Int)) (zI (a.1 : Int)) 1 (zI (d : Int))) (fun n => (qX12_fits n).2.2.2.2.1 u x1 (zI (m : Int)) (zI (a.1 : Int)) 1 (zI (d : Int))) (fun n => (lX12_fits n).2.2.2.2.2.1 (pI u 270 d (zI (gEl c d : Int))) x1 (zI (m : Int)) (zI (a.1 : Int)) 1 (zI (d : Int))) (fun n => (qX12_fits n).2.2.2.2.2.1 (pI u 270 d (zI (gEl c d : Int))) x1 (zI (m : Int)) (zI (a.1 : Int)) 1 (zI (d : Int))) := ST_1 fun n => by
        show tX12_fits_232 (lX12_fits n) u x1 (zI (m : Int)) (zI (a.1 : Int)) 1 (zI (d : Int)) = _ ∧ (_ → uX12_fits_232 (qX12_fits n) u x1 (zI (m : Int)) (zI (a.1 : Int)) 1 (zI (d : Int)))
        unfold tX12_fits_232 uX12_fits_232
        rw [cd, u2]
        exact ⟨rfl, fun hh => ⟨vd, vd, hh⟩⟩
      by_cases c0 : a.1 = 0
      · refine ⟨_, Or.inr rfl, ?_, ST_trans (B1 := 1) (B2 := 1) (ST_1 fun n => ?_) s232⟩
        · rw [gI_pI, if_pos ⟨rfl, rfl⟩, hx]
          show _ = zI ((if a.1 = 0 then gEl c d else _ : Nat) : Int)
          rw [if_pos c0]
        · show tX12_fits_205 (lX12_fits n) u x1 (zI (m : Int)) (zI (a.1 : Int)) 1 (zI (d : Int)) = _ ∧ (_ → uX12_fits_205 (qX12_fits n) u x1 (zI (m : Int)) (zI (a.1 : Int)) 1 (zI (d : Int)))
          unfold tX12_fits_205 uX12_fits_205
          rw [if_neg nle, if_pos (z0.mpr c0)]
          exact ⟨rfl, fun hh => ⟨fun hc => absurd hc nle, fun _ => ⟨fun _ => hh, fun hc => absurd (z0.mpr c0) hc⟩⟩⟩
      · obtain ⟨-, hk⟩ := ha.2 c0
        obtain ⟨⟨b1, b2⟩, b3, b4⟩ := hk d hd
        have nz : ¬ zI (a.1 : Int) = 0 := fun hc => c0 (z0.mp hc)
        have o6 : gI u 270 d = zI (a.2.1 d : Int) := by rw [(a4 d (Nat.le_refl _)).1]; exact b3
        have ex : x = if gEl c d < a.2.1 d then gEl c d else a.2.1 d := by rw [hx]; show (if a.1 = 0 then _ else _) = _; rw [if_neg c0]
        by_cases c2 : gEl c d < a.2.1 d
        · have nl : ¬ zI (a.2.1 d : Int) ≤ zI (gEl c d : Int) := by rw [z_le (by omega) (by omega)]; omega
          refine ⟨_, Or.inr rfl, by rw [gI_pI, if_pos ⟨rfl, rfl⟩, ex, if_pos c2], ST_trans (B1 := 1) (B2 := 1) (ST_1 fun n => ?_) s232⟩
          show tX12_fits_205 (lX12_fits n) u x1 (zI (m : Int)) (zI (a.1 : Int)) 1 (zI (d : Int)) = _ ∧ (_ → uX12_fits_205 (qX12_fits n) u x1 (zI (m : Int)) (zI (a.1 : Int)) 1 (zI (d : Int)))
          unfold tX12_fits_205 uX12_fits_205
          rw [if_neg nle, if_neg nz, cd, o6, u2, if_neg nl]
          exact ⟨rfl, fun hh => ⟨fun hc => absurd hc nle, fun _ => ⟨fun hc => absurd hc nz, fun _ => ⟨vd, vd, fun hc => absurd hc nl, fun _ => hh⟩⟩⟩⟩
        · have nl : zI (a.2.1 d : Int) ≤ zI (gEl c d : Int) := by rw [z_le (by omega) (by omega)]; omega
          refine ⟨u, Or.inl rfl, by rw [o6, ex, if_neg c2], ST_mono (ST_1 fun n => ?_) (show 1 ≤ 2 by omega)⟩
          show tX12_fits_205 (lX12_fits n) u x1 (zI (m : Int)) (zI (a.1 : Int)) 1 (zI (d : Int)) = _ ∧ (_ → uX12_fits_205 (qX12_fits n) u x1 (zI (m : Int)) (zI (a.1 : Int)) 1 (zI (d : Int)))
          unfold tX12_fits_205 uX12_fits_205
          rw [if_neg nle, if_neg nz, cd, o6, u2, if_pos nl]
          exact ⟨rfl, fun hh => ⟨fun hc => absurd hc nle, fun _ => ⟨fun hc => absurd hc nz, fun _ => ⟨vd, vd, fun _ => hh, fun hc => absurd nl hc⟩⟩⟩⟩
    obtain ⟨v, hv, v270, stl⟩ := lo
    have fv : Fp (fun c i => c = 270 ∧ i = d) u v := by
      rcases hv with h | h <;> rw [h]
      · exact Fp_rf _ u
      · exact Fp_p u ⟨rfl, rfl⟩
    have v2 : gI v 272 d = zI (gEl c d : Int) := by rw [fv.1 272 d (by omega)]; exact u2
    -- the greatest
    have hi : ∃ w, (w = v ∨ w = pI v 271 d (zI (gEl c d : Int))) ∧ gI w 271 d = zI (y : Int) ∧ ST 1 (fun n => (lX12_fits n).2.2.2.2.2.1 v x1 (zI (m : Int)) (zI (a.1 : Int)) 1 (zI (d : Int))) (fun n => (qX12_fits n).2.2.2.2.2.1 v x1 (zI (m : Int)) (zI (a.1 : Int)) 1 (zI (d : Int))) (fun n => (lX12_fits n).2.2.2.1 w x1 (zI (m : Int)) (zI (a.1 : Int)) 1 (zI ((d + 1 : Nat) : Int))) (fun n => (qX12_fits n).2.2.2.1 w x1 (zI (m : Int)) (zI (a.1 : Int)) 1 (zI ((d + 1 : Nat) : Int))) := by
      by_cases c0 : a.1 = 0
      · refine ⟨_, Or.inr rfl, ?_, ST_1 fun n => ?_⟩
        · rw [gI_pI, if_pos ⟨rfl, rfl⟩, hy]
          show _ = zI ((if a.1 = 0 then gEl c d else _ : Nat) : Int)
          rw [if_pos c0]
        · show tX12_fits_246 (lX12_fits n) v x1 (zI (m : Int)) (zI (a.1 : Int)) 1 (zI (d : Int)) = _ ∧ (_ → uX12_fits_246 (qX12_fits n) v x1 (zI (m : Int)) (zI (a.1 : Int)) 1 (zI (d : Int)))
          unfold tX12_fits_246 uX12_fits_246
          rw [if_pos (z0.mpr c0), cd, v2, e1]
          exact ⟨rfl, fun hh => ⟨fun _ => ⟨vd, vd, hh⟩, fun hc => absurd (z0.mpr c0) hc⟩⟩
      · obtain ⟨-, hk⟩ := ha.2 c0
        obtain ⟨⟨b1, b2⟩, b3, b4⟩ := hk d hd
        have nz : ¬ zI (a.1 : Int) = 0 := fun hc => c0 (z0.mp hc)
        have o7 : gI v 271 d = zI (a.2.2 d : Int) := by rw [fv.1 271 d (by omega), (a4 d (Nat.le_refl _)).2]; exact b4
        have ey : y = if a.2.2 d < gEl c d then gEl c d else a.2.2 d := by rw [hy]; show (if a.1 = 0 then _ else _) = _; rw [if_neg c0]
        by_cases c2 : a.2.2 d < gEl c d
        · have nl : ¬ zI (gEl c d : Int) ≤ zI (a.2.2 d : Int) := by rw [z_le (by omega) (by omega)]; omega
          refine ⟨_, Or.inr rfl, by rw [gI_pI, if_pos ⟨rfl, rfl⟩, ey, if_pos c2], ST_1 fun n => ?_⟩
          show tX12_fits_246 (lX12_fits n) v x1 (zI (m : Int)) (zI (a.1 : Int)) 1 (zI (d : Int)) = _ ∧ (_ → uX12_fits_246 (qX12_fits n) v x1 (zI (m : Int)) (zI (a.1 : Int)) 1 (zI (d : Int)))
          unfold tX12_fits_246 uX12_fits_246
          rw [if_neg nz, cd, v2, o7, if_neg nl, e1]
          exact ⟨rfl, fun hh => ⟨fun hc => absurd hc nz, fun _ => ⟨vd, vd, fun hc => absurd hc nl, fun _ => ⟨vd, vd, hh⟩⟩⟩⟩
        · have nl : zI (gEl c d : Int) ≤ zI (a.2.2 d : Int) := by rw [z_le (by omega) (by omega)]; omega
          refine ⟨v, Or.inl rfl, by rw [o7, ey, if_neg c2], ST_1 fun n => ?_⟩
          show tX12_fits_246 (lX12_fits n) v x1 (zI (m : Int)) (zI (a.1 : Int)) 1 (zI (d : Int)) = _ ∧ (_ → uX12_fits_246 (qX12_fits n) v x1 (zI (m : Int)) (zI (a.1 : Int)) 1 (zI (d : Int)))
          unfold tX12_fits_246 uX12_fits_246
          rw [if_neg nz, cd, v2, o7, if_pos nl, e1]
          exact ⟨rfl, fun hh => ⟨fun hc => absurd hc nz, fun _ => ⟨vd, vd, fun _ => hh, fun hc => absurd nl hc⟩⟩⟩
    obtain ⟨w, hw, w271, sth⟩ := hi
    have fw : Fp (fun c i => c = 271 ∧ i = d) v w := by
      rcases hw with h | h <;> rw [h]
      · exact Fp_rf _ v
      · exact Fp_p v ⟨rfl, rfl⟩
    refine ⟨w, ⟨Fp_tr a1 (Fp_tr (Fp_mo fv (fun c i hc => Or.inl hc.1)) (Fp_mo fw (fun c i hc => Or.inr hc.1))), fun i hi => ?_, fun i hi => ?_⟩, ST_mono (ST_trans stl sth) (by omega)⟩
    · by_cases c1 : i = d
      · subst c1
        rw [fw.1 270 i (by omega), v270, w271, hx, hy]
        exact ⟨rfl, rfl⟩
      · rw [fw.1 270 i (by omega), fv.1 270 i (by omega), fw.1 271 i (by omega), fv.1 271 i (by omega)]; exact a3 i (by omega)
    · rw [fw.1 270 i (by omega), fv.1 270 i (by omega), fw.1 271 i (by omega), fv.1 271 i (by omega)]; exact a4 i (by omega)) m 0 s (by omega) ⟨Fp_rf _ s, fun i hi => absurd hi (by omega), fun _ _ => ⟨rfl, rfl⟩⟩
  have en : zI (a.1 : Int) + 1 = zI ((a.1 + 1 : Nat) : Int) := by rw [zl1, z_add]; congr 1
  have em : zI (m : Int) - 1 = zI ((m : Int) - 1) := by rw [zl1, z_sub]
  obtain ⟨t', ht'⟩ : ∃ t', t' = pI t 248 53 (zI (m : Int)) := ⟨_, rfl⟩
  have ft : Fp (fun c i => c = 248 ∧ i = 53) t t' := by rw [ht']; exact Fp_p t (by omega)
  refine ⟨t', ST_mono (ST_trans st (ST_1 fun n => ?_)) (by omega), Fp_tr (Fp_mo i1 (fun c i hc => by omega)) (Fp_mo ft (fun c i hc => by omega)), fun hc => absurd hc (by show ¬ a.1 + 1 = 0; omega), fun _ => ⟨by rw [ht', gI_pI, if_pos ⟨rfl, rfl⟩], fun i hi => ⟨?_, ?_, ?_⟩⟩⟩
  · show tX12_fits_205 (lX12_fits n) t x1 (zI (m : Int)) (zI (a.1 : Int)) 1 (zI (m : Int)) = _ ∧ (_ → uX12_fits_205 (qX12_fits n) t x1 (zI (m : Int)) (zI (a.1 : Int)) 1 (zI (m : Int)))
    unfold tX12_fits_205 uX12_fits_205
    rw [if_pos (Int32.le_refl _), en, em, ← ht']
    exact ⟨rfl, fun hh => ⟨fun _ => hh, fun hc => absurd (Int32.le_refl _) hc⟩⟩
  · have gd := hge i
    show (if a.1 = 0 then _ else _) ≤ 99 ∧ (if a.1 = 0 then _ else _) ≤ 99
    by_cases c0 : a.1 = 0
    · rw [if_pos c0, if_pos c0]; omega
    · obtain ⟨-, hk⟩ := ha.2 c0
      obtain ⟨⟨b1, b2⟩, -⟩ := hk i hi
      rw [if_neg c0, if_neg c0]
      constructor
      · split <;> omega
      · split <;> omega
  · rw [ft.1 270 i (by omega)]; exact (i3 i hi).1
  · rw [ft.1 271 i (by omega)]; exact (i3 i hi).2
/-- on to the next sums -/
theorem x_odoF (hM : 1 ≤ M ∧ M ≤ 20) (a2 a3 a4 : Int32) : ∀ (k : Nat), k ≤ 4 → ∀ (N : Nat), N < M ^ k → ∀ (s : SM), MPx 272 s (lsM M k N) → ∃ s', Fp (fun c i => c = 272 ∧ i < k) s s' ∧ (N + 1 < M ^ k → MPx 272 s' (lsM M k (N + 1)) ∧ ST (k + 2) (fun n => (lX12_fits n).2.2.2.2.2.2.1 s (zI (M : Int)) a2 a3 a4 (zI ((k : Int) - 1))) (fun n => (qX12_fits n).2.2.2.2.2.2.1 s (zI (M : Int)) a2 a3 a4 (zI ((k : Int) - 1))) (fun n => (lX12_fits n).2.2.1 s' (zI (M : Int)) a2 a3 1) (fun n => (qX12_fits n).2.2.1 s' (zI (M : Int)) a2 a3 1)) ∧ (N + 1 = M ^ k → ST (k + 2) (fun n => (lX12_fits n).2.2.2.2.2.2.1 s (zI (M : Int)) a2 a3 a4 (zI ((k : Int) - 1))) (fun n => (qX12_fits n).2.2.2.2.2.2.1 s (zI (M : Int)) a2 a3 a4 (zI ((k : Int) - 1))) (fun n => (lX12_fits n).2.2.1 s' (zI (M : Int)) a2 a3 0) (fun n => (qX12_fits n).2.2.1 s' (zI (M : Int)) a2 a3 0)) := by
  intro k
  induction k with
  | zero =>
    intro hk N hN s hP
    have hN : N < 1 := hN
    have lm : zI (((0 : Nat) : Int) - 1) < 0 := by decide
    refine ⟨s, Fp_rf _ s, fun hc => ?_, fun _ => ST_trans (B1 := 1) (B2 := 1) (F' := fun n => (lX12_fits n).2.2.2.2.2.2.2 s (zI (M : Int)) a2 a3 a4 (zI (((0 : Nat) : Int) - 1))) (C' := fun n => (qX12_fits n).2.2.2.2.2.2.2 s (zI (M : Int)) a2 a3 a4 (zI (((0 : Nat) : Int) - 1))) (ST_1 fun n => ?_) (ST_1 fun n => ?_)⟩
    · have : N + 1 < 1 := hc
      omega
    · show tX12_fits_300 (lX12_fits n) s (zI (M : Int)) a2 a3 a4 (zI (((0 : Nat) : Int) - 1)) = _ ∧ (_ → uX12_fits_300 (qX12_fits n) s (zI (M : Int)) a2 a3 a4 (zI (((0 : Nat) : Int) - 1)))
      unfold tX12_fits_300 uX12_fits_300
      rw [if_pos lm]
      exact ⟨rfl, fun hh => ⟨fun _ => hh, fun hc => absurd lm hc⟩⟩
    · show tX12_fits_330 (lX12_fits n) s (zI (M : Int)) a2 a3 a4 (zI (((0 : Nat) : Int) - 1)) = _ ∧ (_ → uX12_fits_330 (qX12_fits n) s (zI (M : Int)) a2 a3 a4 (zI (((0 : Nat) : Int) - 1)))
      unfold tX12_fits_330 uX12_fits_330
      rw [if_pos lm, if_pos rfl]
      exact ⟨rfl, fun hh => ⟨fun _ => hh, fun hc => absurd rfl hc⟩⟩
  | succ k ih =>
    intro hk N hN s hP
    have epw : M ^ (k + 1) = M ^ k * M := Nat.pow_succ _ _
    rw [epw] at hN ⊢
    have hmod := Nat.mod_lt N (show 0 < M by omega)
    have hdm := Nat.div_add_mod N M
    have hdiv : N / M < M ^ k := by rw [Nat.div_lt_iff_lt_mul (by omega)]; exact hN
    have hl : (lsM M k (N / M)).length = k := lsM_len M _ _
    have h0 : gI s 272 k = zI ((N % M + 1 : Nat) : Int) := by have := hP.1; rw [hl] at this; exact this
    have e1 : (((k + 1 : Nat) : Int) - 1) = (k : Int) := by omega
    have lm : ¬ zI (k : Int) < 0 := by rw [zl0, z_lt (by omega) (by omega)]; omega
    have ck : (zI (k : Int)).toNatClampNeg = k := by rw [z_cl (by omega)]; exact Int.toNat_natCast _
    have vk : vp_in (zI (k : Int)) 4 := by rw [z_in (by omega)]; omega
    rw [e1]
    by_cases h4 : N % M + 1 = M
    · obtain ⟨s1, hs1⟩ : ∃ s1, s1 = pI s 272 k 1 := ⟨_, rfl⟩
      have hj : ∀ j, j < k → gI s1 272 j = gI s 272 j := fun j hj => by rw [hs1, gI_s, if_neg (by omega)]
      obtain ⟨s', f1, i1, i2⟩ := ih (by omega) (N / M) hdiv s1 (MPx_c hP.2 (fun j hj2 => hj j (by omega)))
      have g4 : gI s 272 k = zI (M : Int) := by rw [h0, h4]
      have ek : zI (k : Int) + (-1) = zI ((k : Int) - 1) := by rw [zl1, z_neg, z_add]; rfl
      have st : ST 1 (fun n => (lX12_fits n).2.2.2.2.2.2.1 s (zI (M : Int)) a2 a3 a4 (zI (k : Int))) (fun n => (qX12_fits n).2.2.2.2.2.2.1 s (zI (M : Int)) a2 a3 a4 (zI (k : Int))) (fun n => (lX12_fits n).2.2.2.2.2.2.1 s1 (zI (M : Int)) a2 a3 a4 (zI ((k : Int) - 1))) (fun n => (qX12_fits n).2.2.2.2.2.2.1 s1 (zI (M : Int)) a2 a3 a4 (zI ((k : Int) - 1))) := ST_1 fun n => by
        show tX12_fits_300 (lX12_fits n) s (zI (M : Int)) a2 a3 a4 (zI (k : Int)) = _ ∧ (_ → uX12_fits_300 (qX12_fits n) s (zI (M : Int)) a2 a3 a4 (zI (k : Int)))
        unfold tX12_fits_300 uX12_fits_300
        rw [if_neg lm, ck, if_pos g4, ← hs1, ek]
        exact ⟨rfl, fun hh => ⟨fun hc => absurd hc lm, fun _ => ⟨vk, fun hc => absurd g4 hc, fun _ => ⟨vk, hh⟩⟩⟩⟩
      -- the next tuple's digits
      have enx : N + 1 = M * (N / M + 1) := by rw [Nat.mul_add]; omega
      have d1 : (N + 1) % M = 0 := by rw [enx]; exact Nat.mul_mod_right _ _
      have d2 : (N + 1) / M = N / M + 1 := by rw [enx]; exact Nat.mul_div_cancel_left _ (by omega)
      refine ⟨s', Fp_tr (by rw [hs1]; exact Fp_p s ⟨rfl, by omega⟩) (Fp_mo f1 (fun c i hc => ⟨hc.1, by omega⟩)), fun hc => ?_, fun hc => ?_⟩
      · have hlt : N / M + 1 < M ^ k := by
          rw [enx, Nat.mul_comm] at hc
          exact Nat.lt_of_mul_lt_mul_right hc
        obtain ⟨j1, j2⟩ := i1 hlt
        refine ⟨⟨?_, ?_⟩, ST_mono (ST_trans st j2) (by omega)⟩
        · rw [lsM_len, f1.1 272 k (by omega), hs1, gI_s, if_pos rfl]
          show 1 = zI (((N + 1) % M + 1 : Nat) : Int)
          rw [d1]; rfl
        · rw [d2]; exact j1
      · have heq : N / M + 1 = M ^ k := by
          rw [enx, Nat.mul_comm] at hc
          exact Nat.eq_of_mul_eq_mul_right (by omega) hc
        exact ST_mono (ST_trans st (i2 heq)) (by omega)
    · have g4 : ¬ gI s 272 k = zI (M : Int) := by rw [h0, z_eq (by omega) (by omega)]; omega
      obtain ⟨s1, hs1⟩ : ∃ s1, s1 = pI s 272 k (gI s 272 k + 1) := ⟨_, rfl⟩
      have hj : ∀ j, j < k → gI s1 272 j = gI s 272 j := fun j hj => by rw [hs1, gI_s, if_neg (by omega)]
      have enx : N + 1 = M * (N / M) + (N % M + 1) := by omega
      have d1 : (N + 1) % M = N % M + 1 := by rw [enx, Nat.mul_add_mod]; exact Nat.mod_eq_of_lt (by omega)
      have d2 : (N + 1) / M = N / M := by rw [enx, Nat.mul_add_div (by omega), Nat.div_eq_of_lt (by omega : N % M + 1 < M)]; rfl
      refine ⟨s1, by rw [hs1]; exact Fp_p s ⟨rfl, by omega⟩, fun hc => ⟨⟨?_, ?_⟩, ?_⟩, fun hc => ?_⟩
      · rw [lsM_len, hs1, gI_s, if_pos rfl, h0, zl1, z_add]
        show _ = zI (((N + 1) % M + 1 : Nat) : Int)
        rw [d1]; congr 1
      · rw [d2]
        exact MPx_c hP.2 (fun j hj2 => hj j (by omega))
      · refine ST_mono (ST_trans (B1 := 1) (B2 := 1) (F' := fun n => (lX12_fits n).2.2.2.2.2.2.2 s (zI (M : Int)) a2 a3 a4 (zI (k : Int))) (C' := fun n => (qX12_fits n).2.2.2.2.2.2.2 s (zI (M : Int)) a2 a3 a4 (zI (k : Int))) (ST_1 fun n => ?_) (ST_1 fun n => ?_)) (by omega)
        · show tX12_fits_300 (lX12_fits n) s (zI (M : Int)) a2 a3 a4 (zI (k : Int)) = _ ∧ (_ → uX12_fits_300 (qX12_fits n) s (zI (M : Int)) a2 a3 a4 (zI (k : Int)))
          unfold tX12_fits_300 uX12_fits_300
          rw [if_neg lm, ck, if_neg g4]
          exact ⟨rfl, fun hh => ⟨fun hc => absurd hc lm, fun _ => ⟨vk, fun _ => hh, fun hc => absurd hc g4⟩⟩⟩
        · show tX12_fits_330 (lX12_fits n) s (zI (M : Int)) a2 a3 a4 (zI (k : Int)) = _ ∧ (_ → uX12_fits_330 (qX12_fits n) s (zI (M : Int)) a2 a3 a4 (zI (k : Int)))
          unfold tX12_fits_330 uX12_fits_330
          rw [if_neg lm, ck, ← hs1, if_neg (by decide)]
          exact ⟨rfl, fun hh => ⟨fun hc => absurd hc (by decide), fun _ => ⟨vk, vk, hh⟩⟩⟩
      · exfalso
        have hd2 : N / M * M + M ≤ M ^ k * M := by
          have := Nat.mul_le_mul_right M (show N / M + 1 ≤ M ^ k by omega)
          rw [Nat.add_mul, Nat.one_mul] at this
          exact this
        rw [Nat.mul_comm] at hdm
        omega
end
