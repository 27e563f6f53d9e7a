-- needs: 69t.xare
/-- the digits of N: the last deal's way first -/
def lst : Nat → Nat → List Nat
  | 0, _ => []
  | k + 1, N => (N % 5) :: lst k (N / 5)
theorem lst_len : ∀ k N, (lst k N).length = k := by
  intro k
  induction k with
  | zero => intro N; rfl
  | succ k ih => intro N; show (lst k (N / 5)).length + 1 = _; rw [ih]
theorem lst_4 : ∀ k N, ∀ w ∈ lst k N, w ≤ 4 := by
  intro k
  induction k with
  | zero => intro N w hw; exact absurd hw (by simp [lst])
  | succ k ih =>
    intro N w hw
    rcases List.mem_cons.mp hw with rfl | hw
    · omega
    · exact ih _ w hw
theorem lst_rk : ∀ k N, N < p5 k → rk (lst k N) = N := by
  intro k
  induction k with
  | zero => intro N h; have : N < 1 := h; show 0 = N; omega
  | succ k ih =>
    intro N h
    have h : N < p5 k * 5 := h
    show rk (lst k (N / 5)) * 5 + N % 5 = N
    rw [ih (N / 5) (by omega)]; omega
theorem lst_of : ∀ (c : List Nat), (∀ w ∈ c, w ≤ 4) → lst c.length (rk c) = c := fun c h =>
  rk_inj (lst_len _ _) (lst_4 _ _) h (lst_rk _ _ (rk_lt h))
section
variable {s : SM} {g : Nat → Int} {ld db kd : Nat → Int} {n : Nat}
abbrev BpA (c i : Nat) : Prop := c = 266 ∨ c = 267 ∨ c = 269
/-- on to the next -/
theorem x_odo (a1 a2 a3 a4 a5 : Int32) : ∀ (k : Nat), k ≤ 6 → ∀ (N : Nat), N < p5 k → ∀ (s : SM), MPx 266 s (lst k N) → ∃ s', Fp (fun c i => c = 266 ∧ i < k) s s' ∧ (N + 1 < p5 k → MPx 266 s' (lst k (N + 1)) ∧ ST (k + 2) (fun m => (lX12_bestPack m).2.2.2.2.1 s a1 a2 a3 a4 a5 (zI ((k : Int) - 1))) (fun m => (qX12_bestPack m).2.2.2.2.1 s a1 a2 a3 a4 a5 (zI ((k : Int) - 1))) (fun m => (lX12_bestPack m).2.1 s' a1 a2 a3 1) (fun m => (qX12_bestPack m).2.1 s' a1 a2 a3 1)) ∧ (N + 1 = p5 k → ST (k + 2) (fun m => (lX12_bestPack m).2.2.2.2.1 s a1 a2 a3 a4 a5 (zI ((k : Int) - 1))) (fun m => (qX12_bestPack m).2.2.2.2.1 s a1 a2 a3 a4 a5 (zI ((k : Int) - 1))) (fun m => (lX12_bestPack m).2.1 s' a1 a2 a3 0) (fun m => (qX12_bestPack m).2.1 s' a1 a2 a3 0)) := by
  intro k
  induction k with
  | zero =>
    intro hk N hN s hP
    have hN : N < 1 := hN
    have lm : zI (((0 : Nat) : Int) - 1) < 0 := by decide
    refine ⟨s, Fp_rf _ s, fun hc => ?_, fun _ => ST_trans (B1 := 1) (B2 := 1) (F' := fun m => (lX12_bestPack m).2.2.2.2.2 s a1 a2 a3 a4 a5 (zI (((0 : Nat) : Int) - 1))) (C' := fun m => (qX12_bestPack m).2.2.2.2.2 s a1 a2 a3 a4 a5 (zI (((0 : Nat) : Int) - 1))) (ST_1 fun m => ?_) (ST_1 fun m => ?_)⟩
    · have : N + 1 < 1 := hc
      omega
    · rw [lpX12_bestPack_136, qpX12_bestPack_136]
      unfold tX12_bestPack_136 uX12_bestPack_136
      rw [if_pos lm]
      exact ⟨rfl, fun hh => ⟨fun _ => hh, fun hc => absurd lm hc⟩⟩
    · rw [lpX12_bestPack_166, qpX12_bestPack_166]
      unfold tX12_bestPack_166 uX12_bestPack_166
      rw [if_pos lm, if_pos rfl]
      exact ⟨rfl, fun hh => ⟨fun _ => hh, fun hc => absurd rfl hc⟩⟩
  | succ k ih =>
    intro hk N hN s hP
    have hN : N < p5 k * 5 := hN
    have hl : (lst k (N / 5)).length = k := lst_len _ _
    have h0 : gI s 266 k = zI ((N % 5 : Nat) : Int) := by have := hP.1; rw [hl] at this; exact this
    have e1 : (((k + 1 : Nat) : Int) - 1) = (k : Int) := by omega
    have lm : ¬ zI (k : Int) < 0 := by rw [zl0, z_lt (by omega) (by omega)]; omega
    have ck : (zI (k : Int)).toNatClampNeg = k := by rw [z_cl (by omega)]; exact Int.toNat_natCast _
    have vk : vp_in (zI (k : Int)) 6 := by rw [z_in (by omega)]; omega
    rw [e1]
    by_cases h4 : N % 5 = 4
    · obtain ⟨s1, hs1⟩ : ∃ s1, s1 = pI s 266 k 0 := ⟨_, rfl⟩
      have hj : ∀ j, j < k → gI s1 266 j = gI s 266 j := fun j hj => by rw [hs1, gI_s, if_neg (by omega)]
      obtain ⟨s', f1, i1, i2⟩ := ih (by omega) (N / 5) (by omega) s1 (MPx_c hP.2 (fun j hj2 => hj j (by omega)))
      have g4 : gI s 266 k = 4 := by rw [h0, h4]; rfl
      have ek : zI (k : Int) + (-1) = zI ((k : Int) - 1) := by rw [zl1, z_neg, z_add]; rfl
      have st : ST 1 (fun m => (lX12_bestPack m).2.2.2.2.1 s a1 a2 a3 a4 a5 (zI (k : Int))) (fun m => (qX12_bestPack m).2.2.2.2.1 s a1 a2 a3 a4 a5 (zI (k : Int))) (fun m => (lX12_bestPack m).2.2.2.2.1 s1 a1 a2 a3 a4 a5 (zI ((k : Int) - 1))) (fun m => (qX12_bestPack m).2.2.2.2.1 s1 a1 a2 a3 a4 a5 (zI ((k : Int) - 1))) := ST_1 fun m => by
        rw [lpX12_bestPack_136, qpX12_bestPack_136]
        unfold tX12_bestPack_136 uX12_bestPack_136
        rw [if_neg lm, ck, if_pos g4, ← hs1, ek]
        exact ⟨rfl, fun hh => ⟨fun hc => absurd hc lm, fun _ => ⟨vk, fun hc => absurd g4 hc, fun _ => ⟨vk, hh⟩⟩⟩⟩
      refine ⟨s', Fp_tr (by rw [hs1]; exact Fp_p s ⟨rfl, by omega⟩) (Fp_mo f1 (fun c i hc => ⟨hc.1, by omega⟩)), fun hc => ?_, fun hc => ?_⟩
      · have hc : N + 1 < p5 k * 5 := hc
        obtain ⟨j1, j2⟩ := i1 (by omega)
        refine ⟨⟨?_, ?_⟩, ST_mono (ST_trans st j2) (by omega)⟩
        · rw [lst_len, f1.1 266 k (by omega), hs1, gI_s, if_pos rfl]
          show 0 = zI (((N + 1) % 5 : Nat) : Int)
          rw [show (N + 1) % 5 = 0 by omega]; rfl
        · rw [show (N + 1) / 5 = N / 5 + 1 by omega]; exact j1
      · have hc : N + 1 = p5 k * 5 := hc
        exact ST_mono (ST_trans st (i2 (by omega))) (by omega)
    · have g4 : ¬ gI s 266 k = 4 := by rw [h0, show (4 : Int32) = zI 4 from rfl, z_eq (by omega) (by omega)]; omega
      obtain ⟨s1, hs1⟩ : ∃ s1, s1 = pI s 266 k (gI s 266 k + 1) := ⟨_, rfl⟩
      have hj : ∀ j, j < k → gI s1 266 j = gI s 266 j := fun j hj => by rw [hs1, gI_s, if_neg (by omega)]
      refine ⟨s1, by rw [hs1]; exact Fp_p s ⟨rfl, by omega⟩, fun hc => ⟨⟨?_, ?_⟩, ?_⟩, fun hc => ?_⟩
      · rw [lst_len, hs1, gI_s, if_pos rfl, h0, zl1, z_add, show (N + 1) % 5 = N % 5 + 1 by omega]; rfl
      · rw [show (N + 1) / 5 = N / 5 by omega]
        exact MPx_c hP.2 (fun j hj2 => hj j (by omega))
      · refine ST_mono (ST_trans (B1 := 1) (B2 := 1) (F' := fun m => (lX12_bestPack m).2.2.2.2.2 s a1 a2 a3 a4 a5 (zI (k : Int))) (C' := fun m => (qX12_bestPack m).2.2.2.2.2 s a1 a2 a3 a4 a5 (zI (k : Int))) (ST_1 fun m => ?_) (ST_1 fun m => ?_)) (by omega)
        · rw [lpX12_bestPack_136, qpX12_bestPack_136]
          unfold tX12_bestPack_136 uX12_bestPack_136
          rw [if_neg lm, ck, if_neg g4]
          exact ⟨rfl, fun hh => ⟨fun hc => absurd hc lm, fun _ => ⟨vk, fun _ => hh, fun hc => absurd hc g4⟩⟩⟩
        · rw [lpX12_bestPack_166, qpX12_bestPack_166]
          unfold tX12_bestPack_166 uX12_bestPack_166
          rw [if_neg lm, ck, ← hs1, if_neg (by decide)]
          exact ⟨rfl, fun hh => ⟨fun hc => absurd hc (by decide), fun _ => ⟨vk, vk, hh⟩⟩⟩
      · have hc : N + 1 = p5 k * 5 := hc
        omega
end
