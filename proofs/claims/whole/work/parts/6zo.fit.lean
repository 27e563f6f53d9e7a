-- needs: 6zn.fit
def ac0 : Acc := (0, fun _ => 0, fun _ => 0)
abbrev FixA (c i : Nat) : Prop := c = 261 ∨ (270 ≤ c ∧ c ≤ 272) ∨ (c = 248 ∧ i = 53)
section
variable {s : SM} {g : Nat → Int} {el : Nat → Nat} {m M : Nat} {NB told ot : Int → Int}
theorem x_fbody (hD : FxD g el m M NB told ot) {u : SM} (hC : FxC g told ot u) {N : Nat} (hN : N < M ^ m) (hP : MPx 272 u (lsM M m N)) {a : Acc} (ha : AcX m u a) (hb : a.1 ≤ 200000) : ∃ u', Fp FixA u u' ∧ AcX m u' (stFt (fitP g el NB) (lsM M m N) a) ∧ (N + 1 < M ^ m → MPx 272 u' (lsM M m (N + 1)) ∧ ST 30 (fun n => (lX12_fits n).2.2.1 u (zI (M : Int)) (zI (m : Int)) (zI (a.1 : Int)) 1) (fun n => (qX12_fits n).2.2.1 u (zI (M : Int)) (zI (m : Int)) (zI (a.1 : Int)) 1) (fun n => (lX12_fits n).2.2.1 u' (zI (M : Int)) (zI (m : Int)) (zI ((stFt (fitP g el NB) (lsM M m N) a).1 : Int)) 1) (fun n => (qX12_fits n).2.2.1 u' (zI (M : Int)) (zI (m : Int)) (zI ((stFt (fitP g el NB) (lsM M m N) a).1 : Int)) 1)) ∧ (N + 1 = M ^ m → ST 30 (fun n => (lX12_fits n).2.2.1 u (zI (M : Int)) (zI (m : Int)) (zI (a.1 : Int)) 1) (fun n => (qX12_fits n).2.2.1 u (zI (M : Int)) (zI (m : Int)) (zI (a.1 : Int)) 1) (fun n => (lX12_fits n).2.2.1 u' (zI (M : Int)) (zI (m : Int)) (zI ((stFt (fitP g el NB) (lsM M m N) a).1 : Int)) 0) (fun n => (qX12_fits n).2.2.1 u' (zI (M : Int)) (zI (m : Int)) (zI ((stFt (fitP g el NB) (lsM M m N) a).1 : Int)) 0)) := by
  have hD' := hD
  obtain ⟨hm4, hM, -⟩ := hD'
  have hcb := lsM_b (show 0 < M by omega) m N
  obtain ⟨u1, e1, e2, e3, e4, e5⟩ := x_isFit hD hC hP (lsM_len M m N) hcb
  have hP1 : MPx 272 u1 (lsM M m N) := MPx_c hP (fun j _ => e3.1 272 j (by omega))
  have ha1 : AcX m u1 a := AcX_c ha e3 (fun c i hc => by omega)
  have n10 : ¬ (1 : Int32) = 0 := by decide
  have em : zI (m : Int) - 1 = zI ((m : Int) - 1) := by rw [zl1, z_sub]
  by_cases hf : fitP g el NB (lsM M m N)
  · rw [stFt_y hf]
    have v1 := e4 hf
    obtain ⟨u2, st2, f2, a2⟩ := x_noteF hm4 hM.2 hP1 (lsM_len M m N) hcb ha1 hb (zI (M : Int))
    obtain ⟨u3, f3, i1, i2⟩ := x_odoF hM (zI (m : Int)) (zI ((a.1 + 1 : Nat) : Int)) 1 m hm4 N hN u2 (MPx_c hP1 (fun j _ => f2.1 272 j (by omega)))
    have st1 : ST 1 (fun n => (lX12_fits n).2.2.1 u (zI (M : Int)) (zI (m : Int)) (zI (a.1 : Int)) 1) (fun n => (qX12_fits n).2.2.1 u (zI (M : Int)) (zI (m : Int)) (zI (a.1 : Int)) 1) (fun n => (lX12_fits n).2.2.2.1 u1 (zI (M : Int)) (zI (m : Int)) (zI (a.1 : Int)) 1 0) (fun n => (qX12_fits n).2.2.2.1 u1 (zI (M : Int)) (zI (m : Int)) (zI (a.1 : Int)) 1 0) := ST_1 fun n => by
      show tX12_fits_189 (lX12_fits n) u (zI (M : Int)) (zI (m : Int)) (zI (a.1 : Int)) 1 = _ ∧ (_ → uX12_fits_189 (qX12_fits n) u (zI (M : Int)) (zI (m : Int)) (zI (a.1 : Int)) 1)
      unfold tX12_fits_189 uX12_fits_189
      rw [if_neg n10, v1, if_neg n10, e1]
      exact ⟨rfl, fun hh _ => ⟨e2, fun hc => absurd hc n10, fun _ => hh⟩⟩
    refine ⟨u3, Fp_tr (Fp_mo e3 (fun c i hc => by omega)) (Fp_tr (Fp_mo f2 (fun c i hc => by omega)) (Fp_mo f3 (fun c i hc => by omega))), AcX_c a2 f3 (fun c i hc => by omega), fun hlt => ?_, fun heq => ?_⟩
    · obtain ⟨j1, j2⟩ := i1 hlt
      exact ⟨j1, ST_mono (ST_trans st1 (ST_trans st2 j2)) (by omega)⟩
    · exact ST_mono (ST_trans st1 (ST_trans st2 (i2 heq))) (by omega)
  · rw [stFt_n hf]
    have v0 := e5 hf
    obtain ⟨u3, f3, i1, i2⟩ := x_odoF hM (zI (m : Int)) (zI (a.1 : Int)) 1 m hm4 N hN u1 hP1
    have st1 : ST 1 (fun n => (lX12_fits n).2.2.1 u (zI (M : Int)) (zI (m : Int)) (zI (a.1 : Int)) 1) (fun n => (qX12_fits n).2.2.1 u (zI (M : Int)) (zI (m : Int)) (zI (a.1 : Int)) 1) (fun n => (lX12_fits n).2.2.2.2.2.2.1 u1 (zI (M : Int)) (zI (m : Int)) (zI (a.1 : Int)) 1 (zI ((m : Int) - 1))) (fun n => (qX12_fits n).2.2.2.2.2.2.1 u1 (zI (M : Int)) (zI (m : Int)) (zI (a.1 : Int)) 1 (zI ((m : Int) - 1))) := ST_1 fun n => by
      show tX12_fits_189 (lX12_fits n) u (zI (M : Int)) (zI (m : Int)) (zI (a.1 : Int)) 1 = _ ∧ (_ → uX12_fits_189 (qX12_fits n) u (zI (M : Int)) (zI (m : Int)) (zI (a.1 : Int)) 1)
      unfold tX12_fits_189 uX12_fits_189
      rw [if_neg n10, v0, if_pos rfl, e1, em]
      exact ⟨rfl, fun hh _ => ⟨e2, fun _ => hh, fun hc => absurd rfl hc⟩⟩
    refine ⟨u3, Fp_tr (Fp_mo e3 (fun c i hc => by omega)) (Fp_mo f3 (fun c i hc => by omega)), AcX_c ha1 f3 (fun c i hc => by omega), fun hlt => ?_, fun heq => ?_⟩
    · obtain ⟨j1, j2⟩ := i1 hlt
      exact ⟨j1, ST_mono (ST_trans st1 j2) (by omega)⟩
    · exact ST_mono (ST_trans st1 (i2 heq)) (by omega)
theorem lsM_0 {M : Nat} (hM : 1 ≤ M) (c : Nat) (s : SM) : ∀ k, (∀ i, i < k → gI s c i = zI 1) → MPx c s (lsM M k 0) := by
  intro k
  induction k with
  | zero => intro _; trivial
  | succ k ih =>
    intro h
    have e : lsM M (k + 1) 0 = (0 % M + 1) :: lsM M k (0 / M) := rfl
    rw [e, Nat.zero_mod, Nat.zero_div]
    refine ⟨?_, ih (fun i hi => h i (by omega))⟩
    show gI s c (lsM M k 0).length = _
    rw [lsM_len]; exact h k (by omega)
theorem pow_4 {M m : Nat} (hM : 1 ≤ M ∧ M ≤ 20) (hm : m ≤ 4) : 1 ≤ M ^ m ∧ M ^ m ≤ 160000 := by
  refine ⟨Nat.pow_pos (by omega), ?_⟩
  have h1 : M ^ m ≤ 20 ^ m := Nat.pow_le_pow_left hM.2 m
  have h2 : 20 ^ m ≤ 20 ^ 4 := Nat.pow_le_pow_right (by omega) hm
  have h3 : (20 : Nat) ^ 4 = 160000 := by decide
  omega
theorem x_floop (hD : FxD g el m M NB told ot) (hC : FxC g told ot s) (h1 : ∀ i, i < m → gI s 272 i = zI 1) (h53 : gI s 248 53 = 0) : ∃ s', ST 6000000 (fun n => (lX12_fits n).2.2.1 s (zI (M : Int)) (zI (m : Int)) 0 1) (fun n => (qX12_fits n).2.2.1 s (zI (M : Int)) (zI (m : Int)) 0 1) (fun _ => (zI ((EnU M (fitP g el NB) m [] ac0).1 : Int), s')) (fun _ => True) ∧ Fp FixA s s' ∧ AcX m s' (EnU M (fitP g el NB) m [] ac0) := by
  have hD' := hD
  obtain ⟨hm4, hM, -⟩ := hD'
  obtain ⟨hp1, hp2⟩ := pow_4 hM hm4
  rw [EnU_fold (by omega)]
  have eap : ∀ (n : Nat) (a : Acc), fold (fun N a => stFt (fitP g el NB) (lsM M m N ++ []) a) n a = fold (fun N a => stFt (fitP g el NB) (lsM M m N) a) n a := fun n a => fold_cg n a (fun i _ x => by rw [List.append_nil])
  rw [eap]
  obtain ⟨acc, hacc⟩ : ∃ acc : Nat → Acc, acc = fun n => fold (fun N a => stFt (fitP g el NB) (lsM M m N) a) n ac0 := ⟨_, rfl⟩
  have a0 : acc 0 = ac0 := by rw [hacc]; rfl
  have aS : ∀ n, acc (n + 1) = stFt (fitP g el NB) (lsM M m n) (acc n) := fun n => by rw [hacc]; rfl
  have aB : ∀ n, (acc n).1 ≤ n := fun n => by
    rw [hacc]
    have := fold_a1 (p := fitP g el NB) (fun N => lsM M m N) n ac0
    have e0 : ac0.1 = 0 := rfl
    rw [e0] at this
    exact Nat.le_trans this (by omega)
  have eend : fold (fun N a => stFt (fitP g el NB) (lsM M m N) a) (M ^ m) ac0 = acc (M ^ m) := by rw [hacc]
  rw [eend]
  obtain ⟨u, ⟨i1, i2, i3⟩, st⟩ := ST_up (B := 30) (M ^ m - 1) (fun (N : Nat) (u : SM) => Fp FixA s u ∧ MPx 272 u (lsM M m N) ∧ AcX m u (acc N)) (fun N u n => (lX12_fits n).2.2.1 u (zI (M : Int)) (zI (m : Int)) (zI ((acc N).1 : Int)) 1) (fun N u n => (qX12_fits n).2.2.1 u (zI (M : Int)) (zI (m : Int)) (zI ((acc N).1 : Int)) 1) (fun N u hN ⟨a1, a2, a3⟩ => by
    have := aB N
    obtain ⟨u', f, q1, q2, -⟩ := x_fbody hD (FxC_c hC a1 (fun c i hc => by omega)) (N := N) (by omega) a2 a3 (by omega)
    obtain ⟨j1, j2⟩ := q2 (by omega)
    rw [← aS N] at q1 j2
    exact ⟨u', ⟨Fp_tr a1 f, j1, q1⟩, j2⟩) (M ^ m - 1) 0 s (by omega) ⟨Fp_rf _ s, lsM_0 hM.1 272 s m h1, by rw [a0]; exact ⟨fun _ => h53, fun hc => absurd rfl hc⟩⟩
  have := aB (M ^ m - 1)
  obtain ⟨u', f, q1, -, q3⟩ := x_fbody hD (FxC_c hC i1 (fun c i hc => by omega)) (N := M ^ m - 1) (by omega) i2 i3 (by omega)
  have q3 := q3 (by omega)
  rw [← aS (M ^ m - 1), show M ^ m - 1 + 1 = M ^ m by omega] at q1 q3
  have z00 : zI ((acc 0).1 : Int) = 0 := by rw [a0]; rfl
  rw [z00] at st
  refine ⟨u', ST_mono (ST_trans st (ST_trans q3 (ST_1 (F' := fun _ => (zI ((acc (M ^ m)).1 : Int), u')) (C' := fun _ => True) fun n => ?_))) (by omega), Fp_tr i1 f, q1⟩
  show tX12_fits_189 (lX12_fits n) u' (zI (M : Int)) (zI (m : Int)) (zI ((acc (M ^ m)).1 : Int)) 0 = _ ∧ (_ → uX12_fits_189 (qX12_fits n) u' (zI (M : Int)) (zI (m : Int)) (zI ((acc (M ^ m)).1 : Int)) 0)
  unfold tX12_fits_189 uX12_fits_189
  rw [if_pos rfl]
  exact ⟨rfl, fun _ hc => absurd rfl hc⟩
/-- what was told, and what else there is -/
def tdB (g bt : Nat → Int) (b : Int) : Int := if 0 ≤ b ∧ b < g 0 then 256 * bt (2 * b.toNat) + bt (2 * b.toNat + 1) - 10000 else 0
theorem ov_b (hw : WF g) (hop : ∀ i, i < m → opZ g (el i)) (b : Int) : ∀ n, n ≤ m → -198 * (n : Int) ≤ ovT g el b n ∧ ovT g el b n ≤ 198 * (n : Int) := by
  intro n
  induction n with
  | zero => intro _; exact ⟨by show -198 * (0 : Int) ≤ 0; omega, by show (0 : Int) ≤ 198 * 0; omega⟩
  | succ n ih =>
    intro hn
    have h1 := ih (by omega)
    have hd := hw.wd (hop n (by omega)).1
    have h2 : 0 ≤ valZ g (el n) ∧ valZ g (el n) ≤ 198 := vb_b (by omega)
    have h4 : ovT g el b (n + 1) = ovT g el b n + svT g el b n (valZ g (el n)) := rfl
    have h5 : -198 ≤ svT g el b n (valZ g (el n)) ∧ svT g el b n (valZ g (el n)) ≤ 198 := by
      unfold svT
      split <;> split <;> omega
    rw [h4]
    omega
/-- the two loops ahead -/
theorem x_fprep {bt : Nat → Int} (hm : m ≤ 4) (hw : WF g) (hlo : LoX g el m) (hop : ∀ i, i < m → opZ g (el i)) (h : RR s g) (hbt : ∀ i : Nat, (i : Int) < 2 * g 0 → (0 ≤ bt i ∧ bt i < 256) ∧ (gI s 249 i &&& 255) = zI (bt i)) (x1 : Int32) : ∃ s', ST 60 (fun n => (lX12_fits n).1 s x1 (zI (m : Int)) 0) (fun n => (qX12_fits n).1 s x1 (zI (m : Int)) 0) (fun n => (lX12_fits n).2.2.1 s' x1 (zI (m : Int)) 0 1) (fun n => (qX12_fits n).2.2.1 s' x1 (zI (m : Int)) 0 1) ∧ Fp (fun c i => (272 ≤ c ∧ c ≤ 274) ∨ (c = 248 ∧ i = 53)) s s' ∧ FxC g (tdB g bt) (fun b => netZ g b - ovT g el b m) s' ∧ (∀ i, i < m → gI s' 272 i = zI 1) ∧ gI s' 248 53 = 0 := by
  have h0 := hw.w0
  have enb : (((g 0).toNat : Nat) : Int) = g 0 := by omega
  obtain ⟨nb, hnb⟩ : ∃ nb, nb = (g 0).toNat := ⟨_, rfl⟩
  rw [← hnb] at enb
  have c00 : ((0 : Int32)).toNatClampNeg = 0 := rfl
  obtain ⟨s1, ⟨i1, i2⟩, st1⟩ := ST_up (B := 1) nb (fun (d : Nat) (u : SM) => (∀ b : Nat, b < d → gI u 273 b = zI (tdB g bt b) ∧ gI u 274 b = zI (netZ g b)) ∧ Fp (fun c _ => c = 273 ∨ c = 274) s u) (fun d u k => (lX12_fits k).1 u x1 (zI (m : Int)) (zI (d : Int))) (fun d u k => (qX12_fits k).1 u x1 (zI (m : Int)) (zI (d : Int))) (fun d u hd ⟨a1, a2⟩ => by
    have ru : RR u g := RR_fp h a2 (fun i => by omega)
    have eg : gI u 250 0 = zI (nb : Int) := by rw [enb]; exact ru 0
    have nle : ¬ zI (nb : Int) ≤ zI (d : Int) := by rw [z_le (by omega) (by omega)]; omega
    have cd : (zI (d : Int)).toNatClampNeg = d := by rw [z_cl (by omega)]; exact Int.toNat_natCast _
    have vd : vp_in (zI (d : Int)) 9 := by rw [z_in (by omega)]; omega
    have e1 : zI (d : Int) + 1 = zI ((d + 1 : Nat) : Int) := by rw [zl1, z_add]; congr 1
    have e2 : 2 * zI (d : Int) = zI ((2 * d : Nat) : Int) := by rw [zl2, z_mul]; congr 1
    have e3 : zI ((2 * d : Nat) : Int) + 1 = zI ((2 * d + 1 : Nat) : Int) := by rw [zl1, z_add]; congr 1
    have hoc : ∀ i, i < 2 * nb → (gI u 249 i &&& 255) = zI (bt i) := fun i hi => by rw [a2.1 249 i (by omega)]; exact (hbt i (by omega)).2
    obtain ⟨o1, o2⟩ := x_octet (n := 2 * nb) (by omega) hoc (j := 2 * d) (by omega)
    obtain ⟨o3, o4⟩ := x_octet (n := 2 * nb) (by omega) hoc (j := 2 * d + 1) (by omega)
    have b1 := (hbt (2 * d) (by omega)).1
    have b2 := (hbt (2 * d + 1) (by omega)).1
    have etd : 256 * zI (bt (2 * d)) + zI (bt (2 * d + 1)) - 10000 = zI (tdB g bt d) := by
      rw [show (256 : Int32) = zI 256 from rfl, show (10000 : Int32) = zI 10000 from rfl, z_mul, z_add, z_sub]
      unfold tdB
      rw [if_pos (by omega), Int.toNat_natCast]
    obtain ⟨u2, hu2⟩ : ∃ u2, u2 = pI u 273 d (zI (tdB g bt d)) := ⟨_, rfl⟩
    have f2 : Fp (fun c i => c = 273 ∧ i = d) u u2 := by rw [hu2]; exact Fp_p u ⟨rfl, rfl⟩
    have ru2 : RR u2 g := RR_fp ru f2 (fun i => by omega)
    obtain ⟨n1, n2⟩ := x_netOf ru2 hw (b := (d : Int)) (by omega)
    have n1' : vX12_netOf u2 (zI (d : Int)) = zI (netZ g d) := by rw [n1, net_fold]; rfl
    obtain ⟨u3, hu3⟩ : ∃ u3, u3 = pI u2 274 d (zI (netZ g d)) := ⟨_, rfl⟩
    have f3 : Fp (fun c i => c = 274 ∧ i = d) u2 u3 := by rw [hu3]; exact Fp_p u2 ⟨rfl, rfl⟩
    refine ⟨u3, ⟨fun b hb => ?_, Fp_tr a2 (Fp_tr (Fp_mo f2 (fun c i hc => by omega)) (Fp_mo f3 (fun c i hc => by omega)))⟩, ST_1 fun k => ?_⟩
    · by_cases hq : b = d
      · subst hq
        rw [f3.1 273 b (by omega), hu2, gI_pI, if_pos ⟨rfl, rfl⟩, hu3, gI_pI, if_pos ⟨rfl, rfl⟩]
        exact ⟨rfl, rfl⟩
      · rw [f3.1 273 b (by omega), f2.1 273 b (by omega), f3.1 274 b (by omega), f2.1 274 b (by omega)]
        exact a1 b (by omega)
    · show tX12_fits_52 (lX12_fits k) u x1 (zI (m : Int)) (zI (d : Int)) = _ ∧ (_ → uX12_fits_52 (qX12_fits k) u x1 (zI (m : Int)) (zI (d : Int)))
      unfold tX12_fits_52 uX12_fits_52
      rw [c00, eg, if_neg nle, e2, e3, o1, o3, etd, cd, ← hu2]
      dsimp only
      rw [n1', ← hu3, e1]
      refine ⟨rfl, fun hh => ⟨fun hc => absurd hc nle, fun _ => ⟨o2, o4, vd, fun s2 h2 => ?_⟩⟩⟩
      rw [h2, n1', ← hu3]
      exact ⟨n2, vd, hh⟩) nb 0 s (by omega) ⟨fun b hb => absurd hb (by omega), Fp_rf _ s⟩
  have r1 : RR s1 g := RR_fp h i2 (fun i => by omega)
  have p1 : ST 1 (fun k => (lX12_fits k).1 s1 x1 (zI (m : Int)) (zI (nb : Int))) (fun k => (qX12_fits k).1 s1 x1 (zI (m : Int)) (zI (nb : Int))) (fun k => (lX12_fits k).2.1 s1 x1 (zI (m : Int)) (zI ((0 : Nat) : Int))) (fun k => (qX12_fits k).2.1 s1 x1 (zI (m : Int)) (zI ((0 : Nat) : Int))) := ST_1 fun k => by
    have eg : gI s1 250 0 = zI (nb : Int) := by rw [enb]; exact r1 0
    show tX12_fits_52 (lX12_fits k) s1 x1 (zI (m : Int)) (zI (nb : Int)) = _ ∧ (_ → uX12_fits_52 (qX12_fits k) s1 x1 (zI (m : Int)) (zI (nb : Int)))
    unfold tX12_fits_52 uX12_fits_52
    rw [c00, eg, if_pos (Int32.le_refl _)]
    exact ⟨rfl, fun hh => ⟨fun _ => hh, fun hc => absurd (Int32.le_refl _) hc⟩⟩
  obtain ⟨s2, ⟨j1, j2, j3⟩, st2⟩ := ST_up (B := 1) m (fun (d : Nat) (u : SM) => (∀ b, bdyZ g b → gI u 274 b.toNat = zI (netZ g b - ovT g el b d)) ∧ (∀ i, i < d → gI u 272 i = zI 1) ∧ Fp (fun c _ => c = 272 ∨ c = 274) s1 u) (fun d u k => (lX12_fits k).2.1 u x1 (zI (m : Int)) (zI (d : Int))) (fun d u k => (qX12_fits k).2.1 u x1 (zI (m : Int)) (zI (d : Int))) (fun d u hd ⟨a1, a2, a3⟩ => by
    have nle : ¬ zI (m : Int) ≤ zI (d : Int) := by rw [z_le (by omega) (by omega)]; omega
    have cd : (zI (d : Int)).toNatClampNeg = d := by rw [z_cl (by omega)]; exact Int.toNat_natCast _
    have vd : vp_in (zI (d : Int)) 4 := by rw [z_in (by omega)]; omega
    have e1 : zI (d : Int) + 1 = zI ((d + 1 : Nat) : Int) := by rw [zl1, z_add]; congr 1
    have ru : RR u g := RR_fp r1 a3 (fun i => by omega)
    obtain ⟨q1, q2⟩ := hlo u ru d hd
    have ho := hop d hd
    have hwd := hw.wd ho.1
    have hft := (hwd.2.2.2.2.2.2.2.2.2 ho.2).2.1
    obtain ⟨f, hf⟩ : ∃ f, f = oZ g (el d) 0 := ⟨_, rfl⟩
    obtain ⟨t, ht⟩ : ∃ t, t = oZ g (el d) 1 := ⟨_, rfl⟩
    have hel := ho.1.2
    have of0 : vX12_of u (zI (el d : Int)) 0 = zI f ∧ rX12_of u (zI (el d : Int)) 0 := by rw [hf]; exact ⟨x_of ru (d := (el d : Int)) (w := 0) (by omega) (by omega), x_of_r u (d := (el d : Int)) (w := 0) (by omega) (by omega)⟩
    obtain ⟨ev, rv⟩ := x_valueOf ru hw ho.1
    obtain ⟨v, hv⟩ : ∃ v, v = valZ g (el d) := ⟨_, rfl⟩
    rw [← hv] at ev
    have sm : ∀ b, ovT g el b (d + 1) = ovT g el b d + ((if f = b then v else 0) - (if t = b then v else 0)) := fun b => by
      show ovT g el b d + svT g el b d (valZ g (el d)) = _
      unfold svT
      rw [← hf, ← ht, ← hv]
    have bf : bdyZ g f := by rw [hf]; exact hwd.1
    have bt : bdyZ g t := by rw [ht]; exact hwd.2.1
    rw [← hf, ← ht] at hft
    have bf' : 0 ≤ f ∧ f < 9 := ⟨bf.1, by have := bf.2; omega⟩
    have bt' : 0 ≤ t ∧ t < 9 := ⟨bt.1, by have := bt.2; omega⟩
    have cf : (zI f).toNatClampNeg = f.toNat := z_cl (by omega)
    have ct : (zI t).toNatClampNeg = t.toNat := z_cl (by omega)
    have vf : vp_in (zI f) 9 := by rw [z_in (by omega)]; omega
    have vt : vp_in (zI t) 9 := by rw [z_in (by omega)]; omega
    obtain ⟨u3, hu3⟩ : ∃ u3, u3 = pI u 274 f.toNat (zI (netZ g f - ovT g el f d - v)) := ⟨_, rfl⟩
    have f3 : Fp (fun c _ => c = 274) u u3 := by rw [hu3]; exact Fp_p u rfl
    have ru3 : RR u3 g := RR_fp ru f3 (fun i => by omega)
    have of1 : vX12_of u3 (zI (el d : Int)) 1 = zI t ∧ rX12_of u3 (zI (el d : Int)) 1 := by rw [ht]; exact ⟨x_of ru3 (d := (el d : Int)) (w := 1) (by omega) (by omega), x_of_r u3 (d := (el d : Int)) (w := 1) (by omega) (by omega)⟩
    obtain ⟨ev3, rv3⟩ := x_valueOf ru3 hw ho.1
    rw [← hv] at ev3
    obtain ⟨u6, hu6⟩ : ∃ u6, u6 = pI u3 274 t.toNat (zI (netZ g t - ovT g el t d + v)) := ⟨_, rfl⟩
    have f6 : Fp (fun c _ => c = 274) u3 u6 := by rw [hu6]; exact Fp_p u3 rfl
    obtain ⟨u7, hu7⟩ : ∃ u7, u7 = pI u6 272 d 1 := ⟨_, rfl⟩
    have f7 : Fp (fun c i => c = 272 ∧ i = d) u6 u7 := by rw [hu7]; exact Fp_p u6 ⟨rfl, rfl⟩
    have mk3 : pI u 274 f.toNat (gI u 274 f.toNat - zI v) = u3 := by rw [a1 f bf, z_sub]; exact hu3.symm
    have e3t : gI u3 274 t.toNat = zI (netZ g t - ovT g el t d) := by rw [hu3, gI_pI, if_neg (by omega)]; exact a1 t bt
    have mk6 : pI u3 274 t.toNat (gI u3 274 t.toNat + zI v) = u6 := by rw [e3t, z_add]; exact hu6.symm
    refine ⟨u7, ⟨fun b hb => ?_, fun i hi => ?_, Fp_tr a3 (Fp_tr (Fp_mo f3 (fun c i hc => Or.inr hc)) (Fp_tr (Fp_mo f6 (fun c i hc => Or.inr hc)) (Fp_mo f7 (fun c i hc => Or.inl hc.1))))⟩, ST_1 fun k => ?_⟩
    · have hb' : 0 ≤ b ∧ b < 9 := ⟨hb.1, by have := hb.2; omega⟩
      rw [sm b, f7.1 274 _ (by omega), hu6, gI_pI]
      by_cases k1 : t = b
      · rw [if_pos ⟨rfl, by rw [k1]⟩, if_neg (by omega), if_pos k1, k1]; congr 1; omega
      · rw [if_neg (by omega), hu3, gI_pI]
        by_cases k2 : f = b
        · rw [if_pos ⟨rfl, by rw [k2]⟩, if_pos k2, if_neg k1, k2]; congr 1; omega
        · rw [if_neg (by omega), if_neg k2, if_neg k1, a1 b hb]; congr 1; omega
    · by_cases hq : i = d
      · rw [hu7, gI_pI, if_pos ⟨rfl, hq⟩]; rfl
      · rw [f7.1 272 i (by omega), f6.1 272 i (by omega), f3.1 272 i (by omega)]; exact a2 i (by omega)
    · show tX12_fits_112 (lX12_fits k) u x1 (zI (m : Int)) (zI (d : Int)) = _ ∧ (_ → uX12_fits_112 (qX12_fits k) u x1 (zI (m : Int)) (zI (d : Int)))
      unfold tX12_fits_112 uX12_fits_112
      rw [if_neg nle, q1, of0.1, cf, ev, mk3]
      dsimp only
      rw [of1.1, ct, ev3, mk6, cd, ← hu7, e1]
      refine ⟨rfl, fun hh => ⟨fun hc => absurd hc nle, fun _ => ⟨q2, of0.2, vf, rv, vf, fun s3 h3 => ?_⟩⟩⟩
      rw [h3, of1.1, ct, ev3, mk6]
      exact ⟨of1.2, vt, rv3, vt, fun s6 h6 => by rw [h6, ← hu7]; exact ⟨vd, hh⟩⟩) m 0 s1 (by omega) ⟨fun b hb => by
      have hb' : 0 ≤ b ∧ b < g 0 := hb
      have := (i1 b.toNat (by omega)).2
      rw [this, show ((b.toNat : Nat) : Int) = b by omega]
      show _ = zI (netZ g b - 0)
      rw [Int.sub_zero], fun i hi => absurd hi (by omega), Fp_rf _ s1⟩
  obtain ⟨s3, hs3⟩ : ∃ s3, s3 = pI s2 248 53 0 := ⟨_, rfl⟩
  have f3 : Fp (fun c i => c = 248 ∧ i = 53) s2 s3 := by rw [hs3]; exact Fp_p s2 ⟨rfl, rfl⟩
  have p2 : ST 1 (fun k => (lX12_fits k).2.1 s2 x1 (zI (m : Int)) (zI (m : Int))) (fun k => (qX12_fits k).2.1 s2 x1 (zI (m : Int)) (zI (m : Int))) (fun k => (lX12_fits k).2.2.1 s3 x1 (zI (m : Int)) 0 1) (fun k => (qX12_fits k).2.2.1 s3 x1 (zI (m : Int)) 0 1) := ST_1 fun k => by
    show tX12_fits_112 (lX12_fits k) s2 x1 (zI (m : Int)) (zI (m : Int)) = _ ∧ (_ → uX12_fits_112 (qX12_fits k) s2 x1 (zI (m : Int)) (zI (m : Int)))
    unfold tX12_fits_112 uX12_fits_112
    rw [if_pos (Int32.le_refl _), ← hs3]
    exact ⟨rfl, fun hh => ⟨fun _ => hh, fun hc => absurd (Int32.le_refl _) hc⟩⟩
  refine ⟨s3, ST_mono (ST_trans st1 (ST_trans p1 (ST_trans st2 p2))) (by omega), Fp_tr (Fp_mo i2 (fun c i hc => by omega)) (Fp_tr (Fp_mo j3 (fun c i hc => by omega)) (Fp_mo f3 (fun c i hc => by omega))), ⟨RR_fp (RR_fp r1 j3 (fun i => by omega)) f3 (fun i => by omega), fun b hb => ⟨?_, ?_⟩⟩, fun i hi => ?_, ?_⟩
  · have hb' : 0 ≤ b ∧ b < g 0 := hb
    rw [f3.1 273 _ (by omega), j3.1 273 _ (by omega), (i1 b.toNat (by omega)).1, show ((b.toNat : Nat) : Int) = b by omega]
  · rw [f3.1 274 _ (by omega)]; exact j1 b hb
  · rw [f3.1 272 i (by omega)]; exact j2 i hi
  · rw [hs3, gI_pI, if_pos ⟨rfl, rfl⟩]
end
