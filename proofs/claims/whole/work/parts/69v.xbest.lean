-- needs: 69u.xbest
def HOP (s : SM) (b : Int) : Option (List Nat) → Prop
  | none => b = -1
  | some q => b = cnt q ∧ MPx 267 s q
section
variable {s : SM} {g : Nat → Int} {ld db kd : Nat → Int} {n : Nat}
theorem x_pbody (hx : PxC g ld db kd n s) (hw : WF g) (hd : PkD g ld db kd n) {bb m : Int} (hb : (bb = -1 ∧ m = 0) ∨ (bdyZ g bb ∧ 0 ≤ m ∧ m ≤ 99)) {c : List Nat} (hP : MPx 266 s c) (hcl : c.length = n) (h4 : ∀ w ∈ c, w ≤ 4) {best : Int} {o : Option (List Nat)} (ho : HOP s best o) (hg : ∀ q, o = some q → FeC g ld db kd (R0f g bb m) q ∧ q.length = n) (hp : ∀ q, o = some q → rk q < rk c) : ∃ s1 o1 b1 x, Fp (fun c _ => c = 267 ∨ c = 269) s s1 ∧ HOP s1 b1 o1 ∧ (∀ q, o1 = some q → FeC g ld db kd (R0f g bb m) q ∧ q.length = n) ∧ (∀ q, o1 = some q → rk q < rk c + 1) ∧ KPo o ≤ KPo o1 ∧ (FeC g ld db kd (R0f g bb m) c → KP c ≤ KPo o1) ∧ ST 20 (fun k => (lX12_bestPack k).2.1 s (zI bb) (zI m) (zI best) 1) (fun k => (qX12_bestPack k).2.1 s (zI bb) (zI m) (zI best) 1) (fun k => (lX12_bestPack k).2.2.2.2.1 s1 (zI bb) (zI m) (zI b1) 1 x (zI ((n : Int) - 1))) (fun k => (qX12_bestPack k).2.2.2.2.1 s1 (zI bb) (zI m) (zI b1) 1 x (zI ((n : Int) - 1))) := by
  have hn6 := hd.1
  have x45 := hx.2.1
  have bb1 : -1 ≤ best ∧ best ≤ 6 := by
    cases o with
    | none => have : best = -1 := ho; omega
    | some q => have h1 : best = cnt q := ho.1; have := cnt_le q; have := (hg q rfl).2; omega
  have hcn := cnt_le c
  have en : zI (n : Int) - 1 = zI ((n : Int) - 1) := by rw [zl1, z_sub]
  have st0 : ST 1 (fun k => (lX12_bestPack k).2.1 s (zI bb) (zI m) (zI best) 1) (fun k => (qX12_bestPack k).2.1 s (zI bb) (zI m) (zI best) 1) (fun k => (lX12_bestPack k).2.2.1 s (zI bb) (zI m) (zI best) 1 (zI ((0 : Nat) : Int)) (zI ((0 : Nat) : Int))) (fun k => (qX12_bestPack k).2.2.1 s (zI bb) (zI m) (zI best) 1 (zI ((0 : Nat) : Int)) (zI ((0 : Nat) : Int))) := ST_1 fun k => by
    rw [lpX12_bestPack_31, qpX12_bestPack_31]
    unfold tX12_bestPack_31 uX12_bestPack_31
    rw [if_neg (by decide)]
    exact ⟨rfl, fun hh _ => hh⟩
  have it := ST_it0 (B := 1) c.length (fun i k => (lX12_bestPack k).2.2.1 s (zI bb) (zI m) (zI best) 1 (zI (cnt (ini c i) : Int)) (zI (i : Int))) (fun i k => (qX12_bestPack k).2.2.1 s (zI bb) (zI m) (zI best) 1 (zI (cnt (ini c i) : Int)) (zI (i : Int))) (by
    intro i hi
    obtain ⟨w, w1, w2, w3, -⟩ := MPx_k hP i hi
    have hw4 := h4 w w1
    have nle : ¬ zI (n : Int) ≤ zI (i : Int) := by rw [z_le (by omega) (by omega)]; omega
    have ci : (zI (i : Int)).toNatClampNeg = i := by rw [z_cl (by omega)]; exact Int.toNat_natCast _
    have vi : vp_in (zI (i : Int)) 6 := by rw [z_in (by omega)]; omega
    have ei : zI (i : Int) + 1 = zI ((i + 1 : Nat) : Int) := by rw [zl1, z_add]; rfl
    have ev : zI (cnt (ini c i) : Int) + (if 4 ≤ zI (w : Int) then 0 else 1) = zI (cnt (ini c (i + 1)) : Int) := by
      rw [w3]
      show _ = zI ((cnt (ini c i) + (if w < 4 then 1 else 0) : Nat) : Int)
      by_cases h : w < 4
      · rw [if_pos h, if_neg (by rw [show (4 : Int32) = zI 4 from rfl, z_le (by omega) (by omega)]; omega), zl1, z_add]; rfl
      · rw [if_neg h, if_pos (by rw [show (4 : Int32) = zI 4 from rfl, z_le (by omega) (by omega)]; omega), zl0, z_add]; rfl
    refine ST_1 fun k => ?_
    rw [lpX12_bestPack_42, qpX12_bestPack_42]
    unfold tX12_bestPack_42 uX12_bestPack_42
    rw [x45, if_neg nle, ci, w2, ev, ei]
    exact ⟨rfl, fun hh => ⟨fun hc => absurd hc nle, fun _ => ⟨vi, hh⟩⟩⟩)
  rw [ini_0, ini_n] at it
  have e00 : cnt [] = 0 := rfl
  rw [e00] at it
  have nle : zI (n : Int) ≤ zI (c.length : Int) := by rw [hcl]; exact Int32.le_refl _
  have keep : (FeC g ld db kd (R0f g bb m) c → KP c ≤ KPo o) → ∀ s1 : SM, Fp (fun c _ => c = 267 ∨ c = 269) s s1 → (∀ k, gI s1 267 k = gI s 267 k) → HOP s1 best o ∧ (∀ q, o = some q → rk q < rk c + 1) := fun _ s1 _ h267 => by
    refine ⟨?_, fun q hq => by have := hp q hq; omega⟩
    cases o with
    | none => exact ho
    | some q => exact ⟨ho.1, MPx_c ho.2 (fun k _ => h267 k)⟩
  by_cases hle : (cnt c : Int) ≤ best
  · have l1 : zI (cnt c : Int) ≤ zI best := by rw [z_le (by omega) (by omega)]; exact hle
    have hk : FeC g ld db kd (R0f g bb m) c → KP c ≤ KPo o := fun hf => by
      cases o with
      | none => have : best = -1 := ho; omega
      | some q =>
        have h1 : best = cnt q := ho.1
        obtain ⟨q1, q2⟩ := hg q rfl
        have h2 := hp q rfl
        exact (KP_cmp (by omega) (by omega) h4 (okC_4 q1.1)).mpr (by omega)
    obtain ⟨k1, k2⟩ := keep hk s (Fp_rf _ s) (fun _ => rfl)
    refine ⟨s, o, best, zI (cnt c : Int), Fp_rf _ s, k1, hg, k2, Int.le_refl _, hk, ST_mono (ST_trans st0 (ST_trans (B2 := 1) it (ST_1 fun k => ?_))) (by omega)⟩
    rw [lpX12_bestPack_42, qpX12_bestPack_42]
    unfold tX12_bestPack_42 uX12_bestPack_42
    rw [x45, if_pos nle, if_pos l1, en]
    exact ⟨rfl, fun hh => ⟨fun _ => ⟨fun _ => hh, fun hc => absurd l1 hc⟩, fun hc => absurd nle hc⟩⟩
  · have l1 : ¬ zI (cnt c : Int) ≤ zI best := by rw [z_le (by omega) (by omega)]; exact hle
    obtain ⟨s1, e1, e2, e3, e4, e5⟩ := x_arePacked hx hw hd hP hcl h4 hb
    have x45' : gI s1 248 45 = zI (n : Int) := by rw [e3.1 248 45 (by omega)]; exact x45
    by_cases hf : FeC g ld db kd (R0f g bb m) c
    · have v1 := e4 hf
      have n0 : ¬ ((1 : Int32) = 0) := by decide
      have up := ST_up (B := 1) n (fun i (a : SM) => Fp (fun c _ => c = 267) s1 a ∧ ∀ j, j < i → gI a 267 j = gI s1 266 j) (fun i a k => (lX12_bestPack k).2.2.2.1 a (zI bb) (zI m) (zI (cnt c : Int)) 1 (zI (cnt c : Int)) (zI (i : Int))) (fun i a k => (qX12_bestPack k).2.2.2.1 a (zI bb) (zI m) (zI (cnt c : Int)) 1 (zI (cnt c : Int)) (zI (i : Int))) (by
        rintro i a hi ⟨f1, f2⟩
        have nle2 : ¬ zI (n : Int) ≤ zI (i : Int) := by rw [z_le (by omega) (by omega)]; omega
        have ci : (zI (i : Int)).toNatClampNeg = i := by rw [z_cl (by omega)]; exact Int.toNat_natCast _
        have vi : vp_in (zI (i : Int)) 6 := by rw [z_in (by omega)]; omega
        have ei : zI (i : Int) + 1 = zI ((i + 1 : Nat) : Int) := by rw [zl1, z_add]; rfl
        have g45 : gI a 248 45 = zI (n : Int) := by rw [f1.1 248 45 (by omega)]; exact x45'
        have g266 : gI a 266 i = gI s1 266 i := f1.1 266 i (by omega)
        refine ⟨pI a 267 i (gI s1 266 i), ⟨Fp_tr f1 (Fp_p a rfl), fun j hj => ?_⟩, ST_1 fun k => ?_⟩
        · rw [gI_s]
          by_cases hq : j = i
          · rw [if_pos hq, hq]
          · rw [if_neg hq]; exact f2 j (by omega)
        · rw [lpX12_bestPack_99, qpX12_bestPack_99]
          unfold tX12_bestPack_99 uX12_bestPack_99
          rw [g45, if_neg nle2, ci, g266, ei]
          exact ⟨rfl, fun hh => ⟨fun hc => absurd hc nle2, fun _ => ⟨vi, vi, hh⟩⟩⟩)
      obtain ⟨s2, ⟨f1, f2⟩, st⟩ := up n 0 s1 (by omega) ⟨Fp_rf _ s1, fun j hj => by omega⟩
      have g45 : gI s2 248 45 = zI (n : Int) := by rw [f1.1 248 45 (by omega)]; exact x45'
      have hk0 : KPo o ≤ KP c := by
        cases o with
        | none => have := KP_pos (c := c) (by omega) h4; show (-1 : Int) ≤ _; omega
        | some q =>
          have h1 : best = cnt q := ho.1
          obtain ⟨q1, q2⟩ := hg q rfl
          exact (KP_cmp (by omega) (by omega) (okC_4 q1.1) h4).mpr (by omega)
      refine ⟨s2, some c, cnt c, zI (cnt c : Int), Fp_tr (Fp_mo e3 (fun c i hc => Or.inr hc)) (Fp_mo f1 (fun c i hc => Or.inl hc)), ⟨rfl, MPx_c hP (fun k hk => by rw [f2 k (by omega), e3.1 266 k (by omega)])⟩, fun q hq => by cases hq; exact ⟨hf, hcl⟩, fun q hq => by cases hq; omega, hk0, fun _ => Int.le_refl _, ST_mono (ST_trans st0 (ST_trans it (ST_trans (B1 := 1) (F' := fun k => (lX12_bestPack k).2.2.2.1 s1 (zI bb) (zI m) (zI (cnt c : Int)) 1 (zI (cnt c : Int)) (zI ((0 : Nat) : Int))) (C' := fun k => (qX12_bestPack k).2.2.2.1 s1 (zI bb) (zI m) (zI (cnt c : Int)) 1 (zI (cnt c : Int)) (zI ((0 : Nat) : Int))) (ST_1 fun k => ?_) (ST_trans (B2 := 1) st (ST_1 fun k => ?_))))) (by omega)⟩
      · rw [lpX12_bestPack_42, qpX12_bestPack_42]
        unfold tX12_bestPack_42 uX12_bestPack_42
        rw [x45, if_pos nle, if_neg l1, e1, v1, if_neg n0]
        exact ⟨rfl, fun hh => ⟨fun _ => ⟨fun hc => absurd hc l1, fun _ => ⟨e2, fun hc => absurd hc n0, fun _ => hh⟩⟩, fun hc => absurd nle hc⟩⟩
      · rw [lpX12_bestPack_99, qpX12_bestPack_99]
        unfold tX12_bestPack_99 uX12_bestPack_99
        rw [g45, if_pos (Int32.le_refl _), en]
        exact ⟨rfl, fun hh => ⟨fun _ => hh, fun hc => absurd (Int32.le_refl _) hc⟩⟩
    · have v0 := e5 hf
      obtain ⟨k1, k2⟩ := keep (fun hc => absurd hc hf) s1 (Fp_mo e3 (fun c i hc => Or.inr hc)) (fun k => e3.1 267 k (by omega))
      refine ⟨s1, o, best, zI (cnt c : Int), Fp_mo e3 (fun c i hc => Or.inr hc), k1, hg, k2, Int.le_refl _, fun hc => absurd hc hf, ST_mono (ST_trans st0 (ST_trans (B2 := 1) it (ST_1 fun k => ?_))) (by omega)⟩
      rw [lpX12_bestPack_42, qpX12_bestPack_42]
      unfold tX12_bestPack_42 uX12_bestPack_42
      rw [x45, if_pos nle, if_neg l1, e1, v0, if_pos rfl, x45', en]
      exact ⟨rfl, fun hh => ⟨fun _ => ⟨fun hc => absurd hc l1, fun _ => ⟨e2, fun _ => hh, fun hc => absurd rfl hc⟩⟩, fun hc => absurd nle hc⟩⟩
theorem lst_0 (c : Nat) (s : SM) : ∀ k, (∀ i, i < k → gI s c i = zI 0) → MPx c s (lst k 0) := by
  intro k
  induction k with
  | zero => intro _; trivial
  | succ k ih =>
    intro h
    refine ⟨?_, ih (fun i hi => h i (by omega))⟩
    show gI s c (lst k 0).length = _
    rw [lst_len]; exact h k (by omega)
theorem x_bestPack (hx : PxC g ld db kd n s) (hw : WF g) (hd : PkD g ld db kd n) {bb m : Int} (hb : (bb = -1 ∧ m = 0) ∨ (bdyZ g bb ∧ 0 ≤ m ∧ m ≤ 99)) : ∃ s' q, mX12_bestPack s (zI bb) (zI m) = s' ∧ vX12_bestPack s (zI bb) (zI m) = zI (cnt q : Int) ∧ rX12_bestPack s (zI bb) (zI m) ∧ Fp BpA s s' ∧ MPx 267 s' q ∧ BestP g ld db kd (R0f g bb m) n (some q) := by
  have hn6 := hd.1
  have hp5 := p5_pos n
  have hp6 := p5_le hn6
  -- all 0
  have up := ST_up (B := 1) n (fun i (a : SM) => Fp (fun c _ => c = 266) s a ∧ ∀ j, j < i → gI a 266 j = zI 0) (fun i a k => (lX12_bestPack k).1 a (zI bb) (zI m) (zI (-1)) (zI (i : Int))) (fun i a k => (qX12_bestPack k).1 a (zI bb) (zI m) (zI (-1)) (zI (i : Int))) (by
    rintro i a hi ⟨f1, f2⟩
    have nle2 : ¬ zI (n : Int) ≤ zI (i : Int) := by rw [z_le (by omega) (by omega)]; omega
    have ci : (zI (i : Int)).toNatClampNeg = i := by rw [z_cl (by omega)]; exact Int.toNat_natCast _
    have vi : vp_in (zI (i : Int)) 6 := by rw [z_in (by omega)]; omega
    have ei : zI (i : Int) + 1 = zI ((i + 1 : Nat) : Int) := by rw [zl1, z_add]; rfl
    have g45 : gI a 248 45 = zI (n : Int) := by rw [f1.1 248 45 (by omega)]; exact hx.2.1
    refine ⟨pI a 266 i (zI 0), ⟨Fp_tr f1 (Fp_p a rfl), fun j hj => ?_⟩, ST_1 fun k => ?_⟩
    · rw [gI_s]
      by_cases hq : j = i
      · rw [if_pos hq]
      · rw [if_neg hq]; exact f2 j (by omega)
    · rw [lpX12_bestPack_5, qpX12_bestPack_5]
      unfold tX12_bestPack_5 uX12_bestPack_5
      rw [g45, if_neg nle2, ci, ei]
      exact ⟨rfl, fun hh => ⟨fun hc => absurd hc nle2, fun _ => ⟨vi, hh⟩⟩⟩)
  obtain ⟨s1, ⟨f1, z1⟩, st1⟩ := up n 0 s (by omega) ⟨Fp_rf _ s, fun j hj => by omega⟩
  have hx1 := PxC_c hx f1 (fun c i hc => by omega)
  have st1' : ST 1 (fun k => (lX12_bestPack k).1 s1 (zI bb) (zI m) (zI (-1)) (zI (n : Int))) (fun k => (qX12_bestPack k).1 s1 (zI bb) (zI m) (zI (-1)) (zI (n : Int))) (fun k => (lX12_bestPack k).2.1 s1 (zI bb) (zI m) (zI (-1)) 1) (fun k => (qX12_bestPack k).2.1 s1 (zI bb) (zI m) (zI (-1)) 1) := ST_1 fun k => by
    rw [lpX12_bestPack_5, qpX12_bestPack_5]
    unfold tX12_bestPack_5 uX12_bestPack_5
    rw [hx1.2.1, if_pos (Int32.le_refl _)]
    exact ⟨rfl, fun hh => ⟨fun _ => hh, fun hc => absurd (Int32.le_refl _) hc⟩⟩
  -- one after the other
  have body : ∀ (N : Nat) (a : SM) (b : Int) (o : Option (List Nat)), N < p5 n → Fp BpA s a → MPx 266 a (lst n N) → HOP a b o → (∀ q, o = some q → FeC g ld db kd (R0f g bb m) q ∧ q.length = n) → (∀ q, o = some q → rk q < N) → (∀ c, FeC g ld db kd (R0f g bb m) c → c.length = n → rk c < N → KP c ≤ KPo o) → ∃ a2 b2 o2, Fp BpA s a2 ∧ HOP a2 b2 o2 ∧ (∀ q, o2 = some q → FeC g ld db kd (R0f g bb m) q ∧ q.length = n) ∧ (∀ q, o2 = some q → rk q < N + 1) ∧ (∀ c, FeC g ld db kd (R0f g bb m) c → c.length = n → rk c < N + 1 → KP c ≤ KPo o2) ∧ (N + 1 < p5 n → MPx 266 a2 (lst n (N + 1)) ∧ ST 30 (fun k => (lX12_bestPack k).2.1 a (zI bb) (zI m) (zI b) 1) (fun k => (qX12_bestPack k).2.1 a (zI bb) (zI m) (zI b) 1) (fun k => (lX12_bestPack k).2.1 a2 (zI bb) (zI m) (zI b2) 1) (fun k => (qX12_bestPack k).2.1 a2 (zI bb) (zI m) (zI b2) 1)) ∧ (N + 1 = p5 n → ST 30 (fun k => (lX12_bestPack k).2.1 a (zI bb) (zI m) (zI b) 1) (fun k => (qX12_bestPack k).2.1 a (zI bb) (zI m) (zI b) 1) (fun k => (lX12_bestPack k).2.1 a2 (zI bb) (zI m) (zI b2) 0) (fun k => (qX12_bestPack k).2.1 a2 (zI bb) (zI m) (zI b2) 0)) := by
    intro N a b o hN hf hP ho hg hp hcov
    have hrk := lst_rk n N hN
    obtain ⟨a1, o1, b1, x, c1, c2, c3, c4, c5, c6, c7⟩ := x_pbody (PxC_c hx hf (fun c i hc => by omega)) hw hd hb hP (lst_len n N) (lst_4 n N) ho hg (by rw [hrk]; exact hp)
    rw [hrk] at c4
    obtain ⟨a2, d1, d2, d3⟩ := x_odo (zI bb) (zI m) (zI b1) 1 x n hn6 N hN a1 (MPx_c hP (fun k _ => c1.1 266 k (by omega)))
    refine ⟨a2, b1, o1, Fp_tr hf (Fp_tr (Fp_mo c1 (fun c i hc => by omega)) (Fp_mo d1 (fun c i hc => by omega))), ?_, c3, c4, fun c hc hl hr => ?_, fun hlt => ?_, fun he => ?_⟩
    · cases o1 with
      | none => exact c2
      | some q => exact ⟨c2.1, MPx_c c2.2 (fun k _ => d1.1 267 k (by omega))⟩
    · by_cases hq : rk c < N
      · exact Int.le_trans (hcov c hc hl hq) c5
      · have e : c = lst n N := by
          have h1 := lst_of c (okC_4 hc.1)
          rw [hl, show rk c = N by omega] at h1
          exact h1.symm
        rw [e]
        rw [e] at hc
        exact c6 hc
    · obtain ⟨j1, j2⟩ := d2 hlt
      exact ⟨j1, ST_mono (ST_trans c7 j2) (by omega)⟩
    · exact ST_mono (ST_trans c7 (d3 he)) (by omega)
  have up2 := ST_up (B := 30) (p5 n - 1) (fun N (a : SM × Int) => ∃ o, Fp BpA s a.1 ∧ MPx 266 a.1 (lst n N) ∧ HOP a.1 a.2 o ∧ (∀ q, o = some q → FeC g ld db kd (R0f g bb m) q ∧ q.length = n) ∧ (∀ q, o = some q → rk q < N) ∧ ∀ c, FeC g ld db kd (R0f g bb m) c → c.length = n → rk c < N → KP c ≤ KPo o) (fun _ a k => (lX12_bestPack k).2.1 a.1 (zI bb) (zI m) (zI a.2) 1) (fun _ a k => (qX12_bestPack k).2.1 a.1 (zI bb) (zI m) (zI a.2) 1) (by
    rintro N ⟨a, b⟩ hN ⟨o, h1, h2, h3, h4, h5, h6⟩
    obtain ⟨a2, b2, o2, d1, d2, d3, d4, d5, d6, -⟩ := body N a b o (by omega) h1 h2 h3 h4 h5 h6
    obtain ⟨d7, d8⟩ := d6 (by omega)
    exact ⟨(a2, b2), ⟨o2, d1, d7, d2, d3, d4, d5⟩, d8⟩)
  obtain ⟨⟨a, b⟩, ⟨o, h1, h2, h3, h4, h5, h6⟩, st2⟩ := up2 (p5 n - 1) 0 (s1, -1) (by omega) ⟨none, Fp_mo f1 (fun c i hc => Or.inl hc), lst_0 266 s1 n z1, rfl, fun q hq => (by cases hq), fun q hq => (by cases hq), fun c hc hl hr => absurd hr (by omega)⟩
  dsimp only at h1 h2 h3 st2
  obtain ⟨a2, b2, o2, d1, d2, d3, d4, d5, -, d7⟩ := body (p5 n - 1) a b o (by omega) h1 h2 h3 h4 h5 h6
  have hB : BestP g ld db kd (R0f g bb m) n o2 := ⟨d3, fun c hc hl => d5 c hc hl (by have := rk_lt (okC_4 hc.1); rw [hl] at this; omega)⟩
  obtain ⟨q, rfl⟩ := BestP_some hn6 (fun b hbd => (R0f_b (g := g) (bb := bb) (m := m) hw (by omega) b hbd).1) hB
  obtain ⟨E, R⟩ := ST_fu (ST_trans st1 (ST_trans st1' (ST_trans st2 (ST_trans (B2 := 1) (d7 (by omega)) (ST_1 (F' := fun _ => (zI b2, a2)) (C' := fun _ => True) fun k => by
    rw [lpX12_bestPack_31, qpX12_bestPack_31]
    unfold tX12_bestPack_31 uX12_bestPack_31
    rw [if_pos rfl]
    exact ⟨rfl, fun _ hc => absurd rfl hc⟩))))) (by omega)
  have E' : fX12_bestPack s (zI bb) (zI m) = (zI b2, a2) := E
  exact ⟨a2, q, by unfold mX12_bestPack; rw [E'], by unfold vX12_bestPack; rw [E', d2.1], R, d1, d2.2, hB⟩
end
