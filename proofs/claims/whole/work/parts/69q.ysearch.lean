-- needs: 69p.yplace
section
variable {g : Nat → Int} {ld db kd : Nat → Int} {R0 : Int → Int} {n : Nat}
/-- not written -/
theorem y_p118 (hw : WF g) (hd : PkD g ld db kd n) {k : Nat} (hS : PlS g ld db kd R0 n k) {P : List Nat} (hl : P.length + (k + 1) = n) (hF : FeC g ld db kd R0 P) {s : SM} {o : Option (List Nat)} {F : Nat} (hx : PkC g ld db kd n s) (hP : MPx 229 s P) (hr : RmR g ld db kd R0 s P) (ho : PO s o) (hg : ∀ q, o = some q → FeC g ld db kd R0 q ∧ q.length = n) (hp : ∀ q, o = some q → rk q < rk (4 :: P) * p5 k) (hFu : 10 * k + 3 ≤ F) : ∃ s' o', (lX5_place F).2.2.1 s (zI (P.length : Int)) (zI (cnt P : Int)) = s' ∧ (qX5_place F).2.2.1 s (zI (P.length : Int)) (zI (cnt P : Int)) ∧ PlR g ld db kd R0 n P ((rk P + 1) * p5 (k + 1)) s o s' o' (fun c => ∃ S, c = S ++ 4 :: P) := by
  have hn6 := hd.1
  obtain ⟨F', rfl⟩ : ∃ F', F = F' + 1 := ⟨F - 1, by omega⟩
  have ci : (zI (P.length : Int)).toNatClampNeg = P.length := by rw [z_cl (by omega)]; exact Int.toNat_natCast _
  have vi : vp_in (zI (P.length : Int)) 6 := by rw [z_in (by omega)]; omega
  obtain ⟨s1, hs1⟩ : ∃ s1, s1 = pI s 229 P.length (zI ((4 : Nat) : Int)) := ⟨_, rfl⟩
  have f1 : Fp PlA s s1 := by rw [hs1]; exact Fp_p s (by omega)
  have hj : ∀ j, j < P.length → gI s1 229 j = gI s 229 j := fun j hj => by rw [hs1, gI_s, if_neg (by omega)]
  have el : (4 :: P).length = P.length + 1 := List.length_cons
  have ec : cnt (4 :: P) = cnt P := rfl
  have hrm : ∀ b, rmP g ld db kd R0 (4 :: P) b = rmP g ld db kd R0 P b := fun b => by
    show rmP g ld db kd R0 P b - mcW g ld db kd P.length 4 b = _
    unfold mcW
    rw [if_neg (by decide)]; omega
  have hF2 : FeC g ld db kd R0 (4 :: P) := ⟨⟨Nat.le_refl _, fun hc => absurd hc (by decide), hF.1⟩, fun b hb => by rw [hrm]; exact hF.2 b hb⟩
  obtain ⟨s3, o3, e1, e2, q1, q2, q3, q4, q5, q6, q7, q8⟩ := hS (4 :: P) s1 o F' (by rw [el]; omega) hF2 (PkC_c hx f1 (by rw [hs1]; rfl)) ⟨by rw [hs1, gI_s, if_pos rfl], MPx_c hP hj⟩ (fun b hb => by rw [hs1, gI_n _ _ _ _ (by omega), hrm]; exact hr b hb) (PO_c ho (by rw [hs1, gI_n _ _ _ _ (by omega)]) (fun k => by rw [hs1, gI_n _ _ _ _ (by omega)])) hg hp (by omega)
  have ea : zI (P.length : Int) + 1 = zI ((4 :: P).length : Int) := by rw [el, zl1, z_add]; rfl
  have hrk : (rk (4 :: P) + 1) * p5 k = (rk P + 1) * p5 (k + 1) := by
    show (rk P * 5 + 4 + 1) * p5 k = (rk P + 1) * (p5 k * 5)
    rw [← Nat.mul_assoc, Nat.mul_right_comm, show rk P * 5 + 4 + 1 = (rk P + 1) * 5 by omega]
  rw [ec] at e1 e2
  refine ⟨s3, o3, ?_, ?_, Fp_tr f1 q1, by rw [q2, hs1]; rfl, fun j hj2 => by rw [q3 j (by rw [el]; omega), hj j hj2], fun b hb => by rw [q4 b hb, hrm], q5, fun q hq => by rw [← hrk]; exact q6 q hq, q7, q8⟩
  · rw [lpl_118]; unfold tX5_place_118; dsimp only []; rw [ci, ea]; rw [hs1] at e1; exact e1
  · rw [qpl_118]; unfold uX5_place_118; rw [ci, ea]; rw [hs1] at e2; exact ⟨vi, e2⟩
theorem y_p100 (hw : WF g) (hd : PkD g ld db kd n) (hR : ∀ b, bdyZ g b → 0 ≤ R0 b ∧ R0 b ≤ 1000) {k : Nat} (hS : PlS g ld db kd R0 n k) {P : List Nat} (hl : P.length + (k + 1) = n) (hF : FeC g ld db kd R0 P) (hA : okA g ld db P.length) : ∀ (r w : Nat), w + r = 4 → ∀ (s : SM) (o : Option (List Nat)) (F : Nat), PkC g ld db kd n s → MPx 229 s P → RmR g ld db kd R0 s P → PO s o → (∀ q, o = some q → FeC g ld db kd R0 q ∧ q.length = n) → (∀ q, o = some q → rk q < rk (w :: P) * p5 k) → 10 * k + 5 + r ≤ F → ∃ s' o', (lX5_place F).2.1 s (zI (P.length : Int)) (zI (cnt P : Int)) (zI (w : Int)) = s' ∧ (qX5_place F).2.1 s (zI (P.length : Int)) (zI (cnt P : Int)) (zI (w : Int)) ∧ PlR g ld db kd R0 n P ((rk P + 1) * p5 (k + 1)) s o s' o' (fun c => ∃ S v, w ≤ v ∧ c = S ++ v :: P) := by
  have hn6 := hd.1
  intro r
  induction r with
  | zero =>
    intro w hw4 s o F hx hP hr ho hg hp hFu
    obtain ⟨F', rfl⟩ : ∃ F', F = F' + 1 := ⟨F - 1, by omega⟩
    obtain rfl : w = 4 := by omega
    obtain ⟨s', o', e1, e2, q1, q2, q3, q4, q5, q6, q7, q8⟩ := y_p118 hw hd hS hl hF (F := F') hx hP hr ho hg hp (by omega)
    have n4 : (4 : Int32) ≤ zI ((4 : Nat) : Int) := by decide
    refine ⟨s', o', ?_, ?_, q1, q2, q3, q4, q5, q6, q7, fun c hc hcl ⟨S, v, hv, e⟩ => ?_⟩
    · rw [lpl_100]; unfold tX5_place_100; rw [if_pos n4]; exact e1
    · rw [qpl_100]; unfold uX5_place_100; exact ⟨fun _ => e2, fun hc => absurd n4 hc⟩
    · have h4 := okC_4 hc.1 v (by rw [e]; simp)
      have : v = 4 := by omega
      subst this
      exact q8 c hc hcl ⟨S, e⟩
  | succ r ih =>
    intro w hw4 s o F hx hP hr ho hg hp hFu
    obtain ⟨F', rfl⟩ : ∃ F', F = F' + 1 := ⟨F - 1, by omega⟩
    obtain ⟨s1, o1, e1, e2, q1, q2, q3, q4, q5, q6, q7, q8⟩ := y_visit hw hd hR hS hl hF hA (w := w) (by omega) (F := F') hx hP hr ho hg hp (by omega)
    have h5 := p5_pos k
    have hrk : (rk (w :: P) + 1) * p5 k = rk ((w + 1) :: P) * p5 k := rfl
    obtain ⟨s', o', e3, e4, c1, c2, c3, c4, c5, c6, c7, c8⟩ := ih (w + 1) (by omega) s1 o1 F' (PkC_c hx q1 q2) (MPx_c hP q3) q4 q5 (fun q hq => by
      rcases q6 q hq with h | h
      · exact hg q h
      · exact ⟨h.1, h.2.1⟩) (fun q hq => by
      rw [← hrk]
      rcases q6 q hq with h | h
      · have := hp q h
        have h2 : rk (w :: P) * p5 k ≤ (rk (w :: P) + 1) * p5 k := Nat.mul_le_mul_right _ (by omega)
        omega
      · exact h.2.2) (by omega)
    have n4 : ¬ (4 : Int32) ≤ zI (w : Int) := by rw [show (4 : Int32) = zI 4 from rfl, z_le (by omega) (by omega)]; omega
    have ew : zI (w : Int) + 1 = zI ((w + 1 : Nat) : Int) := by rw [zl1, z_add]; rfl
    have hrk2 : (rk (w :: P) + 1) * p5 k ≤ (rk P + 1) * p5 (k + 1) := by
      have e : (rk P + 1) * p5 (k + 1) = ((rk P + 1) * 5) * p5 k := by
        show (rk P + 1) * (p5 k * 5) = _
        rw [Nat.mul_comm (p5 k) 5, ← Nat.mul_assoc]
      rw [e]
      refine Nat.mul_le_mul_right _ ?_
      show rk P * 5 + w + 1 ≤ _
      omega
    refine ⟨s', o', ?_, ?_, Fp_tr q1 c1, by rw [c2, q2], fun j hj => by rw [c3 j hj, q3 j hj], c4, c5, fun q hq => ?_, Int.le_trans q7 c7, fun c hc hcl ⟨S, v, hv, e⟩ => ?_⟩
    · rw [lpl_100]; unfold tX5_place_100; rw [if_neg n4]; dsimp only []; rw [e1, ew]; exact e3
    · rw [qpl_100]; unfold uX5_place_100; rw [e1, ew]
      exact ⟨fun hc => absurd hc n4, fun _ => ⟨e2, fun s2 hs2 => by rw [hs2]; exact e4⟩⟩
    · rcases c6 q hq with h | h
      · rcases q6 q h with h | h
        · exact Or.inl h
        · exact Or.inr ⟨h.1, h.2.1, by omega⟩
      · exact Or.inr h
    · by_cases hv2 : v = w
      · subst hv2
        exact Int.le_trans (q8 c hc hcl ⟨S, e⟩) c7
      · exact c8 c hc hcl ⟨S, v, by omega, e⟩
theorem y_place (hw : WF g) (hd : PkD g ld db kd n) (hR : ∀ b, bdyZ g b → 0 ≤ R0 b ∧ R0 b ≤ 1000) : ∀ k, PlS g ld db kd R0 n k := by
  have hn6 := hd.1
  intro k
  induction k with
  | zero =>
    intro P s o F hl hF hx hP hr ho hg hp hFu
    obtain ⟨F', rfl⟩ : ∃ F', F = F' + 1 + 1 := ⟨F - 2, by omega⟩
    have hcn := cnt_le P
    have e25 := hx.2.2.1
    have ge : ∀ m : Int, -1 ≤ m → m ≤ 6 → (zI m < (zI (cnt P : Int) + zI (n : Int)) - zI (P.length : Int) ↔ m < cnt P) := fun m h1 h2 => by
      rw [z_add, z_sub, z_lt (by omega) (by omega)]; omega
    have nle : zI (n : Int) ≤ zI (P.length : Int) := by rw [z_le (by omega) (by omega)]; omega
    have p0 : p5 0 = 1 := rfl
    have h4 := okC_4 hF.1
    have key : (∃ m : Int, gI s 225 9 = zI m ∧ -1 ≤ m ∧ m ≤ 6 ∧ (¬ m < cnt P → KP P ≤ KPo o) ∧ (m < cnt P → KPo o ≤ KP P)) := by
      cases o with
      | none => exact ⟨-1, ho, by omega, by omega, fun hc => absurd (by omega : (-1 : Int) < cnt P) hc, fun _ => by have := KP_pos (c := P) (by omega) h4; show (-1 : Int) ≤ _; omega⟩
      | some q =>
        obtain ⟨g1, g2⟩ := hg q rfl
        have hq4 := okC_4 g1.1
        have hq := cnt_le q
        have hpq := hp q rfl
        rw [p0, Nat.mul_one] at hpq
        refine ⟨cnt q, ho.1, by omega, by omega, fun hc => ?_, fun hc => ?_⟩
        · exact (KP_cmp (by omega) (by omega) h4 hq4).mpr (by omega)
        · exact (KP_cmp (by omega) (by omega) hq4 h4).mpr (by omega)
    obtain ⟨m, m1, m2, m3, m4, m5⟩ := key
    by_cases hlt : m < cnt P
    · have hc := (ge m m2 m3).mpr hlt
      have e : ∀ i, gI (cI (pI s 225 9 (zI (cnt P : Int))) 230 (va_cpy (gI (pI s 225 9 (zI (cnt P : Int))) 229) (gI (pI s 225 9 (zI (cnt P : Int))) 230) (0 : Int32).toNatClampNeg (0 : Int32).toNatClampNeg (6 : Int32).toNatClampNeg)) 230 i = if i < 6 then gI s 229 i else gI (pI s 225 9 (zI (cnt P : Int))) 230 i := fun i => by
        have := cp_s (pI s 225 9 (zI (cnt P : Int))) 230 229 6 i
        rw [gI_n _ _ _ _ (by omega)] at this
        exact this
      refine ⟨_, some P, rfl, ?_, ?_⟩
      · rw [qpl_e]; unfold uX5_place_e; rw [e25]
        exact fun _ => ⟨fun _ => by rw [qpl_30]; trivial, fun hcc => absurd nle hcc⟩
      · rw [lpl_e]; unfold tX5_place_e; rw [m1, e25, if_pos hc, if_pos nle, lpl_30]
        unfold tX5_place_30
        dsimp only []
        refine ⟨Fp_tr (Fp_p s (by omega)) (Fp_fr (cp_f (A := fun c => c = 230) _ (a := 230) (b := 229) (n := 6) rfl) (fun c hc i => by omega)), rfl, fun j hj => ?_, fun b hb => ?_, ⟨?_, MPx_c hP (fun k hk => by rw [e k, if_pos (by omega)])⟩, fun q hq => by cases hq; exact Or.inr ⟨hF, by omega, by rw [p0]; omega⟩, m5 hlt, fun c hc hcl ⟨S, e⟩ => ?_⟩
        · rw [gI_cI, if_neg (by decide), gI_n _ _ _ _ (by omega)]
        · rw [gI_cI, if_neg (by decide), gI_n _ _ _ _ (by omega)]; exact hr b hb
        · rw [gI_cI, if_neg (by decide), gI_s, if_pos rfl]
        · have : S = [] := by
            have := congrArg List.length e
            rw [List.length_append, hcl] at this
            exact List.length_eq_zero_iff.mp (by omega)
          subst this
          rw [e]; exact Int.le_refl _
    · have hc : ¬ (zI m < (zI (cnt P : Int) + zI (n : Int)) - zI (P.length : Int)) := fun h => hlt ((ge m m2 m3).mp h)
      refine ⟨s, o, ?_, ?_, Fp_rf _ s, rfl, fun _ _ => rfl, hr, ho, fun q hq => Or.inl hq, Int.le_refl _, fun c hc hcl ⟨S, e⟩ => ?_⟩
      · rw [lpl_e]; unfold tX5_place_e; rw [m1, e25, if_neg hc]
      · rw [qpl_e]; unfold uX5_place_e; rw [m1, e25]; exact fun h => absurd h hc
      · have : S = [] := by
          have := congrArg List.length e
          rw [List.length_append, hcl] at this
          exact List.length_eq_zero_iff.mp (by omega)
        subst this
        rw [e]; exact m4 hlt
  | succ k ih =>
    intro P s o F hl hF hx hP hr ho hg hp hFu
    obtain ⟨F', rfl⟩ : ∃ F', F = F' + 1 := ⟨F - 1, by omega⟩
    have h0 := hw.w0
    have hcn := cnt_le P
    have e25 := hx.2.2.1
    obtain ⟨t1, t2, t3⟩ := hx.2.2.2 P.length (by omega)
    obtain ⟨b1, b2, b3⟩ := hd.2.1 P.length (by omega)
    have gx : gDx s 1 = 31 := by unfold gDx; rw [hx.2.1]; rfl
    have e5 : rfx 31 8 = 5 := by decide
    have lx : (31, 5) ∈ LX := by decide
    have il : ∀ b, vX4_lives s 31 5 (zI b) = bI (livZ g b) := fun b => y_lives (P := 5) hx.1.2 b
    have ci : (zI (P.length : Int)).toNatClampNeg = P.length := by rw [z_cl (by omega)]; exact Int.toNat_natCast _
    have vi : vp_in (zI (P.length : Int)) 6 := by rw [z_in (by omega)]; omega
    have l6 : zI (P.length : Int) < 6 := by rw [show (6 : Int32) = zI 6 from rfl, z_lt (by omega) (by omega)]; omega
    have nle : ¬ zI (n : Int) ≤ zI (P.length : Int) := by rw [z_le (by omega) (by omega)]; omega
    have ge : ∀ m : Int, -1 ≤ m → m ≤ 6 → (zI m < (zI (cnt P : Int) + zI (n : Int)) - zI (P.length : Int) ↔ m < cnt P + (k + 1)) := fun m h1 h2 => by
      rw [z_add, z_sub, z_lt (by omega) (by omega)]; omega
    have key : (∃ m : Int, gI s 225 9 = zI m ∧ -1 ≤ m ∧ m ≤ 6 ∧ (¬ m < cnt P + (k + 1) → ∀ c, FeC g ld db kd R0 c → c.length = n → (∃ S, c = S ++ P) → KP c ≤ KPo o)) := by
      cases o with
      | none => exact ⟨-1, ho, by omega, by omega, fun hc => absurd (by omega : (-1 : Int) < cnt P + (k + 1)) hc⟩
      | some q =>
        obtain ⟨g1, g2⟩ := hg q rfl
        have hq4 := okC_4 g1.1
        have hq := cnt_le q
        have hpq := hp q rfl
        refine ⟨cnt q, ho.1, by omega, by omega, fun hc c hcF hcl ⟨S, e⟩ => ?_⟩
        have hc4 := okC_4 hcF.1
        have h1 := cnt_app S P
        rw [← e] at h1
        have hSl : S.length = k + 1 := by
          have := congrArg List.length e
          rw [List.length_append, hcl] at this
          omega
        have h2 := (rk_ext (S := S) (P := P) (fun x hx => hc4 x (by rw [e]; simp [hx]))).1
        rw [← e, hSl] at h2
        exact (KP_cmp (by omega) (by omega) hc4 hq4).mpr (by omega)
    obtain ⟨m, m1, m2, m3, m4⟩ := key
    have h5 := p5_pos k
    have hrk : ∀ w : Nat, rk P * p5 (k + 1) ≤ rk (w :: P) * p5 k := fun w => by
      have e : rk P * p5 (k + 1) = (rk P * 5) * p5 k := by
        show rk P * (p5 k * 5) = _
        rw [Nat.mul_comm (p5 k) 5, ← Nat.mul_assoc]
      rw [e]
      refine Nat.mul_le_mul_right _ ?_
      show rk P * 5 ≤ rk P * 5 + w
      omega
    -- the last of c behind P
    have lst : ∀ c, FeC g ld db kd R0 c → c.length = n → (∃ S, c = S ++ P) → ∃ S v, c = S ++ v :: P ∧ v ≤ 4 := fun c hc hcl ⟨S, e⟩ => by
      have hS : S ≠ [] := fun hS => by
        subst hS
        have := congrArg List.length e
        rw [List.nil_append, hcl] at this
        omega
      have e2 : c = S.dropLast ++ S.getLast hS :: P := by
        rw [e]
        have := List.dropLast_concat_getLast hS
        calc S ++ P = (S.dropLast ++ [S.getLast hS]) ++ P := by rw [this]
          _ = _ := by rw [List.append_assoc]; rfl
      exact ⟨_, _, e2, okC_4 hc.1 _ (by rw [e2]; simp)⟩
    by_cases hlt : m < cnt P + (k + 1)
    · have hc := (ge m m2 m3).mpr hlt
      have nA : zI (ld P.length) = zI (db P.length) ↔ ld P.length = db P.length := z_eq (by omega) (by omega)
      by_cases hA : okA g ld db P.length
      · obtain ⟨a1, a2, a3⟩ := hA
        have n1 : ¬ zI (ld P.length) = zI (db P.length) := fun h => a1 (nA.mp h)
        have n2 : ¬ bI (livZ g (ld P.length)) = 0 := by rw [bI_0]; exact not_not_intro a2
        have n3 : ¬ bI (livZ g (db P.length)) = 0 := by rw [bI_0]; exact not_not_intro a3
        obtain ⟨s', o', e1, e2, q1, q2, q3, q4, q5, q6, q7, q8⟩ := y_p100 hw hd hR ih hl hF ⟨a1, a2, a3⟩ 4 0 (by omega) s o F' hx hP hr ho hg (fun q hq => by have := hp q hq; have := hrk 0; omega) (by omega)
        refine ⟨s', o', ?_, ?_, q1, q2, q3, q4, q5, q6, q7, fun c hc hcl hS => ?_⟩
        · rw [lpl_e]; unfold tX5_place_e
          rw [m1, e25, if_pos hc, if_neg nle, if_pos l6, ci, t1, t2, if_neg n1, gx, e5, il, if_neg n2, il, if_neg n3]
          exact e1
        · rw [qpl_e]; unfold uX5_place_e
          rw [m1, e25, ci, t1, t2, gx, e5, il, il]
          exact fun _ => ⟨fun hcc => absurd hcc nle, fun _ => ⟨fun _ => ⟨vi, vi, fun hcc => absurd hcc n1, fun _ => ⟨hx.2.1, lx, vi, fun hcc => absurd hcc n2, fun _ => ⟨hx.2.1, lx, vi, fun hcc => absurd hcc n3, fun _ => e2⟩⟩⟩, fun hcc => absurd l6 hcc⟩⟩
        · obtain ⟨S, v, e, hv⟩ := lst c hc hcl hS
          exact q8 c hc hcl ⟨S, v, by omega, e⟩
      · obtain ⟨s', o', e1, e2, q1, q2, q3, q4, q5, q6, q7, q8⟩ := y_p118 hw hd ih hl hF (F := F') hx hP hr ho hg (fun q hq => by have := hp q hq; have := hrk 4; omega) (by omega)
        have fin : ∀ c, FeC g ld db kd R0 c → c.length = n → (∃ S, c = S ++ P) → KP c ≤ KPo o' := fun c hc hcl hS => by
          obtain ⟨S, v, e, hv⟩ := lst c hc hcl hS
          by_cases hv4 : v = 4
          · subst hv4; exact q8 c hc hcl ⟨S, e⟩
          · have := hc.1
            rw [e] at this
            exact absurd ((okC_app this).2.1 (by omega)).1 hA
        by_cases a1 : ld P.length = db P.length
        · have n1 : zI (ld P.length) = zI (db P.length) := nA.mpr a1
          refine ⟨s', o', ?_, ?_, q1, q2, q3, q4, q5, q6, q7, fin⟩
          · rw [lpl_e]; unfold tX5_place_e
            rw [m1, e25, if_pos hc, if_neg nle, if_pos l6, ci, t1, t2, if_pos n1]
            exact e1
          · rw [qpl_e]; unfold uX5_place_e
            rw [m1, e25, ci, t1, t2]
            exact fun _ => ⟨fun hcc => absurd hcc nle, fun _ => ⟨fun _ => ⟨vi, vi, fun _ => e2, fun hcc => absurd n1 hcc⟩, fun hcc => absurd l6 hcc⟩⟩
        · have n1 : ¬ zI (ld P.length) = zI (db P.length) := fun h => a1 (nA.mp h)
          by_cases a2 : livZ g (ld P.length)
          · have n2 : ¬ bI (livZ g (ld P.length)) = 0 := by rw [bI_0]; exact not_not_intro a2
            have n3 : bI (livZ g (db P.length)) = 0 := by rw [bI_0]; exact fun a3 => hA ⟨a1, a2, a3⟩
            refine ⟨s', o', ?_, ?_, q1, q2, q3, q4, q5, q6, q7, fin⟩
            · rw [lpl_e]; unfold tX5_place_e
              rw [m1, e25, if_pos hc, if_neg nle, if_pos l6, ci, t1, t2, if_neg n1, gx, e5, il, if_neg n2, il, if_pos n3]
              exact e1
            · rw [qpl_e]; unfold uX5_place_e
              rw [m1, e25, ci, t1, t2, gx, e5, il, il]
              exact fun _ => ⟨fun hcc => absurd hcc nle, fun _ => ⟨fun _ => ⟨vi, vi, fun hcc => absurd hcc n1, fun _ => ⟨hx.2.1, lx, vi, fun hcc => absurd hcc n2, fun _ => ⟨hx.2.1, lx, vi, fun _ => e2, fun hcc => absurd n3 hcc⟩⟩⟩, fun hcc => absurd l6 hcc⟩⟩
          · have n2 : bI (livZ g (ld P.length)) = 0 := by rw [bI_0]; exact a2
            refine ⟨s', o', ?_, ?_, q1, q2, q3, q4, q5, q6, q7, fin⟩
            · rw [lpl_e]; unfold tX5_place_e
              rw [m1, e25, if_pos hc, if_neg nle, if_pos l6, ci, t1, t2, if_neg n1, gx, e5, il, if_pos n2]
              exact e1
            · rw [qpl_e]; unfold uX5_place_e
              rw [m1, e25, ci, t1, t2, gx, e5, il, il]
              exact fun _ => ⟨fun hcc => absurd hcc nle, fun _ => ⟨fun _ => ⟨vi, vi, fun hcc => absurd hcc n1, fun _ => ⟨hx.2.1, lx, vi, fun _ => e2, fun hcc => absurd n2 hcc⟩⟩, fun hcc => absurd l6 hcc⟩⟩
    · have hc : ¬ (zI m < (zI (cnt P : Int) + zI (n : Int)) - zI (P.length : Int)) := fun h => hlt ((ge m m2 m3).mp h)
      refine ⟨s, o, ?_, ?_, Fp_rf _ s, rfl, fun _ _ => rfl, hr, ho, fun q hq => Or.inl hq, Int.le_refl _, fun c hc hcl hS => m4 hlt c hc hcl hS⟩
      · rw [lpl_e]; unfold tX5_place_e; rw [m1, e25, if_neg hc]
      · rw [qpl_e]; unfold uX5_place_e; rw [m1, e25]; exact fun h => absurd h hc
end
