-- needs: 69d.cut 69e.ring
/-! how many CUTS: each closes a deal -/
def opNq (g : Nat → Int) : Int := sumZ (fun d => if opZ g d then 1 else 0) (g 34).toNat
theorem opN_b {g : Nat → Int} (hw : WF g) : 0 ≤ opNq g ∧ opNq g ≤ 60 := by
  have h0 := hw.w0
  have h1 := sumZ_le (f := fun d => if opZ g d then 1 else 0) (n := (g 34).toNat) (a := 1) (fun e h1 h2 => by split <;> omega)
  have h2 := sumZ_ge (f := fun d => if opZ g d then 1 else 0) (n := (g 34).toNat) (a := 0) (fun e h1 h2 => by split <;> omega)
  unfold opNq
  omega
theorem opN_le {g : Nat → Int} (hw : WF g) {d m : Int} (ho : opZ g d) (hm : 0 ≤ m ∧ m ≤ oZ g d 2) : opNq (leD g m d) = opNq g - (if oZ g d 2 = m then 1 else 0) := by
  have h0 := hw.w0
  obtain ⟨l1, l2, l3, l4⟩ := leD_all hw ho hm
  have e34 : leD g m d 34 = g 34 := l2 34 (by omega)
  have eN : (leD g m d 34).toNat = (g 34).toNat := by rw [e34]
  unfold opNq
  rw [eN, sumZ_1 (f := fun d' => if opZ (leD g m d) d' then 1 else 0) (g := fun d' => if opZ g d' then 1 else 0) d ho.1.1 (by have := ho.1.2; omega) (fun d' h1 h2 h3 => ?_)]
  · have e1 : (if opZ g d then (1 : Int) else 0) = 1 := if_pos ho
    have e2 : (if opZ (leD g m d) d then (1 : Int) else 0) = 1 - (if oZ g d 2 = m then 1 else 0) := by
      by_cases hq : oZ g d 2 = m
      · have : ¬ opZ (leD g m d) d := fun hc => by
          have h5 := hc.2
          unfold leD at h5
          rw [if_pos (by omega), clZ_oZ hw ho ho.1.1 (by omega) (by omega), if_neg (by omega), if_neg (by omega), if_pos ⟨rfl, rfl⟩] at h5
          omega
        rw [if_neg this, if_pos hq]; rfl
      · have : opZ (leD g m d) d := by
          refine ⟨by unfold dlZ; rw [e34]; exact ho.1, ?_⟩
          unfold leD
          rw [if_neg (by omega), oZ_st _ _ ho.1.1 (by omega) (by omega) ho.1.1 (by omega) (by omega), if_neg (by omega)]
          exact ho.2
        rw [if_pos this, if_neg hq]; rfl
    simp only [e1, e2]
    omega
  · have : opZ (leD g m d) d' = opZ g d' := by
      unfold opZ dlZ
      rw [e34, l4 d' 5 h1 h3 (by omega) (by omega)]
    simp only [this]
theorem opN_cutF {g : Nat → Int} (hw : WF g) {m : Int} (hm : 0 ≤ m) : ∀ {P : List Nat}, vpa g P → (∀ y ∈ P, m ≤ oZ g y 2) → opNq (cutF g m P) ≤ opNq g ∧ ((∃ y ∈ P, oZ g y 2 = m) → opNq (cutF g m P) + 1 ≤ opNq g) := by
  intro P
  induction P with
  | nil => intro _ _; exact ⟨Int.le_refl _, fun ⟨y, hy, _⟩ => absurd hy (by simp)⟩
  | cons w P ih =>
    intro hv hs
    obtain ⟨i1, i2⟩ := ih hv.2.2.2 (fun y hy => hs y (by simp [hy]))
    obtain ⟨c1, c2, c3⟩ := cutF_nx hw hm hv hs
    have e := opN_le c1 c2 (m := m) ⟨hm, c3⟩
    have ew : oZ (cutF g m P) w 2 = oZ g w 2 := by
      obtain ⟨-, -, -, i4⟩ := cutF_all hw hm hv.2.2.2 (fun y hy => hs y (by simp [hy]))
      refine i4 w 2 (by omega) (fun y hy hc => ?_) (by omega) (by omega)
      have h1 := hv.2.2.1 y hy
      have h2 : y = w := by omega
      rw [h2] at h1
      exact h1 rfl
    rw [ew] at e
    show opNq (leD (cutF g m P) m w) ≤ _ ∧ (_ → opNq (leD (cutF g m P) m w) + 1 ≤ _)
    rw [e]
    refine ⟨by split <;> omega, fun ⟨y, hy, he⟩ => ?_⟩
    rcases List.mem_cons.mp hy with rfl | hy
    · rw [if_pos he]; omega
    · have := i2 ⟨y, hy, he⟩; split <;> omega
theorem mn_at {g : Nat → Int} : ∀ {P : List Nat}, P ≠ [] → (∀ y ∈ P, oZ g y 2 < 1000000000) → ∃ y ∈ P, oZ g y 2 = mnR g P := by
  intro P
  induction P with
  | nil => intro h; exact absurd rfl h
  | cons w P ih =>
    intro _ hs
    by_cases hq : oZ g w 2 < mnR g P
    · exact ⟨w, by simp, by show _ = if oZ g w 2 < mnR g P then oZ g w 2 else mnR g P; rw [if_pos hq]⟩
    · by_cases hP : P = []
      · subst hP
        exact absurd (hs w (by simp)) (by intro hc; exact hq hc)
      · obtain ⟨y, hy, he⟩ := ih hP (fun y hy => hs y (by simp [hy]))
        exact ⟨y, by simp [hy], by show _ = if oZ g w 2 < mnR g P then oZ g w 2 else mnR g P; rw [if_neg hq]; exact he⟩
theorem opN_cut {g : Nat → Int} (hw : WF g) {q : List Nat} {cn : Prop} (hr : RGs g cn q) : opNq (cutF g (mnR g q) q) + 1 ≤ opNq g := by
  have hne : q ≠ [] := fun hq => by have := hr.2.1.1; rw [hq] at this; exact absurd this (by decide)
  refine (opN_cutF hw (mn_b hw hr.1 hne).1 hr.1 (mn_le g q)).2 (mn_at hne (fun y hy => ?_))
  have := (hw.wd (vpa_ok hr.1 y hy).1.1).2.2.1
  omega
/-- the best ring of g -/
noncomputable def bR (g : Nat → Int) : Option (List Nat) := Classical.epsilon (fun o => BestO g o)
theorem bR_eq {g : Nat → Int} (hw : WF g) {o : Option (List Nat)} (h : BestO g o) : bR g = o := BestO_1 hw (Classical.epsilon_spec (p := fun o => BestO g o) ⟨o, h⟩) h
/-- ringsFor, of the row -/
noncomputable def rfF (l d k : Int) : Nat → (Nat → Int) → Int → Int
  | 0, _, _ => -1
  | f + 1, g, n => if wyZ g l d k = 0 then n else if wyZ g l d k = 1 then -1 else match bR g with | none => -1 | some q => rfF l d k f (cutF g (mnR g q) q) (n + 1)
section
variable {s : SM} {g : Nat → Int}
theorem x_keepsAll (h : RR s g) : ∃ t, mX12_keepsAll s = t ∧ rX12_keepsAll s ∧ Fr (fun c => c = 259) s t ∧ ∀ k, k < 552 → gI t 259 k = zI (g (34 + k)) := by
  have up := ST_up (B := 1) 552 (fun k (b : SM) => Fr (fun c => c = 259) s b ∧ ∀ j, j < k → gI b 259 j = zI (g (34 + j))) (fun k b n => lX12_keepsAll n b (zI (k : Int))) (fun k b n => qX12_keepsAll n b (zI (k : Int))) (by
    rintro k b hk ⟨f1, f2⟩
    have n1 : ((552 : Int) ≤ (k : Int)) = False := eq_false (by omega)
    have v1 : vp_in (zI (34 + (k : Int))) 787 := by rw [z_in (by omega)]; omega
    have v2 : vp_in (zI (k : Int)) 552 := by rw [z_in (by omega)]; omega
    have c1 : (zI (34 + (k : Int))).toNatClampNeg = 34 + k := by rw [z_cl (by omega)]; omega
    have c2 : (zI (k : Int)).toNatClampNeg = k := by rw [z_cl (by omega)]; omega
    have g2 : gI b 250 (34 + k) = zI (g (34 + k)) := by rw [f1.1 250 (by omega)]; exact h _
    refine ⟨pI b 259 k (zI (g (34 + k))), ⟨Fr_p f1 rfl, fun j hj => ?_⟩, ST_1 fun n => ?_⟩
    · rw [gI_s]
      by_cases hq : j = k
      · rw [if_pos hq, hq]
      · rw [if_neg hq]; exact f2 j (by omega)
    · simp (disch := omega) only [lX12_keepsAll, qX12_keepsAll, tX12_keepsAll_2, uX12_keepsAll_2, zl1, zl34, zl552, z_add, z_le, n1, v1, v2, c1, c2, g2, Int.natCast_succ, if_true, if_false, true_and, and_true, not_true, not_false_eq_true, false_implies, true_implies, imp_self, and_self, and_false, false_and, or_true, true_or, or_false, false_or, ite_self, implies_true])
  obtain ⟨t, ⟨f1, f2⟩, st⟩ := up 552 0 s (by omega) ⟨Fr_rf _ s, fun j hj => by omega⟩
  obtain ⟨E, R⟩ := ST_fu (ST_trans st (ST_1 (F' := fun _ => t) (C' := fun _ => True) (fun n => by
    simp (disch := omega) only [lX12_keepsAll, qX12_keepsAll, tX12_keepsAll_2, uX12_keepsAll_2, zl1, zl34, zl552, show (((552 : Nat) : Int)) = 552 from rfl, Int32.le_refl, if_true, if_false, true_and, and_true, not_true, not_false_eq_true, false_implies, true_implies, imp_self, and_self, and_false, false_and, or_true, true_or, or_false, false_or, ite_self, implies_true]))) (by omega)
  exact ⟨t, E, R, f1, f2⟩
theorem x_backAll {u : Nat → Int} (h : RR s u) (h1 : ∀ k, k < 34 → u k = g k) (h2 : ∀ k, 586 ≤ k → u k = g k) (h3 : ∀ k, k < 552 → gI s 259 k = zI (g (34 + k))) : ∃ t, mX12_backAll s = t ∧ rX12_backAll s ∧ Fr (fun c => c = 250) s t ∧ RR t g := by
  have up := ST_up (B := 1) 552 (fun k (b : SM) => Fr (fun c => c = 250) s b ∧ ∀ j, gI b 250 j = zI (if 34 ≤ j ∧ j < 34 + k then g j else u j)) (fun k b n => lX12_backAll n b (zI (k : Int))) (fun k b n => qX12_backAll n b (zI (k : Int))) (by
    rintro k b hk ⟨f1, f2⟩
    have n1 : ((552 : Int) ≤ (k : Int)) = False := eq_false (by omega)
    have v1 : vp_in (zI (34 + (k : Int))) 787 := by rw [z_in (by omega)]; omega
    have v2 : vp_in (zI (k : Int)) 552 := by rw [z_in (by omega)]; omega
    have c1 : (zI (34 + (k : Int))).toNatClampNeg = 34 + k := by rw [z_cl (by omega)]; omega
    have c2 : (zI (k : Int)).toNatClampNeg = k := by rw [z_cl (by omega)]; omega
    have g2 : gI b 259 k = zI (g (34 + k)) := by rw [f1.1 259 (by omega)]; exact h3 k hk
    refine ⟨pI b 250 (34 + k) (zI (g (34 + k))), ⟨Fr_p f1 rfl, fun j => ?_⟩, ST_1 fun n => ?_⟩
    · rw [gI_s]
      by_cases hq : j = 34 + k
      · rw [if_pos hq, if_pos (by omega), hq]
      · rw [if_neg hq, f2 j]
        by_cases hh : 34 ≤ j ∧ j < 34 + k
        · rw [if_pos hh, if_pos (by omega)]
        · rw [if_neg hh, if_neg (by omega)]
    · simp (disch := omega) only [lX12_backAll, qX12_backAll, tX12_backAll_2, uX12_backAll_2, zl1, zl34, zl552, z_add, z_le, n1, v1, v2, c1, c2, g2, Int.natCast_succ, if_true, if_false, true_and, and_true, not_true, not_false_eq_true, false_implies, true_implies, imp_self, and_self, and_false, false_and, or_true, true_or, or_false, false_or, ite_self, implies_true])
  obtain ⟨t, ⟨f1, f2⟩, st⟩ := up 552 0 s (by omega) ⟨Fr_rf _ s, fun j => by rw [if_neg (by omega)]; exact h j⟩
  obtain ⟨E, R⟩ := ST_fu (ST_trans st (ST_1 (F' := fun _ => t) (C' := fun _ => True) (fun n => by
    simp (disch := omega) only [lX12_backAll, qX12_backAll, tX12_backAll_2, uX12_backAll_2, zl1, zl34, zl552, show (((552 : Nat) : Int)) = 552 from rfl, Int32.le_refl, if_true, if_false, true_and, and_true, not_true, not_false_eq_true, false_implies, true_implies, imp_self, and_self, and_false, false_and, or_true, true_or, or_false, false_or, ite_self, implies_true]))) (by omega)
  refine ⟨t, E, R, f1, fun k => ?_⟩
  rw [f2 k]
  by_cases hh : 34 ≤ k ∧ k < 34 + 552
  · rw [if_pos hh]
  · rw [if_neg hh]
    by_cases h4 : k < 34
    · rw [h1 k h4]
    · rw [h2 k (by omega)]
/-- the trial is begun -/
theorem y_trial (h : LdR s 31 5 g) (hw : WF g) : LdR (mX4_copyFrom s 43 5 31 5) 43 5 g ∧ Fr (InL 43) s (mX4_copyFrom s 43 5 31 5) ∧ rX4_copyFrom s 43 5 31 5 := by
  obtain ⟨c1, c2, c3⟩ := y_copy (P0 := 5) (P1 := 5) (L0 := 43) h.2 hw (by omega)
  exact ⟨⟨PoR_fr h.1 c2 (fun c h1 h2 => by omega), c1⟩, c2, c3⟩
theorem y_rfor {l d k : Int} : ∀ (f : Nat) (s : SM) (g : Nat → Int) (n : Nat), WF g → LdR s 43 5 g → bdyZ g l → bdyZ g d → kndZ g k → n + f = 61 → ∃ t, Fr (fun c => InL 43 c ∨ (218 ≤ c ∧ c ≤ 224)) s t ∧ ST (f + 1) (fun m => lX11_ringsFor m s (zI l) (zI d) (zI k) (zI (n : Int))) (fun m => qX11_ringsFor m s (zI l) (zI d) (zI k) (zI (n : Int))) (fun _ => (zI (rfF l d k f g n), t)) (fun _ => True) := by
  intro f
  induction f with
  | zero =>
    intro s g n hw h hl hd hk hn
    refine ⟨s, Fr_rf _ s, ST_1 fun m => ?_⟩
    have n60 : ((60 : Int) < (n : Int)) = True := eq_true (by omega)
    show _ = (zI (-1), s) ∧ _
    simp (disch := omega) only [lX11_ringsFor, qX11_ringsFor, tX11_ringsFor_29, uX11_ringsFor_29, zl1, zl60, z_lt, z_neg, n60, not_true, false_implies, if_true, if_false, true_and, and_true, not_true, not_false_eq_true, false_implies, true_implies, imp_self, and_self, and_false, false_and, or_true, true_or, or_false, false_or, ite_self, implies_true]
  | succ f ih =>
    intro s g n hw h hl hd hk hn
    have n60 : ((60 : Int) < (n : Int)) = False := eq_false (by omega)
    obtain ⟨ev, rv⟩ := y_wrong h (by omega) hw hl hd hk
    have hb := wyZ_b g l d k
    obtain ⟨s1, o, e1, e2, e3, e4, e5, e6, e7⟩ := y_tryCut h (by omega) hw (by decide) (by decide)
    rcases tf (wyZ g l d k = 0) with k0 | k0
    · refine ⟨s, Fr_rf _ s, ST_mono (B1 := 1) (ST_1 fun m => ?_) (by omega)⟩
      have er : rfF l d k (f + 1) g n = n := by unfold rfF; rw [if_pos (of_eq_true k0)]
      rw [er]
      simp (disch := omega) only [lX11_ringsFor, qX11_ringsFor, tX11_ringsFor_29, uX11_ringsFor_29, zl0, zl1, zl60, z_lt, n60, y_wrong_m, ev, rv, z_eq, k0, if_true, if_false, true_and, and_true, not_true, not_false_eq_true, false_implies, true_implies, imp_self, and_self, and_false, false_and, or_true, true_or, or_false, false_or, ite_self, implies_true]
    · rcases tf (wyZ g l d k = 1) with k1 | k1
      · refine ⟨s, Fr_rf _ s, ST_mono (B1 := 1) (ST_1 fun m => ?_) (by omega)⟩
        have er : rfF l d k (f + 1) g n = -1 := by unfold rfF; rw [if_neg (of_eq_false k0), if_pos (of_eq_true k1)]
        rw [er]
        simp (disch := omega) only [lX11_ringsFor, qX11_ringsFor, tX11_ringsFor_29, uX11_ringsFor_29, zl0, zl1, zl60, z_lt, z_neg, n60, y_wrong_m, ev, rv, z_eq, k0, k1, Int.reduceAdd, Int.reduceSub, Int.reduceMul, Int.reduceNeg, Int.reduceLT, Int.reduceLE, Int.reduceToNat, Int.reduceEq, if_true, if_false, true_and, and_true, not_true, not_false_eq_true, false_implies, true_implies, imp_self, and_self, and_false, false_and, or_true, true_or, or_false, false_or, ite_self, implies_true]
      · have er : rfF l d k (f + 1) g n = match bR g with | none => -1 | some q => rfF l d k f (cutF g (mnR g q) q) (n + 1) := by
          show (if wyZ g l d k = 0 then _ else if wyZ g l d k = 1 then _ else _) = _
          rw [if_neg (of_eq_false k0), if_neg (of_eq_false k1)]
        rw [er, bR_eq hw e6]
        cases o with
        | none =>
          have v8 := e2 rfl
          refine ⟨s1, e5, ST_mono (B1 := 1) (ST_1 fun m => ?_) (by omega)⟩
          have k8 : ((8 : Int32) = zI 0) = False := eq_false (by decide)
          simp (disch := omega) only [lX11_ringsFor, qX11_ringsFor, tX11_ringsFor_29, uX11_ringsFor_29, zl0, zl1, zl60, z_lt, z_neg, n60, y_wrong_m, ev, rv, z_eq, k0, k1, e1, e4, v8, k8, Int.reduceAdd, Int.reduceSub, Int.reduceMul, Int.reduceNeg, Int.reduceLT, Int.reduceLE, Int.reduceToNat, Int.reduceEq, if_true, if_false, true_and, and_true, not_true, not_false_eq_true, false_implies, true_implies, imp_self, and_self, and_false, false_and, or_true, true_or, or_false, false_or, ite_self, implies_true]
        | some q =>
          have v0 := (e3 q rfl).1
          obtain ⟨w1, w2, w3⟩ := cutO_all hw e6
          obtain ⟨t, t1, t2⟩ := ih s1 (cutF g (mnR g q) q) (n + 1) w1 e7 (by unfold bdyZ; rw [show cutF g (mnR g q) q 0 = g 0 from w2 0 (by omega)]; exact hl) (by unfold bdyZ; rw [show cutF g (mnR g q) q 0 = g 0 from w2 0 (by omega)]; exact hd) (by unfold kndZ; rw [show cutF g (mnR g q) q 1 = g 1 from w2 1 (by omega)]; exact hk) (by omega)
          refine ⟨t, Fr_tr e5 t1, ST_mono (ST_trans (B1 := 1) (ST_1 fun m => ?_) t2) (by omega)⟩
          simp (disch := omega) only [lX11_ringsFor, qX11_ringsFor, tX11_ringsFor_29, uX11_ringsFor_29, zl0, zl1, zl60, z_lt, z_add, n60, y_wrong_m, ev, rv, z_eq, k0, k1, e1, e4, v0, Int.natCast_succ, Int.reduceAdd, Int.reduceSub, Int.reduceMul, Int.reduceNeg, Int.reduceLT, Int.reduceLE, Int.reduceToNat, Int.reduceEq, if_true, if_false, true_and, and_true, not_true, not_false_eq_true, false_implies, true_implies, imp_self, and_self, and_false, false_and, or_true, true_or, or_false, false_or, ite_self, implies_true]
theorem x_rfor {l d k : Int} {G : Nat → Int} : ∀ (f : Nat) (s : SM) (g : Nat → Int) (n : Nat), WF g → RR s g → (∀ k, k < 34 → g k = G k) → (∀ k, 586 ≤ k → g k = G k) → (∀ k, k < 552 → gI s 259 k = zI (G (34 + k))) → bdyZ g l → bdyZ g d → kndZ g k → opNq g + 1 ≤ f → ∃ t, Fp (fun c i => BoA c i ∨ c = 250) s t ∧ RR t G ∧ ST (f + 1) (fun m => (lX12_ringsFor m).1 s (zI l) (zI d) (zI k) (zI (n : Int)) (zI (wyZ g l d k))) (fun m => (qX12_ringsFor m).1 s (zI l) (zI d) (zI k) (zI (n : Int)) (zI (wyZ g l d k))) (fun _ => (zI (rfF l d k f g n), t)) (fun _ => True) := by
  intro f
  induction f with
  | zero => intro s g n hw h h1 h2 h3 hl hd hk hf; have := opN_b hw; omega
  | succ f ih =>
    intro s g n hw h h1 h2 h3 hl hd hk hf
    have hb := wyZ_b g l d k
    rcases tf (wyZ g l d k = 0) with k0 | k0
    · obtain ⟨t, b1, b2, b3, b4⟩ := x_backAll h h1 h2 h3
      refine ⟨t, Fp_fr b3 (fun c hc i => Or.inr hc), b4, ST_mono (ST_trans (B1 := 1) (B2 := 1) (F' := fun m => (lX12_ringsFor m).2 s (zI l) (zI d) (zI k) (zI (n : Int)) (zI (wyZ g l d k))) (C' := fun m => (qX12_ringsFor m).2 s (zI l) (zI d) (zI k) (zI (n : Int)) (zI (wyZ g l d k))) (ST_1 fun m => ?_) (ST_1 fun m => ?_)) (by omega)⟩
      · rw [lpX12_ringsFor_47, qpX12_ringsFor_47]
        generalize hlK : lX12_ringsFor m = K
        generalize hqK : qX12_ringsFor m = Q
        have n1 : (wyZ g l d k ≤ 1) = True := eq_true (by have := of_eq_true k0; omega)
        simp (disch := omega) only [tX12_ringsFor_47, uX12_ringsFor_47, zl1, z_le, n1, not_true, false_implies, if_true, if_false, true_and, and_true, not_true, not_false_eq_true, false_implies, true_implies, imp_self, and_self, and_false, false_and, or_true, true_or, or_false, false_or, ite_self, implies_true]
      · rw [lpX12_ringsFor_81, qpX12_ringsFor_81]
        have er : rfF l d k (f + 1) g n = n := by unfold rfF; rw [if_pos (of_eq_true k0)]
        rw [er]
        simp (disch := omega) only [tX12_ringsFor_81, uX12_ringsFor_81, zl0, zl1, z_eq, k0, b1, b2, if_true, if_false, true_and, and_true, not_true, not_false_eq_true, false_implies, true_implies, imp_self, and_self, and_false, false_and, or_true, true_or, or_false, false_or, ite_self, implies_true]
    · rcases tf (wyZ g l d k = 1) with k1 | k1
      · obtain ⟨t, b1, b2, b3, b4⟩ := x_backAll h h1 h2 h3
        refine ⟨t, Fp_fr b3 (fun c hc i => Or.inr hc), b4, ST_mono (ST_trans (B1 := 1) (B2 := 1) (F' := fun m => (lX12_ringsFor m).2 s (zI l) (zI d) (zI k) (zI (n : Int)) (zI (wyZ g l d k))) (C' := fun m => (qX12_ringsFor m).2 s (zI l) (zI d) (zI k) (zI (n : Int)) (zI (wyZ g l d k))) (ST_1 fun m => ?_) (ST_1 fun m => ?_)) (by omega)⟩
        · rw [lpX12_ringsFor_47, qpX12_ringsFor_47]
          generalize hlK : lX12_ringsFor m = K
          generalize hqK : qX12_ringsFor m = Q
          have n1 : (wyZ g l d k ≤ 1) = True := eq_true (by have := of_eq_true k1; omega)
          simp (disch := omega) only [tX12_ringsFor_47, uX12_ringsFor_47, zl1, z_le, n1, not_true, false_implies, if_true, if_false, true_and, and_true, not_true, not_false_eq_true, false_implies, true_implies, imp_self, and_self, and_false, false_and, or_true, true_or, or_false, false_or, ite_self, implies_true]
        · rw [lpX12_ringsFor_81, qpX12_ringsFor_81]
          have er : rfF l d k (f + 1) g n = -1 := by unfold rfF; rw [if_neg (of_eq_false k0), if_pos (of_eq_true k1)]
          rw [er]
          simp (disch := omega) only [tX12_ringsFor_81, uX12_ringsFor_81, zl0, zl1, z_neg, z_eq, k0, b1, b2, if_true, if_false, true_and, and_true, not_true, not_false_eq_true, false_implies, true_implies, imp_self, and_self, and_false, false_and, or_true, true_or, or_false, false_or, ite_self, implies_true]
      · have n1 : (wyZ g l d k ≤ 1) = False := eq_false (by have h1 := of_eq_false k0; have h2 := of_eq_false k1; omega)
        obtain ⟨s1, o, b, c1, c2, c3, c4, c5, c6, c7, c8⟩ := x_bestO h hw
        have r1 := RR_bo h c4
        have er : rfF l d k (f + 1) g n = match bR g with | none => -1 | some q => rfF l d k f (cutF g (mnR g q) q) (n + 1) := by
          show (if wyZ g l d k = 0 then _ else if wyZ g l d k = 1 then _ else _) = _
          rw [if_neg (of_eq_false k0), if_neg (of_eq_false k1)]
        rw [er, bR_eq hw c6]
        cases o with
        | none =>
          have hb1 := c7 rfl
          have nb : (b < 0) = True := eq_true (by omega)
          obtain ⟨t, b1, b2, b3, b4⟩ := x_backAll r1 h1 h2 (fun k hk => by rw [c4.1 259 k (by omega)]; exact h3 k hk)
          refine ⟨t, Fp_tr (Fp_mo c4 (fun c i hc => Or.inl hc)) (Fp_fr b3 (fun c hc i => Or.inr hc)), b4, ST_mono (ST_trans (B1 := 1) (B2 := 1) (F' := fun m => (lX12_ringsFor m).2 s1 (zI l) (zI d) (zI k) (zI (n : Int)) (zI (wyZ g l d k))) (C' := fun m => (qX12_ringsFor m).2 s1 (zI l) (zI d) (zI k) (zI (n : Int)) (zI (wyZ g l d k))) (ST_1 fun m => ?_) (ST_1 fun m => ?_)) (by omega)⟩
          · rw [lpX12_ringsFor_47, qpX12_ringsFor_47]
            generalize hlK : lX12_ringsFor m = K
            generalize hqK : qX12_ringsFor m = Q
            have b0 : b = -1 := hb1
            subst b0
            have n3 : (zI (-1) < 0) = True := eq_true (by decide)
            simp only [tX12_ringsFor_47, uX12_ringsFor_47]
            rw [c1, c2]
            simp (disch := omega) only [zl1, z_le, n1, n3, c3, not_true, not_false_eq_true, false_implies, if_true, if_false, true_and, and_true, not_true, not_false_eq_true, false_implies, true_implies, imp_self, and_self, and_false, false_and, or_true, true_or, or_false, false_or, ite_self, implies_true]
            exact fun h => ⟨c3, h⟩
          · rw [lpX12_ringsFor_81, qpX12_ringsFor_81]
            simp (disch := omega) only [tX12_ringsFor_81, uX12_ringsFor_81, zl0, zl1, z_neg, z_eq, k0, b1, b2, if_true, if_false, true_and, and_true, not_true, not_false_eq_true, false_implies, true_implies, imp_self, and_self, and_false, false_and, or_true, true_or, or_false, false_or, ite_self, implies_true]
        | some q =>
          have hb1 := c8 q rfl
          have hr := c6.1 q rfl
          have nb : ¬ (zI b < 0) := by rw [zl0, z_lt (by omega) (by omega)]; omega
          obtain ⟨s2, d1, d2, d3, d4, d5⟩ := x_cuts r1 hw hr c5.2.1 c5.2.2
          obtain ⟨w1, w2, w3⟩ := cutO_all hw c6
          have w2 : ∀ k, k < 37 → cutF g (mnR g q) q k = g k := w2
          have w3 : ∀ k, 586 ≤ k → cutF g (mnR g q) q k = g k := w3
          have hl' : bdyZ (cutF g (mnR g q) q) l := by unfold bdyZ; rw [w2 0 (by omega)]; exact hl
          have hd' : bdyZ (cutF g (mnR g q) q) d := by unfold bdyZ; rw [w2 0 (by omega)]; exact hd
          have hk' : kndZ (cutF g (mnR g q) q) k := by unfold kndZ; rw [w2 1 (by omega)]; exact hk
          obtain ⟨ew, rw'⟩ := x_whyWrite d5 w1 hl' hd' hk'
          have hop := opN_cut hw hr
          obtain ⟨t, t1, t2, t3⟩ := ih s2 (cutF g (mnR g q) q) (n + 1) w1 d5 (fun k hk => by rw [w2 k (by omega)]; exact h1 k hk) (fun k hk => by rw [w3 k hk]; exact h2 k hk) (fun k hk => by rw [d4.1 259 (by omega), c4.1 259 k (by omega)]; exact h3 k hk) hl' hd' hk' (by omega)
          refine ⟨t, Fp_tr (Fp_mo c4 (fun c i hc => Or.inl hc)) (Fp_tr (Fp_fr d4 (fun c hc i => Or.inr hc)) t1), t2, ST_mono (ST_trans (B1 := 1) (ST_1 fun m => ?_) t3) (by omega)⟩
          rw [lpX12_ringsFor_47, qpX12_ringsFor_47]
          generalize hlK : lX12_ringsFor m = K
          generalize hqK : qX12_ringsFor m = Q
          have n3 : (zI b < 0) = False := eq_false nb
          simp only [tX12_ringsFor_47, uX12_ringsFor_47]
          rw [c1, c2, d1, ew]
          simp (disch := omega) only [zl1, z_le, z_add, n1, n3, c3, d3, rw', Int.natCast_succ, not_true, not_false_eq_true, false_implies, if_true, if_false, true_and, and_true, not_true, not_false_eq_true, false_implies, true_implies, imp_self, and_self, and_false, false_and, or_true, true_or, or_false, false_or, ite_self, implies_true]
          exact fun h => ⟨c3, h⟩
theorem q_ringsFor (h : LdR s 31 5 g) (h2 : RR s g) (hw : WF g) (hi : HI s g) (a1 a2 a3 : Int32) : rX11_ringsFor s a1 a2 a3 ∧ rX12_ringsFor (mX11_ringsFor s a1 a2 a3) a1 a2 a3 ∧ vX11_ringsFor s a1 a2 a3 = vX12_ringsFor (mX11_ringsFor s a1 a2 a3) a1 a2 a3 ∧ AOX s g (mX12_ringsFor (mX11_ringsFor s a1 a2 a3) a1 a2 a3) := by
  obtain ⟨l, hl, rfl⟩ := z_ex a1
  obtain ⟨d, hd, rfl⟩ := z_ex a2
  obtain ⟨k, hk, rfl⟩ := z_ex a3
  have h0 := hw.w0
  have fin : ∀ t : SM, RR t g → Fp (fun c i => InL 43 c ∨ (218 ≤ c ∧ c ≤ 224) ∨ c = 250 ∨ c = 256 ∨ c = 257 ∨ c = 259 ∨ (c = 248 ∧ (i = 0 ∨ i = 29))) s t → AOX s g t := fun t hr hf =>
    ⟨g, hw, fun _ _ => rfl, fun _ _ => rfl, LdR_fp h hf (fun c i hc => by omega), hr, HI_fp hi (fun _ _ => rfl) hf (fun c i hc => by omega), Fp_mo hf (fun c i hc => by unfold FreeC; omega)⟩
  have jb : ∀ t, RR t g → vX12_isBody t (zI l) = bI (bdyZ g l) ∧ vX12_isBody t (zI d) = bI (bdyZ g d) ∧ vX12_isKind t (zI k) = bI (kndZ g k) := fun t ht => ⟨x_isBody ht hw hl, x_isBody ht hw hd, x_isKind ht hw hk⟩
  have yd := y_hasDealers h.1 hw hl hd hk
  by_cases hc : bdyZ g l ∧ bdyZ g d ∧ kndZ g k
  · have nb : ¬ bI (bdyZ g l ∧ bdyZ g d ∧ kndZ g k) = 0 := by rw [bI_0]; exact not_not_intro hc
    obtain ⟨t1, t2, t3⟩ := y_trial h hw
    obtain ⟨s1, f1, st1⟩ := y_rfor 61 _ g 0 hw t1 hc.1 hc.2.1 hc.2.2 (by omega)
    obtain ⟨E, R⟩ := ST_fu st1 (by omega)
    have E1 : fX11_ringsFor s (zI l) (zI d) (zI k) = (zI (rfF l d k 61 g ((0 : Nat) : Int)), s1) := by unfold fX11_ringsFor; rw [yd, if_neg nb]; exact E
    have em : mX11_ringsFor s (zI l) (zI d) (zI k) = s1 := by unfold mX11_ringsFor; rw [E1]
    have ev : vX11_ringsFor s (zI l) (zI d) (zI k) = zI (rfF l d k 61 g ((0 : Nat) : Int)) := by unfold vX11_ringsFor; rw [E1]
    have r1 : RR s1 g := RR_fr (RR_fr h2 t2 (by omega)) f1 (by omega)
    obtain ⟨j1, j2, j3⟩ := jb _ (Th_R r1)
    have j1 : vX12_isBody (pI s1 248 0 0) (zI l) = bI (bdyZ g l) := j1
    have j2 : vX12_isBody (pI s1 248 0 0) (zI d) = bI (bdyZ g d) := j2
    have j3 : vX12_isKind (pI s1 248 0 0) (zI k) = bI (kndZ g k) := j3
    rw [bI_T' hc.1] at j1
    rw [bI_T' hc.2.1] at j2
    rw [bI_T' hc.2.2] at j3
    obtain ⟨s2, k1, k2, k3, k4⟩ := x_keepsAll (Th_R r1)
    have k1 : mX12_keepsAll (pI s1 248 0 0) = s2 := k1
    have k2 : rX12_keepsAll (pI s1 248 0 0) := k2
    have r2 : RR s2 g := RR_fr (Th_R r1) k3 (by omega)
    obtain ⟨ew, rw'⟩ := x_whyWrite r2 hw hc.1 hc.2.1 hc.2.2
    obtain ⟨s3, f3, r3, st3⟩ := x_rfor (l := l) (d := d) (k := k) (G := g) 61 s2 g 0 hw r2 (fun _ _ => rfl) (fun _ _ => rfl) k4 hc.1 hc.2.1 hc.2.2 (by have := opN_b hw; omega)
    obtain ⟨E2, R2⟩ := ST_fu st3 (by omega)
    have n10 : ¬ ((1 : Int32) = 0) := by decide
    have E3 : fX12_ringsFor s1 (zI l) (zI d) (zI k) = (zI (rfF l d k 61 g ((0 : Nat) : Int)), s3) := by
      unfold fX12_ringsFor
      rw [j1, j2, j3, if_neg n10, if_neg n10, if_neg n10, k1, ew]
      exact E2
    have em2 : mX12_ringsFor s1 (zI l) (zI d) (zI k) = s3 := by unfold mX12_ringsFor; rw [E3]
    rw [em, ev, em2]
    refine ⟨?_, ?_, by unfold vX12_ringsFor; rw [E3], fin s3 r3 (Fp_tr (Fp_fr t2 (fun c hc i => by omega)) (Fp_tr (Fp_fr f1 (fun c hc i => by omega)) (Fp_tr (Fp_p s1 (i := 0) (v := zI 0) (c := 248) (by omega)) (Fp_tr (Fp_fr k3 (fun c hc i => by omega)) (Fp_mo f3 (fun c i hc => by omega))))))⟩
    · unfold rX11_ringsFor; rw [yd]; exact fun _ => ⟨t3, R⟩
    · unfold rX12_ringsFor; rw [j1, j2, j3, k1, ew]; exact fun _ _ _ => ⟨k2, rw', R2⟩
  · have nb : bI (bdyZ g l ∧ bdyZ g d ∧ kndZ g k) = 0 := by rw [bI_0]; exact hc
    have E1 : fX11_ringsFor s (zI l) (zI d) (zI k) = (-1, s) := by unfold fX11_ringsFor; rw [yd, if_pos nb]
    have em : mX11_ringsFor s (zI l) (zI d) (zI k) = s := by unfold mX11_ringsFor; rw [E1]
    have ev : vX11_ringsFor s (zI l) (zI d) (zI k) = -1 := by unfold vX11_ringsFor; rw [E1]
    obtain ⟨j1, j2, j3⟩ := jb _ (Th_R h2)
    have j1 : vX12_isBody (pI s 248 0 0) (zI l) = bI (bdyZ g l) := j1
    have j2 : vX12_isBody (pI s 248 0 0) (zI d) = bI (bdyZ g d) := j2
    have j3 : vX12_isKind (pI s 248 0 0) (zI k) = bI (kndZ g k) := j3
    have hv : fX12_ringsFor s (zI l) (zI d) (zI k) = (-1, pI s 248 0 0) ∧ rX12_ringsFor s (zI l) (zI d) (zI k) := by
      unfold fX12_ringsFor rX12_ringsFor
      rw [j1, j2, j3]
      by_cases q1 : bdyZ g l
      · by_cases q2 : bdyZ g d
        · have q3 : ¬ kndZ g k := fun hk => hc ⟨q1, q2, hk⟩
          rw [bI_T' q1, bI_T' q2, bI_F' q3]
          exact ⟨rfl, fun _ _ hh => absurd rfl hh⟩
        · rw [bI_T' q1, bI_F' q2]
          exact ⟨rfl, fun _ hh => absurd rfl hh⟩
      · rw [bI_F' q1]
        exact ⟨rfl, fun hh => absurd rfl hh⟩
    have em2 : mX12_ringsFor s (zI l) (zI d) (zI k) = pI s 248 0 0 := by unfold mX12_ringsFor; rw [hv.1]
    rw [em, ev, em2]
    refine ⟨?_, hv.2, by unfold vX12_ringsFor; rw [hv.1], fin _ (Th_R h2) (Fp_p s (by omega))⟩
    unfold rX11_ringsFor; rw [yd]; exact fun hh => absurd nb hh
end
