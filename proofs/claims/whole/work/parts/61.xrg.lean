-- needs: 42.qa 51.fr 60.rg
/-- the path lies in cell c -/
def MPx (c : Nat) (s : SM) : List Nat → Prop
  | [] => True
  | w :: Q => gI s c Q.length = zI (w : Int) ∧ MPx c s Q
def ini (P : List Nat) (k : Nat) : List Nat := P.drop (P.length - k)
theorem ini_0 (P : List Nat) : ini P 0 = [] := by unfold ini; rw [Nat.sub_zero, List.drop_length]
theorem ini_n (P : List Nat) : ini P P.length = P := by unfold ini; rw [Nat.sub_self, List.drop_zero]
theorem MPx_k {c : Nat} {s : SM} : ∀ {P : List Nat}, MPx c s P → ∀ k, k < P.length → ∃ w, w ∈ P ∧ gI s c k = zI (w : Int) ∧ ini P (k + 1) = w :: ini P k ∧ P.take (P.length - k) = P.take (P.length - (k + 1)) ++ [w] := by
  intro P
  induction P with
  | nil => intro _ k hk; exact absurd hk (by simp)
  | cons x Q ih =>
    intro h k hk
    rw [List.length_cons] at hk
    by_cases hq : k = Q.length
    · subst hq
      refine ⟨x, by simp, h.1, ?_, ?_⟩
      · unfold ini; rw [List.length_cons, Nat.sub_self, List.drop_zero, show Q.length + 1 - Q.length = 1 by omega]; rfl
      · rw [List.length_cons, Nat.sub_self, show Q.length + 1 - Q.length = 1 by omega]; rfl
    · obtain ⟨w, h1, h2, h3, h4⟩ := ih h.2 k (by omega)
      refine ⟨w, by simp [h1], h2, ?_, ?_⟩
      · unfold ini at h3 ⊢
        rw [List.length_cons, show Q.length + 1 - (k + 1) = (Q.length - (k + 1)) + 1 by omega, List.drop_succ_cons, h3, show Q.length + 1 - k = (Q.length - k) + 1 by omega, List.drop_succ_cons]
      · rw [List.length_cons, show Q.length + 1 - k = (Q.length - k) + 1 by omega, show Q.length + 1 - (k + 1) = (Q.length - (k + 1)) + 1 by omega, List.take_succ_cons, List.take_succ_cons, h4, List.cons_append]
theorem MPx_c {c c' : Nat} {s t : SM} : ∀ {P : List Nat}, MPx c s P → (∀ k, k < P.length → gI t c' k = gI s c k) → MPx c' t P := by
  intro P
  induction P with
  | nil => intro _ _; trivial
  | cons x Q ih => intro h hk; exact ⟨by rw [hk _ (by simp)]; exact h.1, ih h.2 (fun k hk2 => hk k (by rw [List.length_cons]; omega))⟩
section
variable {s : SM} {g : Nat → Int}
theorem x_isRingDeal (h : RR s g) (hw : WF g) {d : Int} (hd : IR d) : vX12_isRingDeal s (zI d) = bI (okR g d) ∧ rX12_isRingDeal s (zI d) := by
  unfold vX12_isRingDeal rX12_isRingDeal
  rw [x_isOpen h hw hd]
  by_cases ho : opZ g d
  · obtain ⟨e, r⟩ := x_sortOf h hw ho.1
    have hs := (hw.siz ho.1).2
    rw [bI_T' ho, e, if_neg (by decide)]
    refine ⟨?_, x_isOpen_r h hw hd, fun _ => ⟨r, fun _ => r⟩⟩
    rw [zl0, show (4 : Int32) = zI 4 from rfl]
    unfold bI
    by_cases h0 : sorZ g d = 0
    · rw [if_pos (by rw [h0]), if_pos ⟨ho, Or.inl h0⟩]
    · rw [if_neg (by rw [z_eq (by omega) (by omega)]; exact h0)]
      by_cases h4 : sorZ g d = 4
      · rw [if_pos (by rw [h4]), if_pos ⟨ho, Or.inr h4⟩]
      · rw [if_neg (by rw [z_eq (by omega) (by omega)]; exact h4), if_neg (fun hc => by rcases hc.2 with hc | hc; exact h0 hc; exact h4 hc)]; rfl
  · rw [bI_F' ho, if_pos rfl, bI_F' (fun hc => ho hc.1)]
    exact ⟨rfl, x_isOpen_r h hw hd, fun hc => absurd rfl hc⟩
theorem x_dotOf (h : RR s g) (hw : WF g) {d : Int} (hd : dlZ g d) : vX12_dotOf s (zI d) = zI (dtZ g d) ∧ rX12_dotOf s (zI d) := by
  have h0 := hw.w0
  have hs := (hw.siz hd).1
  obtain ⟨e, r⟩ := x_sizeOf h hw hd
  have e3 : gI s 250 (3 : Int32).toNatClampNeg = zI (g 3) := h 3
  unfold vX12_dotOf rX12_dotOf dtZ
  rw [e, e3, zif]
  refine ⟨?_, r, fun _ => r⟩
  congr 1
  simp only [z_le (show IR (sizZ g d) by omega) (show IR (g 3) by omega)]
theorem x_leastOf (h : RR s g) (hw : WF g) {c : Nat} {P : List Nat} (hP : MPx c s P) (hd : ∀ y ∈ P, dlZ g y) (h5 : P.length ≤ 5) : vX12_leastOf s c 5 (zI (P.length : Int)) = zI (mnR g P) ∧ rX12_leastOf s c 5 (zI (P.length : Int)) := by
  have h0 := hw.w0
  have mnb : ∀ k, 0 ≤ mnR g (ini P k) ∧ mnR g (ini P k) ≤ 1000000000 := by
    intro k
    have : ∀ Q : List Nat, (∀ y ∈ Q, dlZ g y) → 0 ≤ mnR g Q ∧ mnR g Q ≤ 1000000000 := by
      intro Q
      induction Q with
      | nil => intro _; exact ⟨by show (0 : Int) ≤ 1000000000; omega, Int.le_refl _⟩
      | cons w Q ih =>
        intro hq
        have := ih (fun y hy => hq y (by simp [hy]))
        have := (hw.wd (hq w (by simp))).2.2.1
        unfold mnR
        split <;> omega
    exact this _ (fun y hy => hd y (List.mem_of_mem_drop hy))
  have it := ST_it0 (B := 1) P.length (fun k n => lX12_leastOf n s c 5 (zI (P.length : Int)) (zI (mnR g (ini P k))) (zI (k : Int))) (fun k n => qX12_leastOf n s c 5 (zI (P.length : Int)) (zI (mnR g (ini P k))) (zI (k : Int))) (by
    intro k hk
    obtain ⟨w, w1, w2, w3, -⟩ := MPx_k hP k hk
    have hwd := hd w w1
    have hs := (hw.wd hwd).2.2.1
    have o2 := x_of h (d := (w : Int)) (w := 2) (by omega) (by omega)
    have p2 := x_of_r s (d := (w : Int)) (w := 2) (by omega) (by omega)
    have ck : (zI (k : Int)).toNatClampNeg = k := by rw [z_cl (by omega)]; exact Int.toNat_natCast k
    have vk : vp_in (zI (k : Int)) 5 := by rw [z_in (by omega)]; omega
    have n1 : ((P.length : Int) ≤ (k : Int)) = False := eq_false (by omega)
    have mb := mnb k
    rw [w3]
    refine ST_1 fun n => ?_
    have hm : mnR g (w :: ini P k) = if mnR g (ini P k) ≤ oZ g w 2 then mnR g (ini P k) else oZ g w 2 := by
      show (if oZ g w 2 < mnR g (ini P k) then oZ g w 2 else mnR g (ini P k)) = _
      split <;> split <;> omega
    rw [hm]
    rcases tf (mnR g (ini P k) ≤ oZ g w 2) with k1 | k1 <;>
      simp (disch := omega) only [lX12_leastOf, qX12_leastOf, tX12_leastOf_7, uX12_leastOf_7, zl0, zl1, zl2, z_add, z_le, ck, vk, w2, o2, p2, n1, k1, Int.natCast_succ, Int.reduceAdd, Int.reduceSub, Int.reduceMul, Int.reduceNeg, Int.reduceLT, Int.reduceLE, Int.reduceToNat, Int.reduceEq, if_true, if_false, true_and, and_true, not_true, not_false_eq_true, false_implies, true_implies, imp_self, and_self, and_false, false_and, or_true, true_or, or_false, false_or, ite_self, implies_true])
  rw [ini_0, ini_n] at it
  obtain ⟨e, r⟩ := ST_fu (ST_trans it (ST_1 (F' := fun _ => zI (mnR g P)) (C' := fun _ => True) (fun n => by
    simp (disch := omega) only [lX12_leastOf, qX12_leastOf, tX12_leastOf_7, uX12_leastOf_7, zl0, zl1, zl2, z_le, Int.le_refl, Int.reduceAdd, Int.reduceSub, Int.reduceMul, Int.reduceNeg, Int.reduceLT, Int.reduceLE, Int.reduceToNat, Int.reduceEq, if_true, if_false, true_and, and_true, not_true, not_false_eq_true, false_implies, true_implies, imp_self, and_self, and_false, false_and, or_true, true_or, or_false, false_or, ite_self, implies_true]))) (by omega)
  exact ⟨e, r⟩
theorem x_freesOf (h : RR s g) (hw : WF g) {P : List Nat} (hP : MPx 256 s P) (hv : vpa g P) (h5 : P.length ≤ 5) : vX12_freesOf s (zI (P.length : Int)) = zI (fsR g P) ∧ rX12_freesOf s (zI (P.length : Int)) := by
  have h0 := hw.w0
  have hd : ∀ y ∈ P, dlZ g y := fun y hy => (vpa_ok hv y hy).1.1
  obtain ⟨el, rl⟩ := x_leastOf h hw hP hd h5
  have mb : ∀ Q : List Nat, (∀ y ∈ Q, dlZ g y) → 0 ≤ mnR g Q ∧ mnR g Q ≤ 1000000000 := by
    intro Q
    induction Q with
    | nil => intro _; exact ⟨by show (0 : Int) ≤ 1000000000; omega, Int.le_refl _⟩
    | cons w Q ih =>
      intro hq
      have := ih (fun y hy => hq y (by simp [hy]))
      have := (hw.wd (hq w (by simp))).2.2.1
      unfold mnR
      split <;> omega
  have mP := mb P hd
  obtain ⟨m, hm⟩ : ∃ m, m = mnR g P := ⟨_, rfl⟩
  rw [← hm] at mP el
  have it := ST_it0 (B := 4) P.length (fun k n => (lX12_freesOf n).1 s (zI (P.length : Int)) (zI m) (zI (frR g m (ini P k))) (zI (k : Int))) (fun k n => (qX12_freesOf n).1 s (zI (P.length : Int)) (zI m) (zI (frR g m (ini P k))) (zI (k : Int))) (by
    intro k hk
    obtain ⟨w, w1, w2, w3, -⟩ := MPx_k hP k hk
    have hdl := hd w w1
    have hwd := hw.wd hdl
    have hs := hwd.2.2.1
    have o2 := x_of h (d := (w : Int)) (w := 2) (by omega) (by omega)
    have p2 := x_of_r s (d := (w : Int)) (w := 2) (by omega) (by omega)
    have o6 := x_of h (d := (w : Int)) (w := 6) (by omega) (by omega)
    have p6 := x_of_r s (d := (w : Int)) (w := 6) (by omega) (by omega)
    have o7 := x_of h (d := (w : Int)) (w := 7) (by omega) (by omega)
    have p7 := x_of_r s (d := (w : Int)) (w := 7) (by omega) (by omega)
    have l6 := x_isLiving h (oZ g w 6)
    have l7 := x_isLiving h (oZ g w 7)
    obtain ⟨es, rs⟩ := x_sizeOf h hw hdl
    obtain ⟨ed, rd⟩ := x_dotOf h hw hdl
    have ck : (zI (k : Int)).toNatClampNeg = k := by rw [z_cl (by omega)]; exact Int.toNat_natCast k
    have vk : vp_in (zI (k : Int)) 5 := by rw [z_in (by omega)]; omega
    have n1 : ((P.length : Int) ≤ (k : Int)) = False := eq_false (by omega)
    rw [w3]
    have hf : frR g m (w :: ini P k) = frR g m (ini P k) + (if oZ g w 2 = m then frd g w else 0) := Int.add_comm _ _
    rw [hf]
    generalize frR g m (ini P k) = x
    rcases tf (oZ g w 2 = m) with k1 | k1
    · have hfx : ∀ y : Int, frd g w = y → x + (if oZ g w 2 = m then frd g w else 0) = x + y := fun y hy => by rw [if_pos (of_eq_true k1), hy]
      rcases tf (livZ g (oZ g w 6)) with k2 | k2 <;> rcases tf (livZ g (oZ g w 7)) with k3 | k3
      all_goals rw [hfx _ (by unfold frd; simp only [k2, k3, if_true, if_false, true_and, and_true, not_true, not_false_eq_true, false_implies, true_implies, imp_self, and_self]; rfl)]
      all_goals
      (refine ⟨4, by decide, fun n => ?_⟩; dsimp only []; rw [show n + 4 = n + 3 + 1 from rfl]; rw [lpX12_freesOf_15 (n + 3), qpX12_freesOf_15 (n + 3)]; generalize hlK : lX12_freesOf (n + 3) = K; generalize hqK : qX12_freesOf (n + 3) = Q; simp (disch := omega) only [tX12_freesOf_15, uX12_freesOf_15, zl0, zl1, zl2, zl6, zl7, z_sub, z_add, z_le, z_eq, ck, vk, w2, o2, p2, o6, p6, o7, p7, l6, l7, es, rs, ed, rd, n1, k1, k2, k3, bI_T, bI_F, bI_z, Int.natCast_succ, Int.reduceAdd, Int.reduceSub, Int.reduceMul, Int.reduceNeg, Int.reduceLT, Int.reduceLE, Int.reduceToNat, Int.reduceEq, i_a0, i_s0, i_or0, Int.natCast_succ, Int.sub_sub, Int.add_assoc, Int.add_zero, Int.zero_add, Int.sub_zero, if_true, if_false, true_and, and_true, not_true, not_false_eq_true, false_implies, true_implies, imp_self, and_self, and_false, false_and, or_true, true_or, or_false, false_or, ite_self, implies_true]; subst hlK hqK; rw [show n + 3 = n + 2 + 1 from rfl]; rw [lpX12_freesOf_43 (n + 2), qpX12_freesOf_43 (n + 2)]; generalize hlK : lX12_freesOf (n + 2) = K; generalize hqK : qX12_freesOf (n + 2) = Q; simp (disch := omega) only [tX12_freesOf_43, uX12_freesOf_43, zl0, zl1, zl2, zl6, zl7, z_sub, z_add, z_le, z_eq, ck, vk, w2, o2, p2, o6, p6, o7, p7, l6, l7, es, rs, ed, rd, n1, k1, k2, k3, bI_T, bI_F, bI_z, Int.natCast_succ, Int.reduceAdd, Int.reduceSub, Int.reduceMul, Int.reduceNeg, Int.reduceLT, Int.reduceLE, Int.reduceToNat, Int.reduceEq, i_a0, i_s0, i_or0, Int.natCast_succ, Int.sub_sub, Int.add_assoc, Int.add_zero, Int.zero_add, Int.sub_zero, if_true, if_false, true_and, and_true, not_true, not_false_eq_true, false_implies, true_implies, imp_self, and_self, and_false, false_and, or_true, true_or, or_false, false_or, ite_self, implies_true]; subst hlK hqK; rw [show n + 2 = n + 1 + 1 from rfl]; rw [lpX12_freesOf_43 (n + 1), qpX12_freesOf_43 (n + 1)]; generalize hlK : lX12_freesOf (n + 1) = K; generalize hqK : qX12_freesOf (n + 1) = Q; simp (disch := omega) only [tX12_freesOf_43, uX12_freesOf_43, zl0, zl1, zl2, zl6, zl7, z_sub, z_add, z_le, z_eq, ck, vk, w2, o2, p2, o6, p6, o7, p7, l6, l7, es, rs, ed, rd, n1, k1, k2, k3, bI_T, bI_F, bI_z, Int.natCast_succ, Int.reduceAdd, Int.reduceSub, Int.reduceMul, Int.reduceNeg, Int.reduceLT, Int.reduceLE, Int.reduceToNat, Int.reduceEq, i_a0, i_s0, i_or0, Int.natCast_succ, Int.sub_sub, Int.add_assoc, Int.add_zero, Int.zero_add, Int.sub_zero, if_true, if_false, true_and, and_true, not_true, not_false_eq_true, false_implies, true_implies, imp_self, and_self, and_false, false_and, or_true, true_or, or_false, false_or, ite_self, implies_true]; subst hlK hqK; rw [lpX12_freesOf_43 (n), qpX12_freesOf_43 (n)]; generalize hlK : lX12_freesOf (n) = K; generalize hqK : qX12_freesOf (n) = Q; simp (disch := omega) only [tX12_freesOf_43, uX12_freesOf_43, zl0, zl1, zl2, zl6, zl7, z_sub, z_add, z_le, z_eq, ck, vk, w2, o2, p2, o6, p6, o7, p7, l6, l7, es, rs, ed, rd, n1, k1, k2, k3, bI_T, bI_F, bI_z, Int.natCast_succ, Int.reduceAdd, Int.reduceSub, Int.reduceMul, Int.reduceNeg, Int.reduceLT, Int.reduceLE, Int.reduceToNat, Int.reduceEq, i_a0, i_s0, i_or0, Int.natCast_succ, Int.sub_sub, Int.add_assoc, Int.add_zero, Int.zero_add, Int.sub_zero, if_true, if_false, true_and, and_true, not_true, not_false_eq_true, false_implies, true_implies, imp_self, and_self, and_false, false_and, or_true, true_or, or_false, false_or, ite_self, implies_true]; done)
    · rw [if_neg (of_eq_false k1)]
      refine ST_mono (B1 := 1) ?_ (by omega)
      (refine ⟨1, by decide, fun n => ?_⟩; dsimp only []; rw [lpX12_freesOf_15 (n), qpX12_freesOf_15 (n)]; generalize hlK : lX12_freesOf (n) = K; generalize hqK : qX12_freesOf (n) = Q; simp (disch := omega) only [tX12_freesOf_15, uX12_freesOf_15, zl0, zl1, zl2, zl6, zl7, z_sub, z_add, z_le, z_eq, ck, vk, w2, o2, p2, o6, p6, o7, p7, l6, l7, es, rs, ed, rd, n1, k1, bI_T, bI_F, bI_z, Int.natCast_succ, Int.reduceAdd, Int.reduceSub, Int.reduceMul, Int.reduceNeg, Int.reduceLT, Int.reduceLE, Int.reduceToNat, Int.reduceEq, i_a0, i_s0, i_or0, Int.natCast_succ, Int.sub_sub, Int.add_assoc, Int.add_zero, Int.zero_add, Int.sub_zero, if_true, if_false, true_and, and_true, not_true, not_false_eq_true, false_implies, true_implies, imp_self, and_self, and_false, false_and, or_true, true_or, or_false, false_or, ite_self, implies_true]; done)
    )
  rw [ini_0, ini_n] at it
  obtain ⟨e, r⟩ := ST_fu (ST_trans (B2 := 1) (F'' := fun _ => zI (frR g m P)) (C'' := fun _ => True) it (by
    (refine ⟨1, by decide, fun n => ?_⟩; dsimp only []; rw [lpX12_freesOf_15 (n), qpX12_freesOf_15 (n)]; generalize hlK : lX12_freesOf (n) = K; generalize hqK : qX12_freesOf (n) = Q; simp (disch := omega) only [tX12_freesOf_15, uX12_freesOf_15, zl0, zl1, zl2, z_le, Int.le_refl, Int.reduceAdd, Int.reduceSub, Int.reduceMul, Int.reduceNeg, Int.reduceLT, Int.reduceLE, Int.reduceToNat, Int.reduceEq, if_true, if_false, true_and, and_true, not_true, not_false_eq_true, false_implies, true_implies, imp_self, and_self, and_false, false_and, or_true, true_or, or_false, false_or, ite_self, implies_true]; done)
    )) (by omega)
  unfold vX12_freesOf rX12_freesOf fX12_freesOf fsR
  rw [el, ← hm]
  exact ⟨e, rl, r⟩
theorem x_canRing (h : RR s g) (hw : WF g) {P : List Nat} {w : Nat} (hP : MPx 256 s (w :: P)) (hv : vpa g P) (h5 : P.length ≤ 4) (hwd : dlZ g w) : (vpa g (w :: P) → vX12_canRing s (zI (P.length : Int)) = zI 1) ∧ (¬ vpa g (w :: P) → vX12_canRing s (zI (P.length : Int)) = zI 0) ∧ rX12_canRing s (zI (P.length : Int)) := by
  have h0 := hw.w0
  have hd := hw.wd hwd
  obtain ⟨er, rr⟩ := x_isRingDeal h hw (d := (w : Int)) (by omega)
  have o0 := x_of h (d := (w : Int)) (w := 0) (by omega) (by omega)
  have p0 := x_of_r s (d := (w : Int)) (w := 0) (by omega) (by omega)
  have o1 := x_of h (d := (w : Int)) (w := 1) (by omega) (by omega)
  have p1 := x_of_r s (d := (w : Int)) (w := 1) (by omega) (by omega)
  have ck : (zI (P.length : Int)).toNatClampNeg = P.length := by rw [z_cl (by omega)]; exact Int.toNat_natCast _
  have vk : vp_in (zI (P.length : Int)) 5 := by rw [z_in (by omega)]; omega
  have hw256 : gI s 256 P.length = zI (w : Int) := hP.1
  unfold vX12_canRing rX12_canRing fX12_canRing
  rw [ck, hw256, er]
  by_cases hok : okR g w
  · have hne : ¬ oZ g w 0 = oZ g w 1 := (hd.2.2.2.2.2.2.2.2.2 hok.1.2).2.1
    have n0 : ¬ bI (okR g w) = 0 := by rw [bI_0]; exact not_not_intro hok
    have n1 : ¬ vX12_of s (zI (w : Int)) 0 = vX12_of s (zI (w : Int)) 1 := by rw [zl0, zl1, o0, o1, z_eq (by omega) (by omega)]; exact hne
    rw [if_neg n0, if_neg n1]
    cases P with
    | nil =>
      have e0 : zI ((([] : List Nat).length : Nat) : Int) = 0 := rfl
      rw [if_pos e0]
      refine ⟨fun _ => rfl, fun hc => absurd (show vpa g [w] from ⟨hok, fun x Q hq => (by cases hq), fun y hy => absurd hy (by simp), trivial⟩) hc, vk, rr, fun _ => ⟨vk, p0, vk, p1, fun _ hc => absurd e0 hc⟩⟩
    | cons x Q =>
      have hx := hP.2.1
      have hxd := (vpa_ok hv x (by simp)).1.1
      have hxw := hw.wd hxd
      have q1 := x_of h (d := (x : Int)) (w := 1) (by omega) (by omega)
      have u1 := x_of_r s (d := (x : Int)) (w := 1) (by omega) (by omega)
      have e0 : ¬ zI (((x :: Q).length : Nat) : Int) = 0 := by rw [zl0, z_eq (by omega) (by omega), List.length_cons]; omega
      have ck1 : (zI (((x :: Q).length : Nat) : Int) - 1).toNatClampNeg = Q.length := by rw [zl1, z_sub, z_cl (by omega), List.length_cons]; omega
      have vk1 : vp_in (zI (((x :: Q).length : Nat) : Int) - 1) 5 := by rw [zl1, z_sub, z_in (by omega), List.length_cons]; rw [List.length_cons] at h5; omega
      rw [if_neg e0, ck1, hx]
      have hN : (x :: Q).length ≤ 4 := h5
      -- the loop
      have loop : ∀ r k, k + r = (x :: Q).length → ST (r + 1) (fun n => lX12_canRing n s (zI (((x :: Q).length : Nat) : Int)) (zI (k : Int))) (fun n => qX12_canRing n s (zI (((x :: Q).length : Nat) : Int)) (zI (k : Int))) (fun _ => zI (if ∀ y ∈ (x :: Q).take ((x :: Q).length - k), oZ g y 0 ≠ oZ g w 0 then 1 else 0)) (fun _ => True) := by
        intro r
        induction r with
        | zero =>
          intro k hk
          have hk : k = (x :: Q).length := by omega
          subst hk
          rw [Nat.sub_self, List.take_zero, if_pos (fun y hy => absurd hy (by simp))]
          refine ST_1 fun n => ?_
          simp (disch := omega) only [lX12_canRing, qX12_canRing, tX12_canRing_77, uX12_canRing_77, zl0, zl1, z_le, Int.le_refl, Int.reduceAdd, Int.reduceSub, Int.reduceMul, Int.reduceNeg, Int.reduceLT, Int.reduceLE, Int.reduceToNat, Int.reduceEq, if_true, if_false, true_and, and_true, not_true, not_false_eq_true, false_implies, true_implies, imp_self, and_self, and_false, false_and, or_true, true_or, or_false, false_or, ite_self, implies_true]
        | succ r ih =>
          intro k hk
          obtain ⟨y, y1, y2, -, y4⟩ := MPx_k hP.2 k (by omega)
          have hyd := (vpa_ok hv y y1).1.1
          have hyw := hw.wd hyd
          have a0 := x_of h (d := (y : Int)) (w := 0) (by omega) (by omega)
          have b0 := x_of_r s (d := (y : Int)) (w := 0) (by omega) (by omega)
          have cy : (zI (k : Int)).toNatClampNeg = k := by rw [z_cl (by omega)]; exact Int.toNat_natCast k
          have vy : vp_in (zI (k : Int)) 5 := by rw [z_in (by omega)]; omega
          have n2 : ((((x :: Q).length : Nat) : Int) ≤ (k : Int)) = False := eq_false (by omega)
          rw [y4]
          by_cases hq : oZ g y 0 = oZ g w 0
          · rw [if_neg (fun hc => hc y (by simp) hq)]
            refine ST_mono (B1 := 1) (ST_1 fun n => ?_) (by omega)
            simp (disch := omega) only [lX12_canRing, qX12_canRing, tX12_canRing_77, uX12_canRing_77, zl0, zl1, z_le, z_eq, n2, cy, vy, ck, vk, y2, hw256, a0, b0, o0, p0, hq, Int.reduceAdd, Int.reduceSub, Int.reduceMul, Int.reduceNeg, Int.reduceLT, Int.reduceLE, Int.reduceToNat, Int.reduceEq, if_true, if_false, true_and, and_true, not_true, not_false_eq_true, false_implies, true_implies, imp_self, and_self, and_false, false_and, or_true, true_or, or_false, false_or, ite_self, implies_true]
          · have hqp : (oZ g y 0 = oZ g w 0) = False := eq_false hq
            have hall : (∀ z ∈ (x :: Q).take ((x :: Q).length - (k + 1)) ++ [y], oZ g z 0 ≠ oZ g w 0) = (∀ z ∈ (x :: Q).take ((x :: Q).length - (k + 1)), oZ g z 0 ≠ oZ g w 0) := propext ⟨fun h z hz => h z (List.mem_append.mpr (Or.inl hz)), fun h z hz => by
              rcases List.mem_append.mp hz with hz | hz
              · exact h z hz
              · rw [List.mem_singleton.mp hz]; exact hq⟩
            simp only [hall]
            refine ST_mono (ST_trans (B1 := 1) (ST_1 fun n => ?_) (ih (k + 1) (by omega))) (by omega)
            simp (disch := omega) only [lX12_canRing, qX12_canRing, tX12_canRing_77, uX12_canRing_77, zl0, zl1, z_add, z_le, z_eq, n2, cy, vy, ck, vk, y2, hw256, a0, b0, o0, p0, hqp, Int.natCast_succ, Int.reduceAdd, Int.reduceSub, Int.reduceMul, Int.reduceNeg, Int.reduceLT, Int.reduceLE, Int.reduceToNat, Int.reduceEq, if_true, if_false, true_and, and_true, not_true, not_false_eq_true, false_implies, true_implies, imp_self, and_self, and_false, false_and, or_true, true_or, or_false, false_or, ite_self, implies_true]
      obtain ⟨e, r⟩ := ST_fu (loop (x :: Q).length 0 (by omega)) (by omega)
      rw [Nat.sub_zero, List.take_length] at e
      have e : lX12_canRing FU s (zI (((x :: Q).length : Nat) : Int)) 0 = zI (if ∀ y ∈ x :: Q, oZ g y 0 ≠ oZ g w 0 then 1 else 0) := e
      have r : qX12_canRing FU s (zI (((x :: Q).length : Nat) : Int)) 0 := r
      rw [e]
      have key : vpa g (w :: x :: Q) ↔ (oZ g w 0 = oZ g x 1 ∧ ∀ y ∈ x :: Q, oZ g y 0 ≠ oZ g w 0) :=
        ⟨fun hc => ⟨hc.2.1 x Q rfl, hc.2.2.1⟩, fun hc => ⟨hok, fun x' Q' hq => (by cases hq; exact hc.1), hc.2, hv⟩⟩
      refine ⟨fun hc => ?_, fun hc => ?_, vk, rr, fun _ => ⟨vk, p0, vk, p1, fun _ _ => ⟨vk, p0, vk1, u1, fun _ => r⟩⟩⟩
      · have hc := key.mp hc
        rw [if_pos (by rw [zl0, zl1, o0, q1, hc.1]), if_pos hc.2]
      · by_cases h1 : oZ g w 0 = oZ g x 1
        · rw [if_pos (by rw [zl0, zl1, o0, q1, h1]), if_neg (fun h2 => hc (key.mpr ⟨h1, h2⟩))]
        · rw [if_neg (by rw [zl0, zl1, o0, q1, z_eq (by omega) (by omega)]; exact h1)]; rfl
  · have n0 : bI (okR g w) = 0 := by rw [bI_0]; exact hok
    rw [if_pos n0]
    exact ⟨fun hc => absurd hc.1 hok, fun _ => rfl, vk, rr, fun hc => absurd n0 hc⟩
end
