-- needs: 42.qa 43.owed 47.qe 49.bits
theorem wit0 {g : Nat → Int} {d : Int} {n : Nat} (h : ∀ S : Nat, S < n → ¬ knZ g d S) : wtF g d n = -1 := by
  rcases wt_b g d n with ⟨e, _⟩ | ⟨h1, h2, h3, h4⟩
  · exact e
  · have e : wtF g d n = ((wtF g d n).toNat : Int) := by omega
    rw [e] at h3
    exact absurd h3 (h _ (by omega))
theorem pow_lt' {c n : Nat} (h : c < n) : 2 ^ c < 2 ^ n := Nat.pow_lt_pow_right (by omega) h
theorem wit1 {g : Nat → Int} {d : Int} {n c : Nat} (hn : n ≤ 9) (hc : c < n) (h : ∀ S : Nat, S < 2 ^ n → (knZ g d S ↔ S.testBit c = true)) : wtF g d (2 ^ n) = (2 ^ c : Nat) := by
  have hp : 2 ^ n ≤ 2 ^ 9 := Nat.pow_le_pow_right (by omega) hn
  obtain ⟨a1, a2⟩ := c1_all c (List.mem_range.mpr (by omega))
  refine wt_eq (pow_lt' hc) ((h _ (pow_lt' hc)).mpr (Nat.testBit_two_pow_self)) (fun S hS hk => ?_)
  have := a2 S (List.mem_range.mpr (by omega)) ((h S hS).mp hk)
  rw [a1]
  exact ⟨this.1, fun hq => Nat.le_of_eq (this.2 hq.symm).symm⟩
theorem wit2 {g : Nat → Int} {d : Int} {n c e : Nat} (hn : n ≤ 9) (hc : c < n) (he : e < n) (h : ∀ S : Nat, S < 2 ^ n → (knZ g d S ↔ (S.testBit c = true ∧ S.testBit e = true))) : wtF g d (2 ^ n) = (2 ^ c ||| 2 ^ e : Nat) := by
  have hp : 2 ^ n ≤ 2 ^ 9 := Nat.pow_le_pow_right (by omega) hn
  by_cases hce : c = e
  · subst hce
    rw [Nat.or_self]
    exact wit1 hn hc (fun S hS => by rw [h S hS]; exact ⟨fun hh => hh.1, fun hh => ⟨hh, hh⟩⟩)
  · obtain ⟨a1, a2⟩ := c2_all c (List.mem_range.mpr (by omega)) e (List.mem_range.mpr (by omega)) hce
    have hr := Nat.or_lt_two_pow (pow_lt' hc) (pow_lt' he)
    refine wt_eq hr ((h _ hr).mpr ?_) (fun S hS hk => ?_)
    · rw [Nat.testBit_or, Nat.testBit_or, Nat.testBit_two_pow_self, Nat.testBit_two_pow_self]; simp
    · have := a2 S (List.mem_range.mpr (by omega)) ((h S hS).mp hk).1 ((h S hS).mp hk).2
      rw [a1]
      exact ⟨this.1, fun hq => Nat.le_of_eq (this.2 hq.symm).symm⟩
theorem wit3 {g : Nat → Int} {d : Int} {n c e : Nat} (hn : n ≤ 9) (hc : c < n) (hce : c ≤ e) (he : e < n) (h : ∀ S : Nat, S < 2 ^ n → (knZ g d S ↔ (S.testBit c = true ∨ S.testBit e = true))) : wtF g d (2 ^ n) = (2 ^ c : Nat) := by
  have hp : 2 ^ n ≤ 2 ^ 9 := Nat.pow_le_pow_right (by omega) hn
  obtain ⟨a1, a2⟩ := c1_all c (List.mem_range.mpr (by omega))
  obtain ⟨b1, b2⟩ := c1_all e (List.mem_range.mpr (by omega))
  refine wt_eq (pow_lt' hc) ((h _ (pow_lt' hc)).mpr (Or.inl Nat.testBit_two_pow_self)) (fun S hS hk => ?_)
  rw [a1]
  rcases (h S hS).mp hk with hh | hh
  · have := a2 S (List.mem_range.mpr (by omega)) hh
    exact ⟨this.1, fun hq => Nat.le_of_eq (this.2 hq.symm).symm⟩
  · have := b2 S (List.mem_range.mpr (by omega)) hh
    refine ⟨this.1, fun hq => ?_⟩
    rw [this.2 hq.symm]
    exact Nat.pow_le_pow_right (by omega) hce
def usZ (g : Nat → Int) (d w : Int) : Int := if hasZ (oZ g d 8) w then -1 else oZ g d (6 + w)
section
variable {s t : SM} {g : Nat → Int} {L P : Nat}
theorem us_b (hw : WF g) {d w : Int} (hd : dlZ g d) (hs : w = 0 ∨ w = 1) : -1 ≤ usZ g d w ∧ usZ g d w < g 0 := by
  have := y_oB hw hd hs
  have h0 := hw.w0
  unfold usZ
  split <;> omega
theorem ka_us (hw : WF g) {d w : Int} (hd : dlZ g d) (hs : w = 0 ∨ w = 1) (S : Nat) (hS : S < 512) : kaZ g d w S ↔ (0 ≤ usZ g d w ∧ S.testBit (usZ g d w).toNat = true) := by
  have h0 := hw.w0
  have hb := y_oB hw hd hs
  unfold usZ kaZ
  by_cases h1 : hasZ (oZ g d 8) w
  · rw [if_pos h1]
    exact ⟨fun h => absurd h1 h.2.1, fun h => by omega⟩
  · rw [if_neg h1]
    by_cases h2 : 0 ≤ oZ g d (6 + w)
    · have := hasZ_n (x := S) (b := oZ g d (6 + w)) (by omega) (by omega) h2 (by omega)
      rw [Int.toNat_natCast] at this
      rw [this]
      exact ⟨fun h => ⟨h.1, h.2.2⟩, fun h => ⟨h.1, h1, h.2⟩⟩
    · exact ⟨fun h => absurd h.1 h2, fun h => absurd h.1 h2⟩
theorem x_wit_l (h : RR s g) (hw : WF g) {d : Int} (hd : dlZ g d) : (lX12_witness FU).1 s (zI d) (zI (-1)) (zI 0) = (zI (wtF g d (2 ^ (g 0).toNat)), s) ∧ (qX12_witness FU).1 s (zI d) (zI (-1)) (zI 0) := by
  have h0 := hw.w0
  obtain ⟨hz, p2, p3⟩ := shl9 (n := g 0) (by omega) (by omega)
  have n00 : gI s 250 (zI 0).toNatClampNeg = zI (g 0) := h 0
  simp only [zl1] at hz
  generalize hA : 2 ^ (g 0).toNat = A at *
  have hs2 := ST_it0 (B := 2) A (fun m n => (lX12_witness n).1 s (zI d) (zI (wtF g d m)) (zI (m : Int))) (fun m n => (qX12_witness n).1 s (zI d) (zI (wtF g d m)) (zI (m : Int))) (by
    intro m hm
    obtain ⟨e, r⟩ := x_isKnown h hw (st := (m : Int)) hd
    have hb1 := wt_b g d m
    show ST 2 _ _ (fun n => (lX12_witness n).1 s (zI d) (zI (wtS g d m (wtF g d m))) (zI ((m + 1 : Nat) : Int))) (fun n => (qX12_witness n).1 s (zI d) (zI (wtS g d m (wtF g d m))) (zI ((m + 1 : Nat) : Int)))
    generalize wtF g d m = x at *
    have n1 : ((A : Int) ≤ (m : Int)) = False := eq_false (by omega)
    obtain ⟨b2, q2⟩ := x_bits s (show m < 512 by omega)
    have c2 := card_b (show m < 512 by omega)
    unfold wtS
    rcases tf (x < 0) with k0 | k0
    · rcases tf (knZ g d (m : Int)) with k1 | k1
      all_goals
        (refine ⟨2, by decide, fun n => ?_⟩; dsimp only []; rw [show n + 2 = n + 1 + 1 from rfl]; rw [lpX12_witness_19 (n + 1), qpX12_witness_19 (n + 1)]; generalize hlK : lX12_witness (n + 1) = K; generalize hqK : qX12_witness (n + 1) = Q; simp (disch := omega) only [tX12_witness_19, uX12_witness_19, n00, hz, zl0, zl1, z_add, z_lt, z_le, z_eq, e, r, b2, q2, n1, k0, k1, bI_T, bI_F, bI_z, Int.natCast_succ, Int.reduceAdd, Int.reduceSub, Int.reduceMul, Int.reduceNeg, Int.reduceLT, Int.reduceLE, Int.reduceToNat, Int.reduceEq, if_true, if_false, true_and, and_true, not_true, not_false_eq_true, false_implies, true_implies, imp_self, and_self, and_false, false_and, or_true, true_or, or_false, false_or, ite_self, implies_true]; subst hlK hqK; rw [lpX12_witness_46 (n), qpX12_witness_46 (n)]; generalize hlK : lX12_witness (n) = K; generalize hqK : qX12_witness (n) = Q; simp (disch := omega) only [tX12_witness_46, uX12_witness_46, n00, hz, zl0, zl1, z_add, z_lt, z_le, z_eq, e, r, b2, q2, n1, k0, k1, bI_T, bI_F, bI_z, Int.natCast_succ, Int.reduceAdd, Int.reduceSub, Int.reduceMul, Int.reduceNeg, Int.reduceLT, Int.reduceLE, Int.reduceToNat, Int.reduceEq, if_true, if_false, true_and, and_true, not_true, not_false_eq_true, false_implies, true_implies, imp_self, and_self, and_false, false_and, or_true, true_or, or_false, false_or, ite_self, implies_true]; done)
    · have hx0 : x = (x.toNat : Int) := by have := of_eq_false k0; omega
      obtain ⟨b1, q1⟩ := x_bits s (show x.toNat < 512 by omega)
      have c1 := card_b (show x.toNat < 512 by omega)
      rw [← hx0] at b1 q1
      rcases tf (card m < card x.toNat) with k2 | k2
      · have k3 : (card x.toNat ≤ card m) = False := eq_false (by have := of_eq_true k2; omega)
        rcases tf (knZ g d (m : Int)) with k1 | k1
        all_goals
          (refine ⟨2, by decide, fun n => ?_⟩; dsimp only []; rw [show n + 2 = n + 1 + 1 from rfl]; rw [lpX12_witness_19 (n + 1), qpX12_witness_19 (n + 1)]; generalize hlK : lX12_witness (n + 1) = K; generalize hqK : qX12_witness (n + 1) = Q; simp (disch := omega) only [tX12_witness_19, uX12_witness_19, b1, q1, k2, k3, n00, hz, zl0, zl1, z_add, z_lt, z_le, z_eq, e, r, b2, q2, n1, k0, k1, bI_T, bI_F, bI_z, Int.natCast_succ, Int.reduceAdd, Int.reduceSub, Int.reduceMul, Int.reduceNeg, Int.reduceLT, Int.reduceLE, Int.reduceToNat, Int.reduceEq, if_true, if_false, true_and, and_true, not_true, not_false_eq_true, false_implies, true_implies, imp_self, and_self, and_false, false_and, or_true, true_or, or_false, false_or, ite_self, implies_true]; subst hlK hqK; rw [lpX12_witness_46 (n), qpX12_witness_46 (n)]; generalize hlK : lX12_witness (n) = K; generalize hqK : qX12_witness (n) = Q; simp (disch := omega) only [tX12_witness_46, uX12_witness_46, b1, q1, k2, k3, n00, hz, zl0, zl1, z_add, z_lt, z_le, z_eq, e, r, b2, q2, n1, k0, k1, bI_T, bI_F, bI_z, Int.natCast_succ, Int.reduceAdd, Int.reduceSub, Int.reduceMul, Int.reduceNeg, Int.reduceLT, Int.reduceLE, Int.reduceToNat, Int.reduceEq, if_true, if_false, true_and, and_true, not_true, not_false_eq_true, false_implies, true_implies, imp_self, and_self, and_false, false_and, or_true, true_or, or_false, false_or, ite_self, implies_true]; done)
      · have k3 : (card x.toNat ≤ card m) = True := eq_true (by have := of_eq_false k2; omega)
        refine ST_mono (B1 := 1) ?_ (by omega)
        (refine ⟨1, by decide, fun n => ?_⟩; dsimp only []; rw [lpX12_witness_19 (n), qpX12_witness_19 (n)]; generalize hlK : lX12_witness (n) = K; generalize hqK : qX12_witness (n) = Q; simp (disch := omega) only [tX12_witness_19, uX12_witness_19, b1, q1, k2, k3, n00, hz, zl0, zl1, z_add, z_lt, z_le, z_eq, e, r, b2, q2, n1, k0, bI_T, bI_F, bI_z, Int.natCast_succ, Int.reduceAdd, Int.reduceSub, Int.reduceMul, Int.reduceNeg, Int.reduceLT, Int.reduceLE, Int.reduceToNat, Int.reduceEq, if_true, if_false, true_and, and_true, not_true, not_false_eq_true, false_implies, true_implies, imp_self, and_self, and_false, false_and, or_true, true_or, or_false, false_or, ite_self, implies_true]; done)
    )
  obtain ⟨e2, r2⟩ := ST_fu (ST_trans (B2 := 1) (F'' := fun _ => (zI (wtF g d A), s)) (C'' := fun _ => True) hs2 (by
    (refine ⟨1, by decide, fun n => ?_⟩; dsimp only []; rw [lpX12_witness_19 (n), qpX12_witness_19 (n)]; generalize hlK : lX12_witness (n) = K; generalize hqK : qX12_witness (n) = Q; simp (disch := omega) only [tX12_witness_19, uX12_witness_19, n00, hz, zl0, zl1, z_le, Int.le_refl, Int.reduceAdd, Int.reduceSub, Int.reduceMul, Int.reduceNeg, Int.reduceLT, Int.reduceLE, Int.reduceToNat, Int.reduceEq, if_true, if_false, true_and, and_true, not_true, not_false_eq_true, false_implies, true_implies, imp_self, and_self, and_false, false_and, or_true, true_or, or_false, false_or, ite_self, implies_true]; done)
    )) (by omega)
  exact ⟨e2, r2⟩
theorem q_witness (h : LdR s 31 5 g) (h2 : RR s g) (hw : WF g) (a1 : Int32) : rX11_witness s a1 ∧ rX12_witness s a1 ∧ vX11_witness s a1 = vX12_witness s a1 ∧ mX12_witness s a1 = Th s := by
  obtain ⟨d, hd, rfl⟩ := z_ex a1
  have h3 := Th_R h2
  have h0 := hw.w0
  unfold rX11_witness rX12_witness vX11_witness vX12_witness mX12_witness fX11_witness fX12_witness
  rcases tf (dlZ g d) with c1 | c1
  · have hdl : dlZ g d := of_eq_true c1
    obtain ⟨e2, r2⟩ := x_wit_l h3 hw hdl
    have w0 : (0 : Int) = 0 ∨ (0 : Int) = 1 := Or.inl rfl
    have w1 : (1 : Int) = 0 ∨ (1 : Int) = 1 := Or.inr rfl
    obtain ⟨u0, v0⟩ := y_unsc (P := 5) h hw hdl w0
    obtain ⟨u1, v1⟩ := y_unsc (P := 5) h hw hdl w1
    rw [zif] at u0 u1
    have u0 : vX4_unscarredBearer s 31 5 (zI d) (zI 0) = zI (usZ g d 0) := u0
    have u1 : vX4_unscarredBearer s 31 5 (zI d) (zI 1) = zI (usZ g d 1) := u1
    have b0 := us_b hw hdl w0
    have b1 := us_b hw hdl w1
    have vp := y_vp hw hdl
    obtain ⟨so, vso⟩ := y_sort h hw hdl
    have so : gI s 11 (gI s 35 (zI d).toNatClampNeg).toNatClampNeg = zI (sorZ g d) := so
    have vso : vp_in (gI s 35 (zI d).toNatClampNeg) 6 := vso
    have hsz := hw.siz hdl
    have hp9 : 2 ^ (g 0).toNat ≤ 2 ^ 9 := Nat.pow_le_pow_right (by omega) (by omega)
    have ka0 := fun S hS => ka_us hw hdl w0 S hS
    have ka1 := fun S hS => ka_us hw hdl w1 S hS
    obtain ⟨n, hn⟩ := FUk 1 (by omega)
    have lw : ∀ a b c, lX11_witness FU s a b c = tX11_witness_86 (lX11_witness n) s a b c := fun a b c => by rw [hn]; rfl
    have qw : ∀ a b c, qX11_witness FU s a b c := fun a b c => by rw [hn]; exact trivial
    have sh : ∀ x : Int, 0 ≤ x → x < 9 → zI 1 <<< (zI x &&& 31) = zI ((2 ^ x.toNat : Nat) : Int) := fun x hx hx9 => by
      have := zN_shl x.toNat (by omega)
      rwa [Int.toNat_of_nonneg hx] at this
    have hkn : ∀ S : Nat, S < 2 ^ (g 0).toNat → (knZ g d S ↔ ((sorZ g d = 4 ∧ (0 ≤ usZ g d 0 ∧ S.testBit (usZ g d 0).toNat = true) ∧ (0 ≤ usZ g d 1 ∧ S.testBit (usZ g d 1).toNat = true)) ∨ (¬ sorZ g d = 4 ∧ ((0 ≤ usZ g d 0 ∧ S.testBit (usZ g d 0).toNat = true) ∨ (0 ≤ usZ g d 1 ∧ S.testBit (usZ g d 1).toNat = true))))) := fun S hS => by
      rw [← ka0 S (by omega), ← ka1 S (by omega)]
    have hval : (if sorZ g d = 4 then (if usZ g d 0 = -1 then zI (-1) else if usZ g d 1 = -1 then zI (-1) else (zI 1 <<< (zI (usZ g d 0) &&& 31)) ||| (zI 1 <<< (zI (usZ g d 1) &&& 31))) else if usZ g d 0 = -1 then lX11_witness FU s (zI d) (zI (usZ g d 0)) (zI (usZ g d 1)) else if usZ g d 1 = -1 then lX11_witness FU s (zI d) (zI (usZ g d 0)) (zI (usZ g d 1)) else zI 1 <<< ((if usZ g d 1 < usZ g d 0 then zI (usZ g d 1) else zI (usZ g d 0)) &&& 31)) = zI (wtF g d (2 ^ (g 0).toNat)) := by
      by_cases k4 : sorZ g d = 4
      · rw [if_pos k4]
        by_cases c0 : usZ g d 0 = -1
        · rw [if_pos c0, wit0 (fun S hS hk => by rcases (hkn S hS).mp hk with ⟨_, ⟨hq, _⟩, _⟩ | ⟨hq, _⟩ <;> omega)]
        · rw [if_neg c0]
          by_cases c1 : usZ g d 1 = -1
          · rw [if_pos c1, wit0 (fun S hS hk => by rcases (hkn S hS).mp hk with ⟨_, _, ⟨hq, _⟩⟩ | ⟨hq, _⟩ <;> omega)]
          · rw [if_neg c1, sh _ (by omega) (by omega), sh _ (by omega) (by omega), zN_or, wit2 (n := (g 0).toNat) (c := (usZ g d 0).toNat) (e := (usZ g d 1).toNat) (by omega) (by omega) (by omega) (fun S hS => by
              rw [hkn S hS]
              exact ⟨fun hh => by rcases hh with ⟨_, ⟨_, ha⟩, ⟨_, hb⟩⟩ | ⟨hq, _⟩ <;> first | exact ⟨ha, hb⟩ | exact absurd k4 hq, fun hh => Or.inl ⟨k4, ⟨by omega, hh.1⟩, ⟨by omega, hh.2⟩⟩⟩)]
      · rw [if_neg k4]
        have hkn : ∀ S : Nat, S < 2 ^ (g 0).toNat → (knZ g d S ↔ ((0 ≤ usZ g d 0 ∧ S.testBit (usZ g d 0).toNat = true) ∨ (0 ≤ usZ g d 1 ∧ S.testBit (usZ g d 1).toNat = true))) := fun S hS => by
          rw [hkn S hS]
          exact ⟨fun hh => by rcases hh with ⟨hq, _⟩ | ⟨_, hq⟩ <;> first | exact absurd hq k4 | exact hq, fun hh => Or.inr ⟨k4, hh⟩⟩
        by_cases c0 : usZ g d 0 = -1
        · rw [if_pos c0, lw]
          unfold tX11_witness_86
          simp (disch := omega) only [zl0, zl1, z_neg, z_eq, c0, if_true, if_false, true_and, and_true, not_true, not_false_eq_true, false_implies, true_implies, imp_self, and_self, and_false, false_and, or_true, true_or, or_false, false_or, ite_self, implies_true]
          by_cases c1 : usZ g d 1 = -1
          · rw [if_pos c1, wit0 (fun S hS hk => by rcases (hkn S hS).mp hk with ⟨hq, _⟩ | ⟨hq, _⟩ <;> omega)]
          · rw [if_neg c1, sh _ (by omega) (by omega), wit1 (n := (g 0).toNat) (c := (usZ g d 1).toNat) (by omega) (by omega) (fun S hS => by
              rw [hkn S hS]
              exact ⟨fun hh => by rcases hh with ⟨hq, _⟩ | ⟨_, hq⟩ <;> first | exact hq | omega, fun hh => Or.inr ⟨by omega, hh⟩⟩)]
        · rw [if_neg c0]
          by_cases c1 : usZ g d 1 = -1
          · rw [if_pos c1, lw]
            unfold tX11_witness_86
            simp (disch := omega) only [zl0, zl1, z_neg, z_eq, if_true, if_false, true_and, and_true, not_true, not_false_eq_true, false_implies, true_implies, imp_self, and_self, and_false, false_and, or_true, true_or, or_false, false_or, ite_self, implies_true]
            rw [if_neg c0, if_neg (show ¬ zI (usZ g d 0) = zI (-1) by rw [z_eq (by omega) (by omega)]; exact c0)]
            rw [sh _ (by omega) (by omega), wit1 (n := (g 0).toNat) (c := (usZ g d 0).toNat) (by omega) (by omega) (fun S hS => by
              rw [hkn S hS]
              exact ⟨fun hh => by rcases hh with ⟨_, hq⟩ | ⟨hq, _⟩ <;> first | exact hq | omega, fun hh => Or.inl ⟨by omega, hh⟩⟩)]
          · rw [if_neg c1]
            by_cases c2 : usZ g d 1 < usZ g d 0
            · rw [if_pos c2, sh _ (by omega) (by omega), wit3 (n := (g 0).toNat) (c := (usZ g d 1).toNat) (e := (usZ g d 0).toNat) (by omega) (by omega) (by omega) (by omega) (fun S hS => by
                rw [hkn S hS]
                exact ⟨fun hh => by rcases hh with ⟨_, hq⟩ | ⟨_, hq⟩ <;> first | exact Or.inr hq | exact Or.inl hq, fun hh => by rcases hh with hq | hq <;> first | exact Or.inr ⟨by omega, hq⟩ | exact Or.inl ⟨by omega, hq⟩⟩)]
            · rw [if_neg c2, sh _ (by omega) (by omega), wit3 (n := (g 0).toNat) (c := (usZ g d 0).toNat) (e := (usZ g d 1).toNat) (by omega) (by omega) (by omega) (by omega) (fun S hS => by
                rw [hkn S hS]
                exact ⟨fun hh => by rcases hh with ⟨_, hq⟩ | ⟨_, hq⟩ <;> first | exact Or.inl hq | exact Or.inr hq, fun hh => by rcases hh with hq | hq <;> first | exact Or.inl ⟨by omega, hq⟩ | exact Or.inr ⟨by omega, hq⟩⟩)]
    simp (disch := omega) only [y_hasDeal h.2 hw hd, x_isDeal h3 hw hd, c1, zl0, zl1, zl4, z_neg, z_lt, z_eq, so, vso, vp, u0, u1, v0, v1, bI_T, bI_F, bI_z, qw, e2, r2, hval, Int.reduceAdd, Int.reduceSub, Int.reduceMul, Int.reduceNeg, Int.reduceLT, Int.reduceLE, Int.reduceToNat, Int.reduceEq, if_true, if_false, true_and, and_true, not_true, not_false_eq_true, false_implies, true_implies, imp_self, and_self, and_false, false_and, or_true, true_or, or_false, false_or, ite_self, implies_true]
  · simp (disch := omega) only [y_hasDeal h.2 hw hd, x_isDeal h3 hw hd, c1, zl0, zl1, z_neg, bI_F, bI_z, z_eq, Int.reduceAdd, Int.reduceSub, Int.reduceMul, Int.reduceNeg, Int.reduceLT, Int.reduceLE, Int.reduceToNat, Int.reduceEq, if_true, if_false, true_and, and_true, not_true, not_false_eq_true, false_implies, true_implies, imp_self, and_self, and_false, false_and, or_true, true_or, or_false, false_or, ite_self, implies_true]
end
