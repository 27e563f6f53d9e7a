-- needs: 42.qa 43.owed 47.qe
/-! how many are in a set -/
def bitB : Nat → Int32 → Int32 → Option Int32
  | 0, _, _ => none
  | k + 1, c, x => if x = 0 then some c else bitB k (c + 1) (x &&& (x - 1))
theorem bitB_l (s : SM) (a0 : Int32) : ∀ k c x v, bitB k c x = some v → ∀ n, lX12_bits (n + k) s a0 c x = v ∧ qX12_bits (n + k) s a0 c x := by
  intro k
  induction k with
  | zero => intro c x v h; exact absurd h (by unfold bitB; exact fun h => by cases h)
  | succ k ih =>
    intro c x v h n
    unfold bitB at h
    show tX12_bits_4 (lX12_bits (n + k)) s a0 c x = v ∧ uX12_bits_4 (qX12_bits (n + k)) s a0 c x
    unfold tX12_bits_4 uX12_bits_4
    by_cases hx : x = 0
    · rw [if_pos hx] at h
      rw [if_pos hx]
      exact ⟨Option.some.inj h, fun hc => absurd hx hc⟩
    · rw [if_neg hx] at h
      rw [if_neg hx]
      obtain ⟨e, r⟩ := ih _ _ _ h n
      exact ⟨e, fun _ => r⟩
theorem bits_all : ∀ m ∈ List.range 512, bitB 10 0 (zI ((m : Nat) : Int)) = some (zI (card m)) := by decide +kernel
theorem x_bits (s : SM) {m : Nat} (hm : m < 512) : vX12_bits s (zI (m : Int)) = zI (card m) ∧ rX12_bits s (zI (m : Int)) := by
  have := bitB_l s (zI (m : Int)) 10 0 _ _ (bits_all m (List.mem_range.mpr hm)) (FU - 10)
  rw [Nat.sub_add_cancel (by have := FU_eq; omega)] at this
  exact this
theorem bc_all : ∀ m ∈ List.range 512, vJ6_bitCount_0f7a4 (z0 (0, fun _ => 0)) (zI ((m : Nat) : Int)) = zI (card m) := by
  unfold vJ6_bitCount_0f7a4
  decide +kernel
theorem y_bits (s : SM) {m : Nat} (hm : m < 512) : vJ6_bitCount_0f7a4 s (zI (m : Int)) = zI (card m) := bc_all m (List.mem_range.mpr hm)
theorem card_b {S : Nat} (h : S < 512) : 0 ≤ card S ∧ card S ≤ 9 := ⟨by
  have := @sumZ_ge (fun b => if inS S b then 1 else 0) 9 0 (fun d _ _ => by show (0 : Int) ≤ if _ then (1 : Int) else 0; split <;> omega)
  have e : card S = sumZ (fun b => if inS S b then 1 else 0) 9 := rfl
  omega, card_9 S h⟩
theorem card_all {n m : Nat} (hn : n ≤ 9) (hm : m ≤ 2 ^ n - 1) : card m ≤ card (2 ^ n - 1) ∧ (card m = card (2 ^ n - 1) → m = 2 ^ n - 1) := by
  have : ∀ n ∈ List.range 10, ∀ m ∈ List.range (2 ^ n), card m ≤ card (2 ^ n - 1) ∧ (card m = card (2 ^ n - 1) → m = 2 ^ n - 1) := by decide +kernel
  exact this n (List.mem_range.mpr (by omega)) m (List.mem_range.mpr (by have := Nat.one_le_two_pow (n := n); omega))
theorem all_z {n : Int} (h0 : 0 ≤ n) (h9 : n ≤ 9) : ((1 : Int32) <<< (zI n &&& 31)) - 1 = zI ((2 ^ n.toNat - 1 : Nat) : Int) ∧ 2 ^ n.toNat - 1 < 512 := by
  obtain ⟨p1, p2, p3⟩ := shl9 h0 h9
  rw [p1, zl1, z_sub]
  have := Nat.one_le_two_pow (n := n.toNat)
  refine ⟨by congr 1; omega, by omega⟩
def pfS (g : Nat → Int) (b : Int) (due : Int32) (d : Nat) (x : Nat) : Nat := if card x ≤ card d then x else (if zI (sumZ (swZ g b d) (g 34).toNat) = due then d else x)
def pfF (g : Nat → Int) (b : Int) (due : Int32) (all n : Nat) : Nat := fold (pfS g b due) n all
theorem pf_b (g : Nat → Int) (b : Int) (due : Int32) (all n : Nat) (hn : n ≤ all) : pfF g b due all n = all ∨ pfF g b due all n < n := by
  induction n with
  | zero => left; rfl
  | succ n ih =>
    show pfS g b due n (pfF g b due all n) = all ∨ pfS g b due n (pfF g b due all n) < n + 1
    have := ih (by omega)
    unfold pfS
    split
    · omega
    · split <;> omega
section
variable {s t : SM} {g : Nat → Int} {L P : Nat}
theorem q_proof (h : LdR s 31 5 g) (h2 : RR s g) (hw : WF g) (a1 : Int32) : rX11_proof s a1 ∧ rX12_proof s a1 ∧ vX11_proof s a1 = vX12_proof s a1 ∧ mX12_proof s a1 = Th s := by
  obtain ⟨b, hb, rfl⟩ := z_ex a1
  have h3 := Th_R h2
  have h0 := hw.w0
  have n00 : gI (Th s) 250 (zI 0).toNatClampNeg = zI (g 0) := h3 0
  obtain ⟨hz, hall⟩ := all_z (n := g 0) (by omega) (by omega)
  have hca := @card_all (g 0).toNat
  unfold rX11_proof rX12_proof vX11_proof vX12_proof mX12_proof fX11_proof fX12_proof
  rw [h.1.1.1]
  simp only [zl0, zl1] at hz ⊢
  rw [n00, hz]
  generalize hA : 2 ^ (g 0).toNat - 1 = A at *
  rcases tf (bdyZ g b) with c1 | c1
  · obtain ⟨eD, rD⟩ := y_owedSurely h hw hb (A : Int)
    obtain ⟨xD, qD⟩ := x_owedBy h3 hw hb (Or.inr rfl : (1 : Int) = 0 ∨ _) (A : Int)
    rw [ob_1] at xD
    rw [eD, xD]
    generalize hdue : zI (sumZ (swZ g b (A : Int)) (g 34).toNat) = due
    have hs1 := ST_it0 (B := 1) A (fun d n => lX11_proof n s (zI b) (zI (A : Int)) due (zI (pfF g b due A d : Int)) (zI (d : Int))) (fun d n => qX11_proof n s (zI b) (zI (A : Int)) due (zI (pfF g b due A d : Int)) (zI (d : Int))) (by
      intro d hd
      obtain ⟨e, r⟩ := y_owedSurely h hw hb (d : Int)
      have hb1 := pf_b g b due A d (by omega)
      show ST 1 _ _ (fun n => lX11_proof n s (zI b) (zI (A : Int)) due (zI (pfS g b due d (pfF g b due A d) : Nat)) (zI ((d + 1 : Nat) : Int))) (fun n => qX11_proof n s (zI b) (zI (A : Int)) due (zI (pfS g b due d (pfF g b due A d) : Nat)) (zI ((d + 1 : Nat) : Int)))
      generalize pfF g b due A d = x at *
      have hx : x < 512 := by omega
      have b1 := y_bits s hx
      have b2 := y_bits s (show d < 512 by omega)
      have c1 := card_b hx
      have c2 := card_b (show d < 512 by omega)
      have n1 : ((A : Int) ≤ (d : Int)) = False := eq_false (by omega)
      refine ⟨1, by decide, fun n => ?_⟩
      unfold pfS
      rcases tf (card x ≤ card d) with k0 | k0 <;> rcases tf (zI (sumZ (swZ g b (d : Int)) (g 34).toNat) = due) with k1 | k1 <;>
        simp (disch := omega) only [lX11_proof, qX11_proof, tX11_proof_41, uX11_proof_41, zl0, zl1, z_add, z_le, e, r, b1, b2, n1, k0, k1, Int.natCast_succ, Int.reduceAdd, Int.reduceSub, Int.reduceMul, Int.reduceNeg, Int.reduceLT, Int.reduceLE, Int.reduceToNat, Int.reduceEq, if_true, if_false, true_and, and_true, not_true, not_false_eq_true, false_implies, true_implies, imp_self, and_self, and_false, false_and, or_true, true_or, or_false, false_or, ite_self, implies_true])
    obtain ⟨e1, r1⟩ := ST_fu (ST_trans hs1 (ST_1 (F' := fun _ => zI (pfF g b due A A : Int)) (C' := fun _ => True) (fun n => by
      simp (disch := omega) only [lX11_proof, qX11_proof, tX11_proof_41, uX11_proof_41, zl0, zl1, z_le, Int.le_refl, if_true, if_false, true_and, and_true, not_true, not_false_eq_true, false_implies, true_implies, imp_self, and_self, and_false, false_and, or_true, true_or, or_false, false_or, ite_self, implies_true]))) (by omega)
    have hs2 := ST_it0 (B := 2) A (fun d n => (lX12_proof n).1 (Th s) (zI b) (zI (A : Int)) due (zI (pfF g b due A d : Int)) (zI (d : Int))) (fun d n => (qX12_proof n).1 (Th s) (zI b) (zI (A : Int)) due (zI (pfF g b due A d : Int)) (zI (d : Int))) (by
      intro d hd
      obtain ⟨e, r⟩ := x_owedBy h3 hw hb (Or.inr rfl : (1 : Int) = 0 ∨ _) (d : Int)
      rw [ob_1] at e
      have hb1 := pf_b g b due A d (by omega)
      show ST 2 _ _ (fun n => (lX12_proof n).1 (Th s) (zI b) (zI (A : Int)) due (zI (pfS g b due d (pfF g b due A d) : Nat)) (zI ((d + 1 : Nat) : Int))) (fun n => (qX12_proof n).1 (Th s) (zI b) (zI (A : Int)) due (zI (pfS g b due d (pfF g b due A d) : Nat)) (zI ((d + 1 : Nat) : Int)))
      generalize pfF g b due A d = x at *
      have hx : x < 512 := by omega
      obtain ⟨b1, q1⟩ := x_bits (Th s) hx
      obtain ⟨b2, q2⟩ := x_bits (Th s) (show d < 512 by omega)
      have c1 := card_b hx
      have c2 := card_b (show d < 512 by omega)
      have n1 : ((A : Int) < (d : Int)) = False := eq_false (by omega)
      have k3 : card d = card x → ((x : Int) ≤ (d : Int)) = True := fun hq => eq_true (by
        rcases hb1 with hb1 | hb1
        · have := (hca (m := d) (by omega) (by omega)).2 (by rw [hq, hb1])
          omega
        · omega)
      unfold pfS
      rcases tf (card d < card x) with k0 | k0
      · have k2 : (card x ≤ card d) = False := eq_false (by have := of_eq_true k0; omega)
        rcases tf (zI (sumZ (swZ g b (d : Int)) (g 34).toNat) = due) with k1 | k1
        all_goals
          (refine ⟨2, by decide, fun n => ?_⟩; dsimp only []; rw [show n + 2 = n + 1 + 1 from rfl]; rw [lpX12_proof_40 (n + 1), qpX12_proof_40 (n + 1)]; generalize hlK : lX12_proof (n + 1) = K; generalize hqK : qX12_proof (n + 1) = Q; simp (disch := omega) only [tX12_proof_40, uX12_proof_40, zl0, zl1, z_add, z_lt, z_le, z_eq, e, r, b1, b2, q1, q2, n1, k0, k2, k1, Int.natCast_succ, Int.reduceAdd, Int.reduceSub, Int.reduceMul, Int.reduceNeg, Int.reduceLT, Int.reduceLE, Int.reduceToNat, Int.reduceEq, if_true, if_false, true_and, and_true, not_true, not_false_eq_true, false_implies, true_implies, imp_self, and_self, and_false, false_and, or_true, true_or, or_false, false_or, ite_self, implies_true]; subst hlK hqK; rw [lpX12_proof_79 (n), qpX12_proof_79 (n)]; generalize hlK : lX12_proof (n) = K; generalize hqK : qX12_proof (n) = Q; simp (disch := omega) only [tX12_proof_79, uX12_proof_79, zl0, zl1, z_add, z_lt, z_le, z_eq, e, r, b1, b2, q1, q2, n1, k0, k2, k1, Int.natCast_succ, Int.reduceAdd, Int.reduceSub, Int.reduceMul, Int.reduceNeg, Int.reduceLT, Int.reduceLE, Int.reduceToNat, Int.reduceEq, if_true, if_false, true_and, and_true, not_true, not_false_eq_true, false_implies, true_implies, imp_self, and_self, and_false, false_and, or_true, true_or, or_false, false_or, ite_self, implies_true]; done)
      · have k2 : (card x ≤ card d) = True := eq_true (by have := of_eq_false k0; omega)
        refine ST_mono (B1 := 1) ?_ (by omega)
        rcases tf (card d = card x) with k1 | k1
        · have k4 := k3 (of_eq_true k1)
          (refine ⟨1, by decide, fun n => ?_⟩; dsimp only []; rw [lpX12_proof_40 (n), qpX12_proof_40 (n)]; generalize hlK : lX12_proof (n) = K; generalize hqK : qX12_proof (n) = Q; simp (disch := omega) only [tX12_proof_40, uX12_proof_40, zl0, zl1, z_add, z_lt, z_le, z_eq, e, r, b1, b2, q1, q2, n1, k0, k2, k1, Int.natCast_succ, Int.reduceAdd, Int.reduceSub, Int.reduceMul, Int.reduceNeg, Int.reduceLT, Int.reduceLE, Int.reduceToNat, Int.reduceEq, if_true, if_false, true_and, and_true, not_true, not_false_eq_true, false_implies, true_implies, imp_self, and_self, and_false, false_and, or_true, true_or, or_false, false_or, ite_self, implies_true, k4]; done)
        ·
          (refine ⟨1, by decide, fun n => ?_⟩; dsimp only []; rw [lpX12_proof_40 (n), qpX12_proof_40 (n)]; generalize hlK : lX12_proof (n) = K; generalize hqK : qX12_proof (n) = Q; simp (disch := omega) only [tX12_proof_40, uX12_proof_40, zl0, zl1, z_add, z_lt, z_le, z_eq, e, r, b1, b2, q1, q2, n1, k0, k2, k1, Int.natCast_succ, Int.reduceAdd, Int.reduceSub, Int.reduceMul, Int.reduceNeg, Int.reduceLT, Int.reduceLE, Int.reduceToNat, Int.reduceEq, if_true, if_false, true_and, and_true, not_true, not_false_eq_true, false_implies, true_implies, imp_self, and_self, and_false, false_and, or_true, true_or, or_false, false_or, ite_self, implies_true]; done)
      )
    have hlast : ST 2 (fun n => (lX12_proof n).1 (Th s) (zI b) (zI (A : Int)) due (zI (pfF g b due A A : Int)) (zI (A : Int))) (fun n => (qX12_proof n).1 (Th s) (zI b) (zI (A : Int)) due (zI (pfF g b due A A : Int)) (zI (A : Int))) (fun _ => (zI (pfF g b due A A : Int), Th s)) (fun _ => True) := by
      have hb1 := pf_b g b due A A (by omega)
      generalize pfF g b due A A = x at *
      have hx : x < 512 := by omega
      obtain ⟨b1, q1⟩ := x_bits (Th s) hx
      obtain ⟨b2, q2⟩ := x_bits (Th s) (show A < 512 by omega)
      have c1 := card_b hx
      have c2 := card_b (show A < 512 by omega)
      have hc := (hca (m := x) (by omega) (by omega)).1
      have n1 : ((A : Int) < (A : Int)) = False := eq_false (by omega)
      have n2 : ((A : Int) < (A : Int) + 1) = True := eq_true (by omega)
      have k0 : (card A < card x) = False := eq_false (by omega)
      have k4 : ((x : Int) ≤ (A : Int)) = True := eq_true (by omega)
      rcases tf (card A = card x) with k1 | k1
      all_goals
        (refine ⟨2, by decide, fun n => ?_⟩; dsimp only []; rw [show n + 2 = n + 1 + 1 from rfl]; rw [lpX12_proof_40 (n + 1), qpX12_proof_40 (n + 1)]; generalize hlK : lX12_proof (n + 1) = K; generalize hqK : qX12_proof (n + 1) = Q; simp (disch := omega) only [tX12_proof_40, uX12_proof_40, zl0, zl1, z_add, z_lt, z_le, z_eq, b1, b2, q1, q2, n1, n2, k0, k1, k4, Int.natCast_succ, Int.reduceAdd, Int.reduceSub, Int.reduceMul, Int.reduceNeg, Int.reduceLT, Int.reduceLE, Int.reduceToNat, Int.reduceEq, if_true, if_false, true_and, and_true, not_true, not_false_eq_true, false_implies, true_implies, imp_self, and_self, and_false, false_and, or_true, true_or, or_false, false_or, ite_self, implies_true]; subst hlK hqK; rw [lpX12_proof_40 (n), qpX12_proof_40 (n)]; generalize hlK : lX12_proof (n) = K; generalize hqK : qX12_proof (n) = Q; simp (disch := omega) only [tX12_proof_40, uX12_proof_40, zl0, zl1, z_add, z_lt, z_le, z_eq, b1, b2, q1, q2, n1, n2, k0, k1, k4, Int.natCast_succ, Int.reduceAdd, Int.reduceSub, Int.reduceMul, Int.reduceNeg, Int.reduceLT, Int.reduceLE, Int.reduceToNat, Int.reduceEq, if_true, if_false, true_and, and_true, not_true, not_false_eq_true, false_implies, true_implies, imp_self, and_self, and_false, false_and, or_true, true_or, or_false, false_or, ite_self, implies_true]; done)
    obtain ⟨e2, r2⟩ := ST_fu (ST_trans hs2 hlast) (by omega)
    simp only [show pfF g b due A 0 = A from rfl, Int.natCast_zero, Int.ofNat_zero, Int.cast_ofNat_Int] at e1 r1 e2 r2
    simp (disch := omega) only [y_hasBody h.1 hw hb, x_isBody h3 hw hb, c1, zl0, zl1, bI_T, bI_F, bI_z, z_eq, e1, r1, e2, r2, rD, qD, Int.reduceAdd, Int.reduceSub, Int.reduceMul, Int.reduceNeg, Int.reduceLT, Int.reduceLE, Int.reduceToNat, Int.reduceEq, if_true, if_false, true_and, and_true, not_true, not_false_eq_true, false_implies, true_implies, imp_self, and_self, and_false, false_and, or_true, true_or, or_false, false_or, ite_self, implies_true]
  · simp (disch := omega) only [y_hasBody h.1 hw hb, x_isBody h3 hw hb, c1, zl0, zl1, z_neg, bI_F, bI_z, z_eq, Int.reduceAdd, Int.reduceSub, Int.reduceMul, Int.reduceNeg, Int.reduceLT, Int.reduceLE, Int.reduceToNat, Int.reduceEq, if_true, if_false, true_and, and_true, not_true, not_false_eq_true, false_implies, true_implies, imp_self, and_self, and_false, false_and, or_true, true_or, or_false, false_or, ite_self, implies_true]
/-! witness -/
def wtS (g : Nat → Int) (d : Int) (S : Nat) (x : Int) : Int := if (x < 0 ∨ card S < card x.toNat) ∧ knZ g d S then S else x
def wtF (g : Nat → Int) (d : Int) (n : Nat) : Int := fold (wtS g d) n (-1)
theorem wt_b (g : Nat → Int) (d : Int) (n : Nat) : (wtF g d n = -1 ∧ ∀ S : Nat, S < n → ¬ knZ g d S) ∨ (0 ≤ wtF g d n ∧ wtF g d n < n ∧ knZ g d (wtF g d n) ∧ ∀ S : Nat, S < n → knZ g d S → card (wtF g d n).toNat ≤ card S ∧ (card (wtF g d n).toNat = card S → wtF g d n ≤ S)) := by
  induction n with
  | zero => left; exact ⟨rfl, fun S h => by omega⟩
  | succ n ih =>
    show (wtS g d n (wtF g d n) = -1 ∧ _) ∨ (0 ≤ wtS g d n (wtF g d n) ∧ wtS g d n (wtF g d n) < _ ∧ knZ g d (wtS g d n (wtF g d n)) ∧ ∀ S : Nat, S < n + 1 → knZ g d S → card (wtS g d n (wtF g d n)).toNat ≤ card S ∧ (card (wtS g d n (wtF g d n)).toNat = card S → wtS g d n (wtF g d n) ≤ S))
    generalize wtF g d n = x at *
    unfold wtS
    by_cases hk : knZ g d n
    · rcases ih with ⟨e, hn⟩ | ⟨h1, h2, h3, h4⟩
      · right
        rw [if_pos ⟨Or.inl (by omega), hk⟩]
        refine ⟨by omega, by omega, hk, fun S hS hkS => ?_⟩
        by_cases hSn : S = n
        · subst hSn; rw [Int.toNat_natCast]; exact ⟨Int.le_refl _, fun _ => Int.le_refl _⟩
        · exact absurd hkS (hn S (by omega))
      · right
        by_cases hc : card n < card x.toNat
        · rw [if_pos ⟨Or.inr hc, hk⟩]
          refine ⟨by omega, by omega, hk, fun S hS hkS => ?_⟩
          rw [Int.toNat_natCast]
          by_cases hSn : S = n
          · subst hSn; exact ⟨Int.le_refl _, fun _ => Int.le_refl _⟩
          · have := h4 S (by omega) hkS
            omega
        · rw [if_neg (fun hq => by rcases hq.1 with h | h <;> omega)]
          refine ⟨h1, by omega, h3, fun S hS hkS => ?_⟩
          by_cases hSn : S = n
          · subst hSn; omega
          · exact h4 S (by omega) hkS
    · rw [if_neg (fun hq => hk hq.2)]
      rcases ih with ⟨e, hn⟩ | ⟨h1, h2, h3, h4⟩
      · left
        refine ⟨e, fun S hS hkS => ?_⟩
        by_cases hSn : S = n
        · subst hSn; exact hk hkS
        · exact hn S (by omega) hkS
      · right
        refine ⟨h1, by omega, h3, fun S hS hkS => ?_⟩
        by_cases hSn : S = n
        · subst hSn; exact absurd hkS hk
        · exact h4 S (by omega) hkS
theorem wt_eq {g : Nat → Int} {d : Int} {n r : Nat} (hr : r < n) (hk : knZ g d r) (hm : ∀ S : Nat, S < n → knZ g d S → card r ≤ card S ∧ (card r = card S → r ≤ S)) : wtF g d n = r := by
  rcases wt_b g d n with ⟨e, h⟩ | ⟨h1, h2, h3, h4⟩
  · exact absurd hk (h r hr)
  · have a1 := h4 r hr hk
    have e : wtF g d n = ((wtF g d n).toNat : Int) := by omega
    rw [e] at h3
    have a2 := hm (wtF g d n).toNat (by omega) h3
    omega
theorem c1_all : ∀ c ∈ List.range 9, card (2 ^ c) = 1 ∧ ∀ x ∈ List.range 512, x.testBit c = true → 1 ≤ card x ∧ (card x = 1 → x = 2 ^ c) := by decide +kernel
theorem c2_all : ∀ c ∈ List.range 9, ∀ e ∈ List.range 9, c ≠ e → card (2 ^ c ||| 2 ^ e) = 2 ∧ ∀ x ∈ List.range 512, x.testBit c = true → x.testBit e = true → 2 ≤ card x ∧ (card x = 2 → x = 2 ^ c ||| 2 ^ e) := by decide +kernel
end
