-- needs: 42.qa
/-! sets as Nats below 512 -/
theorem zI_0 : (0 : Int32) = zI ((0 : Nat) : Int) := rfl
def lvN (g : Nat → Int) : Nat := (2 ^ (g 0).toNat - 1) &&& (511 ^^^ (g 36).toNat)
theorem lvN_all : ∀ n ∈ List.range 10, ∀ d ∈ List.range 512, (((1 : Int32) <<< (zI ((n : Nat) : Int) &&& 31)) - 1) &&& (zI ((d : Nat) : Int) ^^^ (-1)) = zI (((2 ^ n - 1) &&& (511 ^^^ d) : Nat) : Int) := by decide +kernel
theorem z_clr_all : ∀ m ∈ List.range 512, ∀ b ∈ List.range 9, zI ((m : Nat) : Int) &&& (((1 : Int32) <<< (zI ((b : Nat) : Int) &&& 31)) ^^^ (-1)) = zI ((m &&& (511 ^^^ 2 ^ b) : Nat) : Int) := by decide +kernel
theorem z_clr {m b : Nat} (hm : m < 512) (hb : b < 9) : zI (m : Int) &&& (((1 : Int32) <<< (zI (b : Int) &&& 31)) ^^^ (-1)) = zI ((m &&& (511 ^^^ 2 ^ b) : Nat) : Int) := z_clr_all m (List.mem_range.mpr hm) b (List.mem_range.mpr hb)
theorem lvI_N {g : Nat → Int} (hw : WF g) : lvI g = zI (lvN g : Int) := by
  have h0 := hw.w0
  have := lvN_all (g 0).toNat (List.mem_range.mpr (by omega)) (g 36).toNat (List.mem_range.mpr (by omega))
  rw [Int.toNat_of_nonneg h0.1.1, Int.toNat_of_nonneg h0.2.2.2.2.2.2.1] at this
  exact this
theorem lvN_lt (g : Nat → Int) : lvN g < 512 ∨ True := Or.inr trivial
theorem bit_b (b j : Nat) (hj : j < 9) : (511 ^^^ 2 ^ b).testBit j = !(decide (b = j)) := by
  rw [Nat.testBit_xor, Nat.testBit_two_pow, show (511 : Nat) = 2 ^ 9 - 1 from rfl, Nat.testBit_two_pow_sub_one, decide_eq_true hj]
  simp
theorem lvN_b {g : Nat → Int} (hw : WF g) : lvN g < 512 ∧ ∀ j : Nat, (lvN g).testBit j = true ↔ ((j : Int) < g 0 ∧ livZ g j) := by
  have h0 := hw.w0
  constructor
  · exact Nat.lt_of_le_of_lt Nat.and_le_left (by have : 2 ^ (g 0).toNat ≤ 2 ^ 9 := Nat.pow_le_pow_right (by omega) (by omega); omega)
  · intro j
    unfold lvN
    rw [Nat.testBit_and, Nat.testBit_two_pow_sub_one, Nat.testBit_xor]
    by_cases hj : j < (g 0).toNat
    · have h1 := hasZ_n (x := g 36) (b := j) (by omega) (by omega) (by omega) (by omega)
      rw [Int.toNat_natCast] at h1
      rw [decide_eq_true hj, show (511 : Nat) = 2 ^ 9 - 1 from rfl, Nat.testBit_two_pow_sub_one, decide_eq_true (by omega : j < 9), Bool.true_and]
      unfold livZ
      rw [h1]
      cases (g 36).toNat.testBit j <;> simp <;> omega
    · rw [decide_eq_false hj]
      simp only [Bool.false_and, Bool.false_eq_true, false_iff]
      intro hc; omega
/-- the least left of those with p: the first -/
def pkS (g : Nat → Int) (p : Int → Prop) [DecidablePred p] (b : Nat) (x : Int) : Int := if p b ∧ (x = -1 ∨ lefZ g b < lefZ g x) then b else x
def pk (g : Nat → Int) (p : Int → Prop) [DecidablePred p] (n : Nat) : Int := fold (pkS g p) n (-1)
theorem pk_b (g : Nat → Int) (p : Int → Prop) [DecidablePred p] (n : Nat) : (pk g p n = -1 ∧ ∀ b : Int, 0 ≤ b → b < n → ¬ p b) ∨ (0 ≤ pk g p n ∧ pk g p n < n ∧ p (pk g p n)) := by
  induction n with
  | zero => left; exact ⟨rfl, fun b h1 h2 => by omega⟩
  | succ n ih =>
    show (pkS g p n (pk g p n) = -1 ∧ _) ∨ (0 ≤ pkS g p n (pk g p n) ∧ pkS g p n (pk g p n) < _ ∧ p (pkS g p n (pk g p n)))
    unfold pkS
    by_cases hp : p n ∧ (pk g p n = -1 ∨ lefZ g n < lefZ g (pk g p n))
    · rw [if_pos hp]; right; exact ⟨by omega, by omega, hp.1⟩
    · rw [if_neg hp]
      rcases ih with ⟨e, h⟩ | ⟨h1, h2, h3⟩
      · left
        refine ⟨e, fun b h1 h2 hb => ?_⟩
        by_cases hbn : b = n
        · subst hbn; exact hp ⟨hb, Or.inl e⟩
        · exact h b h1 (by omega) hb
      · right; exact ⟨h1, by omega, h3⟩
theorem pk_c (g : Nat → Int) (p q : Int → Prop) [DecidablePred p] [DecidablePred q] (n : Nat) (h : ∀ b : Int, 0 ≤ b → b < n → (p b ↔ q b)) : pk g p n = pk g q n := by
  induction n with
  | zero => rfl
  | succ n ih =>
    show pkS g p n (pk g p n) = pkS g q n (pk g q n)
    rw [ih (fun b h1 h2 => h b h1 (by omega))]
    unfold pkS
    simp only [h n (by omega) (by omega)]
abbrev inS (S : Nat) (b : Int) : Prop := S.testBit b.toNat = true
def pkN (g : Nat → Int) (S : Nat) : Int := pk g (inS S) (g 0).toNat
/-- those who live and were not told yet -/
def fuS (g : Nat → Int) : Nat → Nat
  | 0 => lvN g
  | i + 1 => if pkN g (fuS g i) = -1 then fuS g i else fuS g i &&& (511 ^^^ 2 ^ (pkN g (fuS g i)).toNat)
/-- those told -/
def fuT (g : Nat → Int) : Nat → Nat
  | 0 => 0
  | i + 1 => if pkN g (fuS g i) = -1 then fuT g i else fuT g i ||| 2 ^ (pkN g (fuS g i)).toNat
def card (S : Nat) : Int := sumZ (fun b => if inS S b then 1 else 0) 9
theorem card_0 (S : Nat) (h : S < 512) (hc : card S ≤ 0) : S = 0 := by
  have : ∀ S ∈ List.range 512, card S ≤ 0 → S = 0 := by decide +kernel
  exact this S (List.mem_range.mpr h) hc
theorem card_9 (S : Nat) (h : S < 512) : card S ≤ 9 := by
  have := @sumZ_le (fun b => if inS S b then 1 else 0) 9 1 (fun d _ _ => by show (if _ then (1 : Int) else 0) ≤ 1; split <;> omega)
  exact this
theorem card_clr (S b : Nat) (h : S < 512) (hb : b < 9) (hs : S.testBit b = true) : card (S &&& (511 ^^^ 2 ^ b)) = card S - 1 := by
  have : ∀ S ∈ List.range 512, ∀ b ∈ List.range 9, S.testBit b = true → card (S &&& (511 ^^^ 2 ^ b)) = card S - 1 := by decide +kernel
  exact this S (List.mem_range.mpr h) b (List.mem_range.mpr hb) hs
theorem fuS_b {g : Nat → Int} (hw : WF g) (i : Nat) : fuS g i < 512 ∧ fuT g i < 512 ∧ (∀ j : Nat, (fuS g i).testBit j = true ↔ ((j : Int) < g 0 ∧ livZ g j ∧ ¬ (fuT g i).testBit j = true)) ∧ (card (fuS g i) + i ≤ 9 ∨ fuS g i = 0) := by
  have h0 := hw.w0
  induction i with
  | zero =>
    refine ⟨(lvN_b hw).1, by show (0 : Nat) < 512; omega, fun j => ?_, Or.inl ?_⟩
    · rw [show fuT g 0 = 0 from rfl, Nat.zero_testBit]
      rw [show fuS g 0 = lvN g from rfl, (lvN_b hw).2 j]
      simp
    · have := card_9 _ (lvN_b hw).1
      show card (lvN g) + 0 ≤ 9
      omega
  | succ i ih =>
    obtain ⟨s1, s2, s3, s4⟩ := ih
    unfold fuS fuT
    by_cases hq : pkN g (fuS g i) = -1
    · rw [if_pos hq, if_pos hq]
      refine ⟨s1, s2, s3, Or.inr ?_⟩
      rcases pk_b g (inS (fuS g i)) (g 0).toNat with ⟨e, h⟩ | ⟨h1, h2, h3⟩
      · refine Nat.eq_of_testBit_eq (fun j => ?_)
        rw [Nat.zero_testBit]
        cases hj : (fuS g i).testBit j with
        | false => rfl
        | true =>
          have := (s3 j).mp hj
          exact absurd (show inS (fuS g i) (j : Int) by unfold inS; rw [Int.toNat_natCast]; exact hj) (h j (by omega) (by omega))
      · unfold pkN at hq; omega
    · rw [if_neg hq, if_neg hq]
      rcases pk_b g (inS (fuS g i)) (g 0).toNat with ⟨e, h⟩ | ⟨h1, h2, h3⟩
      · exact absurd e hq
      · have hb : (pkN g (fuS g i)).toNat < 9 := by unfold pkN; omega
        refine ⟨Nat.lt_of_le_of_lt Nat.and_le_left s1, Nat.or_lt_two_pow (n := 9) s2 (Nat.pow_lt_pow_right (by omega) hb), fun j => ?_, ?_⟩
        · rw [Nat.testBit_and, Nat.testBit_or, Nat.testBit_two_pow]
          by_cases hj : j < 9
          · rw [bit_b _ _ hj]
            have := s3 j
            cases h7 : (fuS g i).testBit j <;> cases h8 : (fuT g i).testBit j <;> by_cases h9 : (pkN g (fuS g i)).toNat = j <;> simp only [h7, h8, h9] at this ⊢ <;> simp at this ⊢ <;> (try omega) <;> (try exact this)
          · have hj9 : 9 ≤ j := Nat.le_of_not_lt hj
            have h2j : 2 ^ 9 ≤ 2 ^ j := Nat.pow_le_pow_right (by decide) hj9
            have : (fuS g i).testBit j = false := Nat.testBit_lt_two_pow (Nat.lt_of_lt_of_le s1 h2j)
            rw [this]
            simp only [Bool.false_and, Bool.false_eq_true, false_iff]
            intro hc; omega
        · left
          rw [card_clr _ _ s1 hb h3]
          rcases s4 with s4 | s4
          · omega
          · rw [s4] at h3; unfold inS at h3; rw [Nat.zero_testBit] at h3; exact absurd h3 (by decide)
theorem fuS_9 {g : Nat → Int} (hw : WF g) : fuS g 9 = 0 := by
  obtain ⟨s1, s2, s3, s4⟩ := fuS_b hw 9
  rcases s4 with s4 | s4
  · exact card_0 _ s1 (by omega)
  · exact s4
theorem pkN_0 (g : Nat → Int) : pkN g 0 = -1 := by
  rcases pk_b g (inS 0) (g 0).toNat with ⟨e, h⟩ | ⟨h1, h2, h3⟩
  · exact e
  · unfold inS at h3; rw [Nat.zero_testBit] at h3; exact absurd h3 (by decide)
theorem fuS_0 {g : Nat → Int} {i : Nat} (h : fuS g i = 0) : ∀ k, fuS g (i + k) = 0 := by
  intro k
  induction k with
  | zero => exact h
  | succ k ih =>
    rw [← Nat.add_assoc]
    unfold fuS
    rw [ih, pkN_0, if_pos rfl]
def fzZ (g : Nat → Int) (k : Int) : Int := if 0 ≤ k ∧ k < 9 then pkN g (fuS g k.toNat) else -1
section
variable {s t : SM} {g : Nat → Int} {L P : Nat}
theorem pkN_b (g : Nat → Int) (S : Nat) : -1 ≤ pkN g S ∧ (pkN g S < g 0 ∨ pkN g S = -1) := by
  rcases pk_b g (inS S) (g 0).toNat with ⟨e, h⟩ | ⟨h1, h2, h3⟩ <;> unfold pkN <;> omega
theorem y_left (h : LdS s L g) {b : Int} (hb : bdyZ g b) (h9 : g 0 ≤ 9) : gI s (L + 7) (zI b).toNatClampNeg = zI (lefZ g b) := by
  rw [z_cl (by omega)]; exact (h.2.1 b hb).1
theorem y_leastLeft (h : LdR s L P g) (hw : WF g) (i : Nat) : vX4_leastLeft s L P (zI (fuT g i : Int)) = zI (pkN g (fuS g i)) ∧ rX4_leastLeft s L P (zI (fuT g i : Int)) := by
  have h0 := hw.w0
  have hN : ((g 0).toNat : Int) = g 0 := by omega
  obtain ⟨s1, s2, s3, -⟩ := fuS_b hw i
  have hit := ST_it0 (B := 1) (g 0).toNat (fun d n => lX4_leastLeft n s L P (zI (fuT g i : Int)) (zI (pk g (inS (fuS g i)) d)) (zI (d : Int))) (fun d n => qX4_leastLeft n s L P (zI (fuT g i : Int)) (zI (pk g (inS (fuS g i)) d)) (zI (d : Int))) (by
    intro d hd
    have hbd : bdyZ g d := by omega
    have l1 := y_lives (P := P) h.2 (d : Int)
    have l2 := y_left h.2 hbd (by omega)
    have lb := hw.lef hbd
    have hv := y_vb hw hbd
    have hT := hasZ_n (x := fuT g i) (b := d) (by omega) (by omega) (by omega) (by omega)
    simp only [Int.toNat_natCast] at hT
    have hS := s3 d
    have hn1 : (g 0 ≤ (d : Int)) = False := eq_false (by omega)
    have hI : inS (fuS g i) (d : Int) ↔ (livZ g d ∧ ¬ hasZ (fuT g i) d) := by
      unfold inS; rw [Int.toNat_natCast, hS, hT]; exact ⟨fun h => h.2, fun h => ⟨hbd.2, h⟩⟩
    have hp := pk_b g (inS (fuS g i)) d
    refine ⟨1, by decide, fun n => ?_⟩
    show _ = lX4_leastLeft n s L P (zI (fuT g i : Int)) (zI (pkS g (inS (fuS g i)) d (pk g (inS (fuS g i)) d))) (zI ((d + 1 : Nat) : Int)) ∧ (qX4_leastLeft n s L P (zI (fuT g i : Int)) (zI (pkS g (inS (fuS g i)) d (pk g (inS (fuS g i)) d))) (zI ((d + 1 : Nat) : Int)) → _)
    generalize hx : pk g (inS (fuS g i)) d = x at *
    have hxs : pkS g (inS (fuS g i)) d x = if livZ g d ∧ ¬ hasZ (fuT g i) d ∧ (x = -1 ∨ lefZ g d < lefZ g x) then (d : Int) else x := by
      unfold pkS
      by_cases h1 : livZ g d ∧ ¬ hasZ (fuT g i) d
      · simp only [hI, h1, true_and, and_true, not_false_eq_true]
      · rw [if_neg (fun hc => h1 (hI.mp hc.1)), if_neg (fun hc => h1 ⟨hc.1, hc.2.1⟩)]
    rw [hxs]
    rcases tf (livZ g d) with k0 | k0 <;> rcases tf (hasZ (fuT g i) d) with k1 | k1 <;> rcases tf (x = -1) with k2 | k2
    case inr.inr.inr | inl.inr.inr =>
      have hxb : bdyZ g x := by have := of_eq_false k2; omega
      have l3 := y_left h.2 hxb (by omega)
      have lb3 := hw.lef hxb
      have hv3 := y_vb hw hxb
      rcases tf (lefZ g d < lefZ g x) with k3 | k3 <;>
        simp (disch := omega) only [lX4_leastLeft, qX4_leastLeft, tX4_leastLeft_4, uX4_leastLeft_4, h.1.1.1, zl0, zl1, z_neg, z_add, z_lt, z_le, z_eq, l1, l2, l3, c_isIn, hv, hv3, k0, k1, k2, k3, hn1, ← Int.not_lt, bI_T, bI_F, bI_z, Int.natCast_succ, Int.reduceAdd, Int.reduceSub, Int.reduceMul, Int.reduceNeg, Int.reduceLT, Int.reduceLE, Int.reduceToNat, Int.reduceEq, if_true, if_false, true_and, and_true, not_true, not_false_eq_true, false_implies, true_implies, imp_self, and_self, and_false, false_and, or_true, true_or, or_false, false_or, ite_self, implies_true]
    all_goals simp (disch := omega) only [lX4_leastLeft, qX4_leastLeft, tX4_leastLeft_4, uX4_leastLeft_4, h.1.1.1, zl0, zl1, z_neg, z_add, z_lt, z_le, z_eq, l1, l2, c_isIn, hv, k0, k1, k2, hn1, bI_T, bI_F, bI_z, Int.natCast_succ, Int.reduceAdd, Int.reduceSub, Int.reduceMul, Int.reduceNeg, Int.reduceLT, Int.reduceLE, Int.reduceToNat, Int.reduceEq, if_true, if_false, true_and, and_true, not_true, not_false_eq_true, false_implies, true_implies, imp_self, and_self, and_false, false_and, or_true, true_or, or_false, false_or, ite_self, implies_true])
  obtain ⟨e1, r1⟩ := ST_fu (ST_trans hit (ST_1 (F' := fun _ => zI (pkN g (fuS g i))) (C' := fun _ => True) (fun n => by
    simp (disch := omega) only [lX4_leastLeft, qX4_leastLeft, tX4_leastLeft_4, uX4_leastLeft_4, h.1.1.1, zl0, zl1, z_le, hN, Int.le_refl, if_true, if_false, true_and, and_true, not_true, not_false_eq_true, false_implies, true_implies, imp_self, and_self, and_false, false_and, or_true, true_or, or_false, false_or, ite_self, implies_true]
    rfl))) (by omega)
  exact ⟨e1, r1⟩
theorem y_fullest (h : LdR s 31 5 g) (hw : WF g) {k : Int} (hk : IR k) : vX11_fullest s (zI k) = zI (fzZ g k) ∧ rX11_fullest s (zI k) := by
  have h0 := hw.w0
  unfold vX11_fullest rX11_fullest fX11_fullest
  by_cases hk0 : k < 0
  · have k1 : (k < 0) = True := eq_true hk0
    have k2 : (9 ≤ k) = False := eq_false (by omega)
    have hf : fzZ g k = -1 := by unfold fzZ; rw [if_neg (by omega)]
    rw [hf]
    obtain ⟨e, r⟩ := ST_fu (F := fun n => (lX11_fullest n).1 s (zI k) (zI 0) (zI (-1)) (zI 0)) (C := fun n => (qX11_fullest n).1 s (zI k) (zI 0) (zI (-1)) (zI 0)) (v := zI (-1)) (B := 2) (by
      (refine ⟨2, by decide, fun n => ?_⟩; dsimp only []; rw [show n + 2 = n + 1 + 1 from rfl]; rw [lpX11_fullest_7 (n + 1), qpX11_fullest_7 (n + 1)]; generalize hlK : lX11_fullest (n + 1) = K; generalize hqK : qX11_fullest (n + 1) = Q; simp (disch := omega) only [tX11_fullest_7, uX11_fullest_7, zl0, zl1, zl9, z_neg, z_lt, z_le, k1, k2, Int.reduceAdd, Int.reduceSub, Int.reduceMul, Int.reduceNeg, Int.reduceLT, Int.reduceLE, Int.reduceToNat, Int.reduceEq, if_true, if_false, true_and, and_true, not_true, not_false_eq_true, false_implies, true_implies, imp_self, and_self, and_false, false_and, or_true, true_or, or_false, false_or, ite_self, implies_true]; subst hlK hqK; rw [lpX11_fullest_50 (n), qpX11_fullest_50 (n)]; generalize hlK : lX11_fullest (n) = K; generalize hqK : qX11_fullest (n) = Q; simp (disch := omega) only [tX11_fullest_50, uX11_fullest_50, zl0, zl1, zl9, z_neg, z_lt, z_le, k1, k2, Int.reduceAdd, Int.reduceSub, Int.reduceMul, Int.reduceNeg, Int.reduceLT, Int.reduceLE, Int.reduceToNat, Int.reduceEq, if_true, if_false, true_and, and_true, not_true, not_false_eq_true, false_implies, true_implies, imp_self, and_self, and_false, false_and, or_true, true_or, or_false, false_or, ite_self, implies_true]; done)
      ) (by omega)
    exact ⟨e, r⟩
  · have hmin : ∃ N : Nat, ((N : Int) = k + 1 ∨ (N : Int) = 9) ∧ (N : Int) ≤ k + 1 ∧ N ≤ 9 := ⟨(min (k + 1) 9).toNat, by omega, by omega, by omega⟩
    obtain ⟨N, hN1, hN2, hN3⟩ := hmin
    have bs : ∀ d : Nat, ∃ x : Int, x = (if d = 0 then -1 else pkN g (fuS g (d - 1))) := fun d => ⟨_, rfl⟩
    have hit := ST_it0 (B := 1) N (fun d n => (lX11_fullest n).1 s (zI k) (zI (fuT g d : Int)) (zI (if d = 0 then -1 else pkN g (fuS g (d - 1)))) (zI (d : Int))) (fun d n => (qX11_fullest n).1 s (zI k) (zI (fuT g d : Int)) (zI (if d = 0 then -1 else pkN g (fuS g (d - 1)))) (zI (d : Int))) (by
      intro d hd
      obtain ⟨e, r⟩ := y_leastLeft h hw d
      obtain ⟨s1, s2, s3, -⟩ := fuS_b hw d
      have pb := pkN_b g (fuS g d)
      have n1 : (k < (d : Int)) = False := eq_false (by omega)
      have n2 : (9 ≤ (d : Int)) = False := eq_false (by omega)
      rw [if_neg (by omega : ¬ d + 1 = 0), Nat.add_sub_cancel]
      generalize hbb : (if d = 0 then -1 else pkN g (fuS g (d - 1))) = bb
      have hT : zI (fuT g (d + 1) : Int) = zI (fuT g d : Int) ||| (if pkN g (fuS g d) = -1 then zI 0 else ((1 : Int32) <<< (zI (pkN g (fuS g d)) &&& 31))) := by
        show zI ((if pkN g (fuS g d) = -1 then fuT g d else fuT g d ||| 2 ^ (pkN g (fuS g d)).toNat : Nat) : Int) = _
        by_cases hq : pkN g (fuS g d) = -1
        · rw [if_pos hq, if_pos hq, i_or0]
        · rw [if_neg hq, if_neg hq]
          have := zN_shl (pkN g (fuS g d)).toNat (by omega)
          rw [Int.toNat_of_nonneg (by omega)] at this
          rw [this, zN_or]
      rw [hT]
      (refine ⟨1, by decide, fun n => ?_⟩; dsimp only []; rw [lpX11_fullest_7 (n), qpX11_fullest_7 (n)]; generalize hlK : lX11_fullest (n) = K; generalize hqK : qX11_fullest (n) = Q; simp (disch := omega) only [tX11_fullest_7, uX11_fullest_7, zl0, zl1, zl9, z_neg, z_add, z_lt, z_le, z_eq, e, r, n1, n2, Int.natCast_succ, Int.reduceAdd, Int.reduceSub, Int.reduceMul, Int.reduceNeg, Int.reduceLT, Int.reduceLE, Int.reduceToNat, Int.reduceEq, if_true, if_false, true_and, and_true, not_true, not_false_eq_true, false_implies, true_implies, imp_self, and_self, and_false, false_and, or_true, true_or, or_false, false_or, ite_self, implies_true]; done)
      )
    have hbN : (if N = 0 then (-1 : Int) else pkN g (fuS g (N - 1))) = pkN g (fuS g (N - 1)) := by rw [if_neg (by omega)]
    rw [hbN] at hit
    have hfin : (if 9 ≤ k then zI (-1) else zI (pkN g (fuS g (N - 1)))) = zI (fzZ g k) := by
      unfold fzZ
      by_cases hk9 : 9 ≤ k
      · rw [if_pos hk9, if_neg (by omega)]
      · rw [if_neg hk9, if_pos (by omega), show N - 1 = k.toNat by omega]
    obtain ⟨e, r⟩ := ST_fu (v := zI (fzZ g k)) (ST_trans (B2 := 2) hit (by
      rw [← hfin]
      have n1 : (k < (N : Int)) = ¬ (9 ≤ k ∧ (N : Int) = 9) := propext ⟨fun hc => by omega, fun hc => by omega⟩
      rcases tf (9 ≤ k) with n2 | n2 <;> rcases tf ((N : Int) = 9) with n3 | n3 <;>
        have n4 : (9 ≤ (N : Int)) = ((N : Int) = 9) := propext ⟨fun hc => by omega, fun hc => by omega⟩
      all_goals
        (refine ⟨2, by decide, fun n => ?_⟩; dsimp only []; rw [show n + 2 = n + 1 + 1 from rfl]; rw [lpX11_fullest_7 (n + 1), qpX11_fullest_7 (n + 1)]; generalize hlK : lX11_fullest (n + 1) = K; generalize hqK : qX11_fullest (n + 1) = Q; simp (disch := omega) only [tX11_fullest_7, uX11_fullest_7, zl0, zl1, zl9, z_neg, z_add, z_lt, z_le, z_eq, n1, n2, n3, n4, Int.reduceAdd, Int.reduceSub, Int.reduceMul, Int.reduceNeg, Int.reduceLT, Int.reduceLE, Int.reduceToNat, Int.reduceEq, if_true, if_false, true_and, and_true, not_true, not_false_eq_true, false_implies, true_implies, imp_self, and_self, and_false, false_and, or_true, true_or, or_false, false_or, ite_self, implies_true]; subst hlK hqK; rw [lpX11_fullest_50 (n), qpX11_fullest_50 (n)]; generalize hlK : lX11_fullest (n) = K; generalize hqK : qX11_fullest (n) = Q; simp (disch := omega) only [tX11_fullest_50, uX11_fullest_50, zl0, zl1, zl9, z_neg, z_add, z_lt, z_le, z_eq, n1, n2, n3, n4, Int.reduceAdd, Int.reduceSub, Int.reduceMul, Int.reduceNeg, Int.reduceLT, Int.reduceLE, Int.reduceToNat, Int.reduceEq, if_true, if_false, true_and, and_true, not_true, not_false_eq_true, false_implies, true_implies, imp_self, and_self, and_false, false_and, or_true, true_or, or_false, false_or, ite_self, implies_true]; done)
      )) (by omega)
    exact ⟨e, r⟩
def stFU (g : Nat → Int) (k : Int) (i : Nat) (a : Unit) : Int32 ⊕ Unit := if fuS g i = 0 then .inl (zI (-1)) else if (i : Int) = k then .inl (zI (pkN g (fuS g i))) else .inr a
theorem fu_run (hw : WF g) {k : Int} (hk : 0 ≤ k) : ∀ r i : Nat, i + r = 9 → ((i : Int) ≤ k) → run (stFU g k) (fun _ => zI (-1)) r i () = zI (fzZ g k) := by
  intro r
  induction r with
  | zero =>
    intro i h1 h2
    show zI (-1) = _
    unfold fzZ
    rw [if_neg (by omega)]
  | succ r ih =>
    intro i h1 h2
    unfold run stFU
    by_cases q0 : fuS g i = 0
    · rw [if_pos q0]
      show zI (-1) = _
      unfold fzZ
      by_cases k9 : k < 9
      · have := fuS_0 q0 (k.toNat - i)
        rw [show i + (k.toNat - i) = k.toNat by omega] at this
        rw [if_pos ⟨hk, k9⟩, this, pkN_0]
      · rw [if_neg (by omega)]
    · rw [if_neg q0]
      by_cases q1 : (i : Int) = k
      · rw [if_pos q1]
        show zI _ = _
        unfold fzZ
        rw [if_pos (by omega), show k.toNat = i by omega]
      · rw [if_neg q1]
        exact ih (i + 1) (by omega) (by omega)
theorem x_fu_in (h : RR s g) (hw : WF g) (k : Int32) (i : Nat) : ST 9 (fun n => (lX12_fullest n).2 s k (zI (fuS g i : Int)) (zI (i : Int)) (zI (-1)) (zI 0)) (fun n => (qX12_fullest n).2 s k (zI (fuS g i : Int)) (zI (i : Int)) (zI (-1)) (zI 0)) (fun n => (lX12_fullest n).2 s k (zI (fuS g i : Int)) (zI (i : Int)) (zI (pkN g (fuS g i))) (zI (g 0))) (fun n => (qX12_fullest n).2 s k (zI (fuS g i : Int)) (zI (i : Int)) (zI (pkN g (fuS g i))) (zI (g 0))) := by
  have h0 := hw.w0
  have hN : ((g 0).toNat : Int) = g 0 := by omega
  have n00 : gI s 250 (zI 0).toNatClampNeg = zI (g 0) := h 0
  obtain ⟨s1, s2, s3, -⟩ := fuS_b hw i
  have hit := ST_it0 (B := 1) (g 0).toNat (fun d n => (lX12_fullest n).2 s k (zI (fuS g i : Int)) (zI (i : Int)) (zI (pk g (inS (fuS g i)) d)) (zI (d : Int))) (fun d n => (qX12_fullest n).2 s k (zI (fuS g i : Int)) (zI (i : Int)) (zI (pk g (inS (fuS g i)) d)) (zI (d : Int))) (by
    intro d hd
    have hbd : bdyZ g d := by omega
    obtain ⟨l2, r2⟩ := x_leftOf h hw hbd
    have lb := hw.lef hbd
    have hS := hasZ_n (x := fuS g i) (b := d) (by omega) (by omega) (by omega) (by omega)
    simp only [Int.toNat_natCast] at hS
    have hn1 : (g 0 ≤ (d : Int)) = False := eq_false (by omega)
    have hp := pk_b g (inS (fuS g i)) d
    show ST 1 _ _ (fun n => (lX12_fullest n).2 s k (zI (fuS g i : Int)) (zI (i : Int)) (zI (pkS g (inS (fuS g i)) d (pk g (inS (fuS g i)) d))) (zI ((d + 1 : Nat) : Int))) (fun n => (qX12_fullest n).2 s k (zI (fuS g i : Int)) (zI (i : Int)) (zI (pkS g (inS (fuS g i)) d (pk g (inS (fuS g i)) d))) (zI ((d + 1 : Nat) : Int)))
    generalize hx : pk g (inS (fuS g i)) d = x at *
    have hxs : pkS g (inS (fuS g i)) d x = if hasZ (fuS g i) d ∧ (x = -1 ∨ lefZ g d < lefZ g x) then (d : Int) else x := by
      unfold pkS inS
      simp only [Int.toNat_natCast, hS]
    rw [hxs]
    have hx1 : (x < 0) = (x = -1) := propext ⟨fun hc => by omega, fun hc => by omega⟩
    rcases tf (hasZ (fuS g i) d) with k1 | k1 <;> rcases tf (x = -1) with k2 | k2
    case inl.inr =>
      have hxb : bdyZ g x := by have := of_eq_false k2; omega
      obtain ⟨l3, r3⟩ := x_leftOf h hw hxb
      have lb3 := hw.lef hxb
      rcases tf (lefZ g d < lefZ g x) with k3 | k3
      all_goals
        (refine ⟨1, by decide, fun n => ?_⟩; dsimp only []; rw [lpX12_fullest_28 (n), qpX12_fullest_28 (n)]; generalize hlK : lX12_fullest (n) = K; generalize hqK : qX12_fullest (n) = Q; simp (disch := omega) only [tX12_fullest_28, uX12_fullest_28, l3, r3, k3, ← Int.not_lt, n00, zl0, zl1, z_neg, z_add, z_lt, z_le, z_eq, l2, r2, x_has, k1, k2, hx1, hn1, bI_T, bI_F, bI_z, Int.natCast_succ, Int.reduceAdd, Int.reduceSub, Int.reduceMul, Int.reduceNeg, Int.reduceLT, Int.reduceLE, Int.reduceToNat, Int.reduceEq, if_true, if_false, true_and, and_true, not_true, not_false_eq_true, false_implies, true_implies, imp_self, and_self, and_false, false_and, or_true, true_or, or_false, false_or, ite_self, implies_true]; done)
    all_goals
      (refine ⟨1, by decide, fun n => ?_⟩; dsimp only []; rw [lpX12_fullest_28 (n), qpX12_fullest_28 (n)]; generalize hlK : lX12_fullest (n) = K; generalize hqK : qX12_fullest (n) = Q; simp (disch := omega) only [tX12_fullest_28, uX12_fullest_28, n00, zl0, zl1, z_neg, z_add, z_lt, z_le, z_eq, l2, r2, x_has, k1, k2, hx1, hn1, bI_T, bI_F, bI_z, Int.natCast_succ, Int.reduceAdd, Int.reduceSub, Int.reduceMul, Int.reduceNeg, Int.reduceLT, Int.reduceLE, Int.reduceToNat, Int.reduceEq, if_true, if_false, true_and, and_true, not_true, not_false_eq_true, false_implies, true_implies, imp_self, and_self, and_false, false_and, or_true, true_or, or_false, false_or, ite_self, implies_true]; done)
    )
  simp only [hN] at hit
  exact ST_mono hit (by omega)
theorem x_fu_l (h : RR s g) (hw : WF g) {k : Int} (hk : IR k) : (lX12_fullest FU).1 s (zI k) (zI (fuS g 0 : Int)) (zI 0) = (run (stFU g k) (fun _ => zI (-1)) 9 0 (), s) ∧ (qX12_fullest FU).1 s (zI k) (zI (fuS g 0 : Int)) (zI 0) := by
  have h0 := hw.w0
  have n00 : gI s 250 (zI 0).toNatClampNeg = zI (g 0) := h 0
  have hs := ST_run (B := 11) 9 (stFU g k) (fun _ => zI (-1)) (fun v => (v, s)) (fun d a n => (lX12_fullest n).1 s (zI k) (zI (fuS g d : Int)) (zI (d : Int))) (fun d a n => (qX12_fullest n).1 s (zI k) (zI (fuS g d : Int)) (zI (d : Int))) (by
    intro i a hi
    have hin := x_fu_in h hw (zI k) i
    obtain ⟨s1, s2, s3, -⟩ := fuS_b hw i
    have pb := pkN_b g (fuS g i)
    unfold stFU
    by_cases q0 : fuS g i = 0
    · rw [if_pos q0]
      refine ST_mono (B1 := 1) ?_ (by omega)
      rw [q0]
      (refine ⟨1, by decide, fun n => ?_⟩; dsimp only []; rw [lpX12_fullest_18 (n), qpX12_fullest_18 (n)]; generalize hlK : lX12_fullest (n) = K; generalize hqK : qX12_fullest (n) = Q; simp (disch := omega) only [tX12_fullest_18, uX12_fullest_18, zl0, zl1, z_neg, z_eq, zI_0, Int.ofNat_zero, Int.natCast_zero, Int.reduceAdd, Int.reduceSub, Int.reduceMul, Int.reduceNeg, Int.reduceLT, Int.reduceLE, Int.reduceToNat, Int.reduceEq, if_true, if_false, true_and, and_true, not_true, not_false_eq_true, false_implies, true_implies, imp_self, and_self, and_false, false_and, or_true, true_or, or_false, false_or, ite_self, implies_true]; done)
    · rw [if_neg q0]
      have q0p : ((fuS g i : Int) = 0) = False := eq_false (by omega)
      have t1 : ST 1 (fun n => (lX12_fullest n).1 s (zI k) (zI (fuS g i : Int)) (zI (i : Int))) (fun n => (qX12_fullest n).1 s (zI k) (zI (fuS g i : Int)) (zI (i : Int))) (fun n => (lX12_fullest n).2 s (zI k) (zI (fuS g i : Int)) (zI (i : Int)) (zI (-1)) (zI 0)) (fun n => (qX12_fullest n).2 s (zI k) (zI (fuS g i : Int)) (zI (i : Int)) (zI (-1)) (zI 0)) := by
        (refine ⟨1, by decide, fun n => ?_⟩; dsimp only []; rw [lpX12_fullest_18 (n), qpX12_fullest_18 (n)]; generalize hlK : lX12_fullest (n) = K; generalize hqK : qX12_fullest (n) = Q; simp (disch := omega) only [tX12_fullest_18, uX12_fullest_18, zl0, zl1, z_neg, z_eq, q0p, Int.reduceAdd, Int.reduceSub, Int.reduceMul, Int.reduceNeg, Int.reduceLT, Int.reduceLE, Int.reduceToNat, Int.reduceEq, if_true, if_false, true_and, and_true, not_true, not_false_eq_true, false_implies, true_implies, imp_self, and_self, and_false, false_and, or_true, true_or, or_false, false_or, ite_self, implies_true]; done)
      by_cases q1 : (i : Int) = k
      · rw [if_pos q1]
        refine ST_mono (ST_trans t1 (ST_trans hin (B2 := 1) ?_)) (by omega)
        have q1p : ((i : Int) = k) = True := eq_true q1
        (refine ⟨1, by decide, fun n => ?_⟩; dsimp only []; rw [lpX12_fullest_28 (n), qpX12_fullest_28 (n)]; generalize hlK : lX12_fullest (n) = K; generalize hqK : qX12_fullest (n) = Q; simp (disch := omega) only [tX12_fullest_28, uX12_fullest_28, n00, zl0, zl1, z_neg, z_le, z_eq, q1p, Int.le_refl, Int.reduceAdd, Int.reduceSub, Int.reduceMul, Int.reduceNeg, Int.reduceLT, Int.reduceLE, Int.reduceToNat, Int.reduceEq, if_true, if_false, true_and, and_true, not_true, not_false_eq_true, false_implies, true_implies, imp_self, and_self, and_false, false_and, or_true, true_or, or_false, false_or, ite_self, implies_true]; done)
      · rw [if_neg q1]
        refine ST_mono (ST_trans t1 (ST_trans hin (B2 := 1) ?_)) (by omega)
        have q1p : ((i : Int) = k) = False := eq_false q1
        have hne : ¬ pkN g (fuS g i) = -1 := by
          intro hc
          rcases pk_b g (inS (fuS g i)) (g 0).toNat with ⟨e, hall⟩ | ⟨h1, h2, h3⟩
          · apply q0
            refine Nat.eq_of_testBit_eq (fun j => ?_)
            rw [Nat.zero_testBit]
            cases hj : (fuS g i).testBit j with
            | false => rfl
            | true =>
              have := (s3 j).mp hj
              exact absurd (show inS (fuS g i) (j : Int) by unfold inS; rw [Int.toNat_natCast]; exact hj) (hall j (by omega) (by omega))
          · unfold pkN at hc; omega
        have hS : zI (fuS g i : Int) &&& (((1 : Int32) <<< (zI (pkN g (fuS g i)) &&& 31)) ^^^ (-1)) = zI (fuS g (i + 1) : Int) := by
          have := z_clr (m := fuS g i) (b := (pkN g (fuS g i)).toNat) s1 (by omega)
          rw [Int.toNat_of_nonneg (by omega)] at this
          rw [this]
          show _ = zI ((if pkN g (fuS g i) = -1 then fuS g i else fuS g i &&& (511 ^^^ 2 ^ (pkN g (fuS g i)).toNat) : Nat) : Int)
          rw [if_neg hne]
        simp only [zl1, z_neg] at hS
        (refine ⟨1, by decide, fun n => ?_⟩; dsimp only []; rw [lpX12_fullest_28 (n), qpX12_fullest_28 (n)]; generalize hlK : lX12_fullest (n) = K; generalize hqK : qX12_fullest (n) = Q; simp (disch := omega) only [tX12_fullest_28, uX12_fullest_28, n00, zl0, zl1, z_neg, z_add, z_le, z_eq, q1p, hS, Int.le_refl, Int.natCast_succ, Int.reduceAdd, Int.reduceSub, Int.reduceMul, Int.reduceNeg, Int.reduceLT, Int.reduceLE, Int.reduceToNat, Int.reduceEq, if_true, if_false, true_and, and_true, not_true, not_false_eq_true, false_implies, true_implies, imp_self, and_self, and_false, false_and, or_true, true_or, or_false, false_or, ite_self, implies_true]; done)
    ) (by
    intro a
    refine ST_mono (B1 := 1) ?_ (by omega)
    rw [fuS_9 hw]
    (refine ⟨1, by decide, fun n => ?_⟩; dsimp only []; rw [lpX12_fullest_18 (n), qpX12_fullest_18 (n)]; generalize hlK : lX12_fullest (n) = K; generalize hqK : qX12_fullest (n) = Q; simp (disch := omega) only [tX12_fullest_18, uX12_fullest_18, zl0, zl1, z_neg, z_eq, zI_0, Int.ofNat_zero, Int.natCast_zero, Int.reduceAdd, Int.reduceSub, Int.reduceMul, Int.reduceNeg, Int.reduceLT, Int.reduceLE, Int.reduceToNat, Int.reduceEq, if_true, if_false, true_and, and_true, not_true, not_false_eq_true, false_implies, true_implies, imp_self, and_self, and_false, false_and, or_true, true_or, or_false, false_or, ite_self, implies_true]; done)
    ) 9 0 () (by omega)
  exact ST_fu hs (by omega)
theorem q_fullest (h : LdR s 31 5 g) (h2 : RR s g) (hw : WF g) (a1 : Int32) : rX11_fullest s a1 ∧ rX12_fullest s a1 ∧ vX11_fullest s a1 = vX12_fullest s a1 ∧ mX12_fullest s a1 = Th s := by
  obtain ⟨k, hk, rfl⟩ := z_ex a1
  have h3 := Th_R h2
  obtain ⟨e2, r2⟩ := y_fullest h hw hk
  obtain ⟨e1, r1⟩ := x_fu_l h3 hw hk
  have e4 : vX12_living (Th s) = zI (fuS g 0 : Int) := by
    rw [x_living h3]
    show zI (lvI g).toInt = _
    rw [zI_tI, lvI_N hw]
    rfl
  refine ⟨r2, ?_⟩
  rw [e2]
  unfold rX12_fullest vX12_fullest mX12_fullest fX12_fullest
  rcases tf (0 ≤ k) with c1 | c1
  · have e3 := fu_run hw (of_eq_true c1) 9 0 (by omega) (by have := of_eq_true c1; omega)
    rw [e3] at e1
    simp (disch := omega) only [zl0, zl1, z_neg, z_le, c1, e4, e1, r1, Int.reduceAdd, Int.reduceSub, Int.reduceMul, Int.reduceNeg, Int.reduceLT, Int.reduceLE, Int.reduceToNat, Int.reduceEq, if_true, if_false, true_and, and_true, not_true, not_false_eq_true, false_implies, true_implies, imp_self, and_self, and_false, false_and, or_true, true_or, or_false, false_or, ite_self, implies_true]
  · have e5 : fzZ g k = -1 := by unfold fzZ; rw [if_neg (by have := of_eq_false c1; omega)]
    simp (disch := omega) only [zl0, zl1, z_neg, z_le, c1, e5, Int.reduceAdd, Int.reduceSub, Int.reduceMul, Int.reduceNeg, Int.reduceLT, Int.reduceLE, Int.reduceToNat, Int.reduceEq, if_true, if_false, true_and, and_true, not_true, not_false_eq_true, false_implies, true_implies, imp_self, and_self, and_false, false_and, or_true, true_or, or_false, false_or, ite_self, implies_true]
end
