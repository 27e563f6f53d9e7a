/-! numbers: every Int32 here is zI of an Int -/
def zI (x : Int) : Int32 := Int32.ofInt x
abbrev IR (x : Int) : Prop := -2147483648 ≤ x ∧ x < 2147483648
theorem zI_tI (x : Int32) : zI x.toInt = x := Int32.ofInt_toInt x
theorem IR_tI (x : Int32) : IR x.toInt := by
  have h1 := Int32.le_toInt x
  have h2 := Int32.toInt_lt x
  omega
theorem tI_zI {x : Int} (h : IR x) : (zI x).toInt = x := Int32.toInt_ofInt_of_le h.1 h.2
theorem z_ex (x : Int32) : ∃ a, IR a ∧ x = zI a := ⟨x.toInt, IR_tI x, (zI_tI x).symm⟩
theorem z_add (a b : Int) : zI a + zI b = zI (a + b) := (Int32.ofInt_add a b).symm
theorem z_sub (a b : Int) : zI a - zI b = zI (a - b) := (Int32.ofInt_sub a b).symm
theorem z_mul (a b : Int) : zI a * zI b = zI (a * b) := (Int32.ofInt_mul a b).symm
theorem z_neg (a : Int) : -zI a = zI (-a) := (Int32.ofInt_neg a).symm
theorem z_cl {a : Int} (h : IR a) : (zI a).toNatClampNeg = a.toNat := Int32.toNatClampNeg_ofInt_of_le h.1 h.2
theorem z_lt {a b : Int} (ha : IR a) (hb : IR b) : zI a < zI b ↔ a < b := by rw [Int32.lt_iff_toInt_lt, tI_zI ha, tI_zI hb]
theorem z_le {a b : Int} (ha : IR a) (hb : IR b) : zI a ≤ zI b ↔ a ≤ b := by rw [Int32.le_iff_toInt_le, tI_zI ha, tI_zI hb]
theorem z_eq {a b : Int} (ha : IR a) (hb : IR b) : zI a = zI b ↔ a = b := by rw [← Int32.toInt_inj, tI_zI ha, tI_zI hb]
theorem z_in {a : Int} (h : IR a) (n : Nat) : vp_in (zI a) n ↔ 0 ≤ a ∧ a < n := by
  unfold vp_in
  rw [show (0 : Int32) = zI 0 from rfl, z_lt h (by omega), z_cl h]
  omega
theorem z_div {a b : Int} (ha : IR a) (hb : IR b) (h : b ≠ -1) : zI a / zI b = zI (a.tdiv b) := by
  unfold zI
  rw [Int32.ofInt_tdiv] <;> first | (have := ha.1; have := ha.2; have := hb.1; have := hb.2; simp [Int32.minValue, Int32.maxValue] <;> omega) | skip
theorem z_mod {a b : Int} (ha : IR a) (hb : IR b) : zI a % zI b = zI (a.tmod b) := by
  unfold zI
  rw [Int32.ofInt_tmod] <;> first | (have := ha.1; have := ha.2; have := hb.1; have := hb.2; simp [Int32.minValue, Int32.maxValue] <;> omega) | skip
theorem zl0 : (0 : Int32) = zI 0 := rfl
theorem zl1 : (1 : Int32) = zI 1 := rfl
theorem zl2 : (2 : Int32) = zI 2 := rfl
theorem zl3 : (3 : Int32) = zI 3 := rfl
theorem zl4 : (4 : Int32) = zI 4 := rfl
theorem zl5 : (5 : Int32) = zI 5 := rfl
theorem zl6 : (6 : Int32) = zI 6 := rfl
theorem zl7 : (7 : Int32) = zI 7 := rfl
theorem zl8 : (8 : Int32) = zI 8 := rfl
theorem zl9 : (9 : Int32) = zI 9 := rfl
theorem zl10 : (10 : Int32) = zI 10 := rfl
theorem zl11 : (11 : Int32) = zI 11 := rfl
theorem zl12 : (12 : Int32) = zI 12 := rfl
theorem zl13 : (13 : Int32) = zI 13 := rfl
theorem zl14 : (14 : Int32) = zI 14 := rfl
theorem zl15 : (15 : Int32) = zI 15 := rfl
theorem zl16 : (16 : Int32) = zI 16 := rfl
theorem zl17 : (17 : Int32) = zI 17 := rfl
theorem zl18 : (18 : Int32) = zI 18 := rfl
theorem zl19 : (19 : Int32) = zI 19 := rfl
theorem zl20 : (20 : Int32) = zI 20 := rfl
theorem zl21 : (21 : Int32) = zI 21 := rfl
theorem zl22 : (22 : Int32) = zI 22 := rfl
theorem zl23 : (23 : Int32) = zI 23 := rfl
theorem zl24 : (24 : Int32) = zI 24 := rfl
theorem zl25 : (25 : Int32) = zI 25 := rfl
theorem zl26 : (26 : Int32) = zI 26 := rfl
theorem zl27 : (27 : Int32) = zI 27 := rfl
theorem zl28 : (28 : Int32) = zI 28 := rfl
theorem zl29 : (29 : Int32) = zI 29 := rfl
theorem zl30 : (30 : Int32) = zI 30 := rfl
theorem zl31 : (31 : Int32) = zI 31 := rfl
theorem zl32 : (32 : Int32) = zI 32 := rfl
theorem zl33 : (33 : Int32) = zI 33 := rfl
theorem zl34 : (34 : Int32) = zI 34 := rfl
theorem zl35 : (35 : Int32) = zI 35 := rfl
theorem zl36 : (36 : Int32) = zI 36 := rfl
theorem zl37 : (37 : Int32) = zI 37 := rfl
theorem zl38 : (38 : Int32) = zI 38 := rfl
theorem zl39 : (39 : Int32) = zI 39 := rfl
theorem zl40 : (40 : Int32) = zI 40 := rfl
theorem zl41 : (41 : Int32) = zI 41 := rfl
theorem zl42 : (42 : Int32) = zI 42 := rfl
theorem zl43 : (43 : Int32) = zI 43 := rfl
theorem zl44 : (44 : Int32) = zI 44 := rfl
theorem zl45 : (45 : Int32) = zI 45 := rfl
theorem zl46 : (46 : Int32) = zI 46 := rfl
theorem zl47 : (47 : Int32) = zI 47 := rfl
theorem zl48 : (48 : Int32) = zI 48 := rfl
theorem zl49 : (49 : Int32) = zI 49 := rfl
theorem zl50 : (50 : Int32) = zI 50 := rfl
theorem zl51 : (51 : Int32) = zI 51 := rfl
theorem zl52 : (52 : Int32) = zI 52 := rfl
theorem zl53 : (53 : Int32) = zI 53 := rfl
theorem zl54 : (54 : Int32) = zI 54 := rfl
theorem zl55 : (55 : Int32) = zI 55 := rfl
theorem zl56 : (56 : Int32) = zI 56 := rfl
theorem zl57 : (57 : Int32) = zI 57 := rfl
theorem zl58 : (58 : Int32) = zI 58 := rfl
theorem zl59 : (59 : Int32) = zI 59 := rfl
theorem zl60 : (60 : Int32) = zI 60 := rfl
theorem zl61 : (61 : Int32) = zI 61 := rfl
theorem zl62 : (62 : Int32) = zI 62 := rfl
theorem zl63 : (63 : Int32) = zI 63 := rfl
theorem zl64 : (64 : Int32) = zI 64 := rfl
theorem zl65 : (65 : Int32) = zI 65 := rfl
theorem zl66 : (66 : Int32) = zI 66 := rfl
theorem zl67 : (67 : Int32) = zI 67 := rfl
theorem zl68 : (68 : Int32) = zI 68 := rfl
theorem zl69 : (69 : Int32) = zI 69 := rfl
theorem zl70 : (70 : Int32) = zI 70 := rfl
theorem zl71 : (71 : Int32) = zI 71 := rfl
theorem zl72 : (72 : Int32) = zI 72 := rfl
theorem zl73 : (73 : Int32) = zI 73 := rfl
theorem zl74 : (74 : Int32) = zI 74 := rfl
theorem zl75 : (75 : Int32) = zI 75 := rfl
theorem zl76 : (76 : Int32) = zI 76 := rfl
theorem zl77 : (77 : Int32) = zI 77 := rfl
theorem zl78 : (78 : Int32) = zI 78 := rfl
theorem zl79 : (79 : Int32) = zI 79 := rfl
theorem zl80 : (80 : Int32) = zI 80 := rfl
theorem zl81 : (81 : Int32) = zI 81 := rfl
theorem zl82 : (82 : Int32) = zI 82 := rfl
theorem zl83 : (83 : Int32) = zI 83 := rfl
theorem zl84 : (84 : Int32) = zI 84 := rfl
theorem zl85 : (85 : Int32) = zI 85 := rfl
theorem zl86 : (86 : Int32) = zI 86 := rfl
theorem zl87 : (87 : Int32) = zI 87 := rfl
theorem zl88 : (88 : Int32) = zI 88 := rfl
theorem zl89 : (89 : Int32) = zI 89 := rfl
theorem zl90 : (90 : Int32) = zI 90 := rfl
theorem zl91 : (91 : Int32) = zI 91 := rfl
theorem zl92 : (92 : Int32) = zI 92 := rfl
theorem zl93 : (93 : Int32) = zI 93 := rfl
theorem zl94 : (94 : Int32) = zI 94 := rfl
theorem zl95 : (95 : Int32) = zI 95 := rfl
theorem zl96 : (96 : Int32) = zI 96 := rfl
theorem zl97 : (97 : Int32) = zI 97 := rfl
theorem zl98 : (98 : Int32) = zI 98 := rfl
theorem zl99 : (99 : Int32) = zI 99 := rfl
theorem zl100 : (100 : Int32) = zI 100 := rfl
theorem zl101 : (101 : Int32) = zI 101 := rfl
theorem zl102 : (102 : Int32) = zI 102 := rfl
theorem zl103 : (103 : Int32) = zI 103 := rfl
theorem zl104 : (104 : Int32) = zI 104 := rfl
theorem zl105 : (105 : Int32) = zI 105 := rfl
theorem zl106 : (106 : Int32) = zI 106 := rfl
theorem zl107 : (107 : Int32) = zI 107 := rfl
theorem zl108 : (108 : Int32) = zI 108 := rfl
theorem zl109 : (109 : Int32) = zI 109 := rfl
theorem zl110 : (110 : Int32) = zI 110 := rfl
theorem zl111 : (111 : Int32) = zI 111 := rfl
theorem zl112 : (112 : Int32) = zI 112 := rfl
theorem zl113 : (113 : Int32) = zI 113 := rfl
theorem zl114 : (114 : Int32) = zI 114 := rfl
theorem zl115 : (115 : Int32) = zI 115 := rfl
theorem zl116 : (116 : Int32) = zI 116 := rfl
theorem zl117 : (117 : Int32) = zI 117 := rfl
theorem zl118 : (118 : Int32) = zI 118 := rfl
theorem zl119 : (119 : Int32) = zI 119 := rfl
theorem zl120 : (120 : Int32) = zI 120 := rfl
theorem zl121 : (121 : Int32) = zI 121 := rfl
theorem zl122 : (122 : Int32) = zI 122 := rfl
theorem zl123 : (123 : Int32) = zI 123 := rfl
theorem zl124 : (124 : Int32) = zI 124 := rfl
theorem zl125 : (125 : Int32) = zI 125 := rfl
theorem zl126 : (126 : Int32) = zI 126 := rfl
theorem zl127 : (127 : Int32) = zI 127 := rfl
theorem zl128 : (128 : Int32) = zI 128 := rfl
theorem zl129 : (129 : Int32) = zI 129 := rfl
theorem zl200 : (200 : Int32) = zI 200 := rfl
theorem zl255 : (255 : Int32) = zI 255 := rfl
theorem zl256 : (256 : Int32) = zI 256 := rfl
theorem zl512 : (512 : Int32) = zI 512 := rfl
theorem zl552 : (552 : Int32) = zI 552 := rfl
theorem zl586 : (586 : Int32) = zI 586 := rfl
theorem zl587 : (587 : Int32) = zI 587 := rfl
theorem zl600 : (600 : Int32) = zI 600 := rfl
theorem zl640 : (640 : Int32) = zI 640 := rfl
theorem zl785 : (785 : Int32) = zI 785 := rfl
theorem zl786 : (786 : Int32) = zI 786 := rfl
theorem zl787 : (787 : Int32) = zI 787 := rfl
theorem zl788 : (788 : Int32) = zI 788 := rfl
theorem zl1576 : (1576 : Int32) = zI 1576 := rfl
theorem zl2640 : (2640 : Int32) = zI 2640 := rfl
theorem zl3600 : (3600 : Int32) = zI 3600 := rfl
theorem zl4416 : (4416 : Int32) = zI 4416 := rfl
theorem zl10000 : (10000 : Int32) = zI 10000 := rfl
theorem zl12345 : (12345 : Int32) = zI 12345 := rfl
theorem zl1000000000 : (1000000000 : Int32) = zI 1000000000 := rfl
theorem zl1103515245 : (1103515245 : Int32) = zI 1103515245 := rfl
theorem b_n (p : Prop) [Decidable p] : ((if p then (1 : Int32) else 0) = 0) ↔ ¬ p := by by_cases h : p <;> simp [h]
theorem b_p (p : Prop) [Decidable p] : ((if p then (1 : Int32) else 0) = 1) ↔ p := by by_cases h : p <;> simp [h]
/-- a truth as an int -/
def bI (p : Prop) [Decidable p] : Int32 := if p then 1 else 0
theorem bI_0 (p : Prop) [Decidable p] : bI p = 0 ↔ ¬ p := b_n p
theorem bI_1 (p : Prop) [Decidable p] : bI p = 1 ↔ p := b_p p
theorem i_a0 (a : Int32) : a + zI 0 = a := Int32.add_zero a
theorem i_s0 (a : Int32) : a - zI 0 = a := Int32.sub_zero a
theorem i_or0 (a : Int32) : a ||| zI 0 = a := Int32.or_zero
theorem zif (p : Prop) [Decidable p] (a b : Int) : (if p then zI a else zI b) = zI (if p then a else b) := by split <;> rfl
theorem tf (p : Prop) : p = True ∨ p = False := Classical.propComplete p
theorem bI_F : bI False = zI 0 := rfl
theorem bI_T : bI True = zI 1 := rfl
theorem bI_z (p : Prop) [Decidable p] : bI p = zI 0 ↔ ¬ p := b_n p
theorem bI_o (p : Prop) [Decidable p] : bI p = zI 1 ↔ p := b_p p
theorem bI_c {p q : Prop} [Decidable p] [Decidable q] (h : p ↔ q) : bI p = bI q := by
  unfold bI
  by_cases hq : q
  · rw [if_pos hq, if_pos (h.mpr hq)]
  · rw [if_neg hq, if_neg (fun hp => hq (h.mp hp))]

/-! steps of loops: B turns of fuel at most -/
def ST {β : Type} (B : Nat) (F : Nat → β) (C : Nat → Prop) (F' : Nat → β) (C' : Nat → Prop) : Prop := ∃ k, k ≤ B ∧ ∀ n, F (n + k) = F' n ∧ (C' n → C (n + k))
theorem ST_refl {β : Type} (F : Nat → β) (C : Nat → Prop) : ST 0 F C F C := ⟨0, Nat.le_refl _, fun _ => ⟨rfl, id⟩⟩
theorem ST_trans {β : Type} {B1 B2 : Nat} {F F' F'' : Nat → β} {C C' C'' : Nat → Prop} (h1 : ST B1 F C F' C') (h2 : ST B2 F' C' F'' C'') : ST (B1 + B2) F C F'' C'' := by
  obtain ⟨k1, l1, e1⟩ := h1
  obtain ⟨k2, l2, e2⟩ := h2
  refine ⟨k1 + k2, by omega, fun n => ?_⟩
  have a1 := e1 (n + k2)
  have a2 := e2 n
  rw [show n + (k1 + k2) = n + k2 + k1 by omega]
  exact ⟨a1.1.trans a2.1, fun h => a1.2 (a2.2 h)⟩
theorem ST_mono {β : Type} {B1 B2 : Nat} {F F' : Nat → β} {C C' : Nat → Prop} (h : ST B1 F C F' C') (hb : B1 ≤ B2) : ST B2 F C F' C' := by
  obtain ⟨k1, l1, e1⟩ := h
  exact ⟨k1, by omega, e1⟩
theorem ST_one {β : Type} {F F' : Nat → β} {C C' : Nat → Prop} (h : ∀ n, F (n + 1) = F' n) (h2 : ∀ n, C' n → C (n + 1)) : ST 1 F C F' C' := ⟨1, Nat.le_refl _, fun n => ⟨h n, h2 n⟩⟩
theorem ST_1 {β : Type} {F F' : Nat → β} {C C' : Nat → Prop} (h : ∀ n, F (n + 1) = F' n ∧ (C' n → C (n + 1))) : ST 1 F C F' C' := ⟨1, Nat.le_refl _, h⟩
theorem ST_end {β : Type} {B : Nat} {F : Nat → β} {C : Nat → Prop} {v : β} (h : ST B F C (fun _ => v) (fun _ => True)) {N : Nat} (hB : B ≤ N) : F N = v ∧ C N := by
  obtain ⟨k, l, e⟩ := h
  have := e (N - k)
  rw [show N - k + k = N by omega] at this
  exact ⟨this.1, this.2 trivial⟩
theorem ST_fu {β : Type} {B : Nat} {F : Nat → β} {C : Nat → Prop} {v : β} (h : ST B F C (fun _ => v) (fun _ => True)) (hB : B ≤ 1000000000000000) : F FU = v ∧ C FU := ST_end h (by rw [FU_eq]; exact hB)
theorem ST_iter {β : Type} {B : Nat} (N : Nat) (F : Nat → Nat → β) (C : Nat → Nat → Prop) (hs : ∀ d, d < N → ST B (F d) (C d) (F (d + 1)) (C (d + 1))) : ∀ k d, d + k = N → ST (B * k) (F d) (C d) (F N) (C N) := by
  intro k
  induction k with
  | zero => intro d h; rw [show d = N by omega]; exact ST_mono (ST_refl _ _) (by omega)
  | succ k ih => intro d h; exact ST_mono (ST_trans (hs d (by omega)) (ih (d + 1) (by omega))) (by rw [Nat.mul_succ]; omega)
theorem ST_it0 {β : Type} {B : Nat} (N : Nat) (F : Nat → Nat → β) (C : Nat → Nat → Prop) (hs : ∀ d, d < N → ST B (F d) (C d) (F (d + 1)) (C (d + 1))) : ST (B * N) (F 0) (C 0) (F N) (C N) := ST_iter N F C hs N 0 (by omega)
/-- a loop whose state is only known by a property -/
theorem ST_up {α β : Type} {B : Nat} (N : Nat) (I : Nat → α → Prop) (F : Nat → α → Nat → β) (C : Nat → α → Nat → Prop) (hs : ∀ d a, d < N → I d a → ∃ a', I (d + 1) a' ∧ ST B (F d a) (C d a) (F (d + 1) a') (C (d + 1) a')) : ∀ k d a, d + k = N → I d a → ∃ a', I N a' ∧ ST (B * k) (F d a) (C d a) (F N a') (C N a') := by
  intro k
  induction k with
  | zero => intro d a h hi; obtain rfl : d = N := by omega
            exact ⟨a, hi, ST_mono (ST_refl _ _) (by omega)⟩
  | succ k ih =>
    intro d a h hi
    obtain ⟨a1, h1, s1⟩ := hs d a (by omega) hi
    obtain ⟨a2, h2, s2⟩ := ih (d + 1) a1 (by omega) h1
    exact ⟨a2, h2, ST_mono (ST_trans s1 s2) (by rw [Nat.mul_succ]; omega)⟩

/-! sums -/
def sumZ (f : Int → Int) : Nat → Int
  | 0 => 0
  | n + 1 => sumZ f n + f n
theorem sumZ_c {f g : Int → Int} (n : Nat) (h : ∀ d : Int, 0 ≤ d → d < n → f d = g d) : sumZ f n = sumZ g n := by
  induction n with
  | zero => rfl
  | succ n ih => simp only [sumZ]; rw [ih (fun d h1 h2 => h d h1 (by omega)), h n (by omega) (by omega)]
theorem sumZ_add (f g : Int → Int) (n : Nat) : sumZ (fun d => f d + g d) n = sumZ f n + sumZ g n := by
  induction n with
  | zero => rfl
  | succ n ih => simp only [sumZ]; rw [ih]; omega
theorem sumZ_sub (f g : Int → Int) (n : Nat) : sumZ (fun d => f d - g d) n = sumZ f n - sumZ g n := by
  induction n with
  | zero => rfl
  | succ n ih => simp only [sumZ]; rw [ih]; omega
theorem sumZ_ge {f : Int → Int} {n : Nat} {a : Int} (h : ∀ d : Int, 0 ≤ d → d < n → a ≤ f d) : a * n ≤ sumZ f n := by
  induction n with
  | zero => simp [sumZ]
  | succ n ih => have := ih (fun d h1 h2 => h d h1 (by omega)); have := h n (by omega) (by omega); simp only [sumZ]; rw [Int.natCast_succ, Int.mul_add]; omega
theorem sumZ_le {f : Int → Int} {n : Nat} {a : Int} (h : ∀ d : Int, 0 ≤ d → d < n → f d ≤ a) : sumZ f n ≤ a * n := by
  induction n with
  | zero => simp [sumZ]
  | succ n ih => have := ih (fun d h1 h2 => h d h1 (by omega)); have := h n (by omega) (by omega); simp only [sumZ]; rw [Int.natCast_succ, Int.mul_add]; omega
/-- one row of a sum is another -/
theorem sumZ_1 {f g : Int → Int} {n : Nat} (k : Int) (hk0 : 0 ≤ k) (hk : k < n) (h : ∀ d : Int, 0 ≤ d → d < n → d ≠ k → f d = g d) : sumZ f n = sumZ g n - g k + f k := by
  induction n with
  | zero => omega
  | succ n ih =>
    simp only [sumZ]
    by_cases hn : k = n
    · subst hn; rw [sumZ_c n (fun d h1 h2 => h d h1 (by omega) (by omega))]; omega
    · rw [ih (by omega) (fun d h1 h2 h3 => h d h1 (by omega) h3), h n (by omega) (by omega) (by omega)]; omega
