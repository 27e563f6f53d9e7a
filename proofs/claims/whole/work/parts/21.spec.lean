/-! the state of a PORT, as the reference's row of 787 ints, each an Int: g -/
def oZ (g : Nat → Int) (d w : Int) : Int := g (46 + 9 * d + w).toNat
def rmZ (g : Nat → Int) (b : Int) : Int := g (4 + b).toNat
def kiZ (g : Nat → Int) (b : Int) : Int := g (13 + b).toNat
def szZ (g : Nat → Int) (k : Int) : Int := g (22 + k).toNat
def soZ (g : Nat → Int) (k : Int) : Int := g (28 + k).toNat
def exZ (g : Nat → Int) (b : Int) : Int := g (37 + b).toNat
def sizZ (g : Nat → Int) (d : Int) : Int := szZ g (oZ g d 3)
def sorZ (g : Nat → Int) (d : Int) : Int := soZ g (oZ g d 3)
abbrev bdyZ (g : Nat → Int) (b : Int) : Prop := 0 ≤ b ∧ b < g 0
abbrev kndZ (g : Nat → Int) (k : Int) : Prop := 0 ≤ k ∧ k < g 1
abbrev dlZ (g : Nat → Int) (d : Int) : Prop := 0 ≤ d ∧ d < g 34
abbrev opZ (g : Nat → Int) (d : Int) : Prop := dlZ g d ∧ oZ g d 5 = 0
abbrev hasZ (x b : Int) : Prop := ((zI x >>> (zI b &&& 31)) &&& 1) = (1 : Int32)
abbrev livZ (g : Nat → Int) (b : Int) : Prop := ¬ hasZ (g 36) b
/-- what DEAL d's MARKS take on b -/
def mkZ (g : Nat → Int) (b d : Int) : Int := (if oZ g d 6 = b then sizZ g d else 0) + (if oZ g d 7 = b then sizZ g d else 0)
def lefZ (g : Nat → Int) (b : Int) : Int := rmZ g b - exZ g b - sumZ (mkZ g b) (g 34).toNat
def vbZ (sum sort : Int) : Int := if sort = 1 then 2 * sum else if sort = 2 then sum.tdiv 2 else if sort = 3 then 0 else sum
def valZ (g : Nat → Int) (d : Int) : Int := vbZ (oZ g d 2) (sorZ g d)
def ntZ (g : Nat → Int) (b d : Int) : Int := if opZ g d then (if oZ g d 0 = b then valZ g d else 0) - (if oZ g d 1 = b then valZ g d else 0) else 0
def netZ (g : Nat → Int) (b : Int) : Int := sumZ (ntZ g b) (g 34).toNat
def moZ (g : Nat → Int) (b y d : Int) : Int := (if oZ g d 6 = b ∧ oZ g d 4 ≤ y then 1 else 0) + (if oZ g d 7 = b ∧ oZ g d 4 ≤ y then 1 else 0)
def mrkZ (g : Nat → Int) (b y : Int) : Int := sumZ (moZ g b y) (g 34).toNat

abbrev W0 (g : Nat → Int) : Prop := (0 ≤ g 0 ∧ g 0 ≤ 9) ∧ (0 ≤ g 1 ∧ g 1 ≤ 6) ∧ (0 ≤ g 2 ∧ g 2 ≤ 9) ∧ (0 ≤ g 3 ∧ g 3 ≤ 9) ∧ (0 ≤ g 34 ∧ g 34 ≤ 60) ∧ (0 ≤ g 35 ∧ g 35 ≤ 99) ∧ (0 ≤ g 36 ∧ g 36 < 512)
abbrev WB (g : Nat → Int) (b : Int) : Prop := (1 ≤ rmZ g b ∧ rmZ g b ≤ 99) ∧ (-1 ≤ kiZ g b ∧ kiZ g b < g 0) ∧ 0 ≤ exZ g b ∧ 0 ≤ lefZ g b
abbrev WK (g : Nat → Int) (k : Int) : Prop := (1 ≤ szZ g k ∧ szZ g k ≤ 9) ∧ (0 ≤ soZ g k ∧ soZ g k ≤ 4)
abbrev WD (g : Nat → Int) (d : Int) : Prop := (0 ≤ oZ g d 0 ∧ oZ g d 0 < g 0) ∧ (0 ≤ oZ g d 1 ∧ oZ g d 1 < g 0) ∧ (0 ≤ oZ g d 2 ∧ oZ g d 2 ≤ 99) ∧ (0 ≤ oZ g d 3 ∧ oZ g d 3 < g 1) ∧ (0 ≤ oZ g d 4 ∧ oZ g d 4 ≤ 99) ∧ (0 ≤ oZ g d 5 ∧ oZ g d 5 ≤ 2) ∧ (-1 ≤ oZ g d 6 ∧ oZ g d 6 < g 0) ∧ (-1 ≤ oZ g d 7 ∧ oZ g d 7 < g 0) ∧ (0 ≤ oZ g d 8 ∧ oZ g d 8 ≤ 3) ∧ (oZ g d 5 = 0 → 1 ≤ oZ g d 2 ∧ oZ g d 0 ≠ oZ g d 1 ∧ 0 ≤ oZ g d 6 ∧ 0 ≤ oZ g d 7)
def WF (g : Nat → Int) : Prop := W0 g ∧ (∀ b, bdyZ g b → WB g b) ∧ (∀ k, kndZ g k → WK g k) ∧ ∀ d, dlZ g d → WD g d
theorem WF.w0 {g : Nat → Int} (h : WF g) : W0 g := h.1
theorem WF.wb {g : Nat → Int} (h : WF g) {b : Int} (hb : bdyZ g b) : WB g b := h.2.1 b hb
theorem WF.wk {g : Nat → Int} (h : WF g) {k : Int} (hk : kndZ g k) : WK g k := h.2.2.1 k hk
theorem WF.wd {g : Nat → Int} (h : WF g) {d : Int} (hd : dlZ g d) : WD g d := h.2.2.2 d hd
theorem WF.siz {g : Nat → Int} (h : WF g) {d : Int} (hd : dlZ g d) : (1 ≤ sizZ g d ∧ sizZ g d ≤ 9) ∧ (0 ≤ sorZ g d ∧ sorZ g d ≤ 4) := h.wk (h.wd hd).2.2.2.1
theorem mkZ_ge {g : Nat → Int} (h : WF g) {b d : Int} (hd : dlZ g d) : 0 ≤ mkZ g b d ∧ mkZ g b d ≤ 18 := by
  have := (h.siz hd).1
  unfold mkZ
  split <;> split <;> omega
theorem WF.lef {g : Nat → Int} (h : WF g) {b : Int} (hb : bdyZ g b) : 0 ≤ lefZ g b ∧ lefZ g b ≤ 99 ∧ exZ g b ≤ 99 := by
  have h1 := h.wb hb
  have h2 := h.w0
  have h3 : 0 * ((g 34).toNat : Int) ≤ sumZ (mkZ g b) (g 34).toNat := sumZ_ge (fun d h0 hd => (mkZ_ge h ⟨h0, by omega⟩).1)
  have h4 : lefZ g b = rmZ g b - exZ g b - sumZ (mkZ g b) (g 34).toNat := rfl
  omega

/-- the reference holds g -/
def RR (s : SM) (g : Nat → Int) : Prop := ∀ k, gI s 250 k = zI (g k)
theorem i_and1 (x : Int32) : x &&& 1 = 0 ∨ x &&& 1 = 1 := by
  have h : (x &&& 1).toBitVec.toNat = x.toBitVec.toNat % 2 := by rw [Int32.toBitVec_and, BitVec.toNat_and]; exact Nat.and_one_is_mod _
  rcases Nat.mod_two_eq_zero_or_one x.toBitVec.toNat with h2 | h2
  · exact Or.inl (Int32.toBitVec_inj.mp (BitVec.eq_of_toNat_eq (by rw [h, h2]; rfl)))
  · exact Or.inr (Int32.toBitVec_inj.mp (BitVec.eq_of_toNat_eq (by rw [h, h2]; rfl)))
theorem i_and1_0 (x : Int32) : x &&& 1 = 0 ↔ ¬ x &&& 1 = 1 := by
  rcases i_and1 x with h | h <;> rw [h] <;> decide
