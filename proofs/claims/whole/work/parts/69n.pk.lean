-- needs: 60.rg
/-! PACKED: ways, the latest deal's first -/
section
variable (g : Nat → Int) (ld db kd : Nat → Int) (R0 : Int → Int)
def crW (i w : Nat) : Int := if w % 2 = 0 then ld i else kiZ g (ld i)
def deW (i w : Nat) : Int := if w < 2 then db i else kiZ g (db i)
abbrev okA (i : Nat) : Prop := ld i ≠ db i ∧ livZ g (ld i) ∧ livZ g (db i)
abbrev okB (i w : Nat) : Prop := 0 ≤ crW g ld i w ∧ 0 ≤ deW g db i w ∧ livZ g (crW g ld i w) ∧ livZ g (deW g db i w)
def mcW (i w : Nat) (b : Int) : Int := if w < 4 then (if crW g ld i w = b then szZ g (kd i) else 0) + (if deW g db i w = b then szZ g (kd i) else 0) else 0
def rmP : List Nat → Int → Int
  | [] => R0
  | w :: P => fun b => rmP P b - mcW g ld db kd P.length w b
def okC : List Nat → Prop
  | [] => True
  | w :: P => w ≤ 4 ∧ (w < 4 → okA g ld db P.length ∧ okB g ld db P.length w) ∧ okC P
def FeC (c : List Nat) : Prop := okC g ld db c ∧ ∀ b, bdyZ g b → 0 ≤ rmP g ld db kd R0 c b
end
def cnt : List Nat → Nat
  | [] => 0
  | w :: P => cnt P + if w < 4 then 1 else 0
def rk : List Nat → Nat
  | [] => 0
  | w :: P => rk P * 5 + w
def KP (c : List Nat) : Int := (cnt c : Int) * 15625 + 15624 - rk c
def KPo : Option (List Nat) → Int
  | none => -1
  | some q => KP q
def p5 : Nat → Nat
  | 0 => 1
  | n + 1 => p5 n * 5
theorem p5_pos : ∀ n, 1 ≤ p5 n := by
  intro n
  induction n with
  | zero => exact Nat.le_refl _
  | succ n ih => unfold p5; omega
theorem p5_le {n : Nat} (h : n ≤ 6) : p5 n ≤ 15625 := by
  rcases (show n = 0 ∨ n = 1 ∨ n = 2 ∨ n = 3 ∨ n = 4 ∨ n = 5 ∨ n = 6 by omega) with h | h | h | h | h | h | h <;> rw [h] <;> decide
theorem rk_lt : ∀ {c : List Nat}, (∀ w ∈ c, w ≤ 4) → rk c < p5 c.length := by
  intro c
  induction c with
  | nil => intro _; decide
  | cons w P ih =>
    intro h
    have h1 := ih (fun x hx => h x (by simp [hx]))
    have h2 := h w (by simp)
    show rk P * 5 + w < p5 P.length * 5
    omega
theorem rk_inj : ∀ {c q : List Nat}, c.length = q.length → (∀ w ∈ c, w ≤ 4) → (∀ w ∈ q, w ≤ 4) → rk c = rk q → c = q := by
  intro c
  induction c with
  | nil => intro q hl _ _ _; cases q with | nil => rfl | cons x Q => simp at hl
  | cons w P ih =>
    intro q hl h1 h2 he
    cases q with
    | nil => simp at hl
    | cons x Q =>
      have hw := h1 w (by simp)
      have hx := h2 x (by simp)
      have he : rk P * 5 + w = rk Q * 5 + x := he
      have h3 : w = x ∧ rk P = rk Q := by omega
      rw [h3.1, ih (by simpa using hl) (fun y hy => h1 y (by simp [hy])) (fun y hy => h2 y (by simp [hy])) h3.2]
/-- lists that begin with P: their ranks -/
theorem rk_ext : ∀ {S P : List Nat}, (∀ w ∈ S, w ≤ 4) → rk P * p5 S.length ≤ rk (S ++ P) ∧ rk (S ++ P) < (rk P + 1) * p5 S.length := by
  intro S
  induction S with
  | nil => intro P _; show rk P * 1 ≤ rk P ∧ rk P < (rk P + 1) * 1; omega
  | cons w S ih =>
    intro P h
    obtain ⟨i1, i2⟩ := ih (P := P) (fun x hx => h x (by simp [hx]))
    have hw := h w (by simp)
    show rk P * (p5 S.length * 5) ≤ rk (S ++ P) * 5 + w ∧ rk (S ++ P) * 5 + w < (rk P + 1) * (p5 S.length * 5)
    rw [← Nat.mul_assoc, ← Nat.mul_assoc]
    omega
theorem cnt_app : ∀ (S P : List Nat), cnt P ≤ cnt (S ++ P) ∧ cnt (S ++ P) ≤ cnt P + S.length := by
  intro S
  induction S with
  | nil => intro P; exact ⟨Nat.le_refl _, Nat.le_refl _⟩
  | cons w S ih =>
    intro P
    obtain ⟨i1, i2⟩ := ih P
    show cnt P ≤ cnt (S ++ P) + (if w < 4 then 1 else 0) ∧ cnt (S ++ P) + (if w < 4 then 1 else 0) ≤ cnt P + (w :: S).length
    rw [List.length_cons]
    split <;> omega
theorem cnt_le (c : List Nat) : cnt c ≤ c.length := by
  have := (cnt_app c []).2
  rw [List.append_nil] at this
  have e : cnt [] = 0 := rfl
  omega
section
variable {g : Nat → Int} {ld db kd : Nat → Int} {R0 : Int → Int}
theorem okC_4 : ∀ {c : List Nat}, okC g ld db c → ∀ w ∈ c, w ≤ 4 := by
  intro c
  induction c with
  | nil => intro _ w hw; exact absurd hw (by simp)
  | cons x P ih =>
    intro h w hw
    rcases List.mem_cons.mp hw with rfl | hw
    · exact h.1
    · exact ih h.2.2 w hw
theorem okC_app : ∀ {S P : List Nat}, okC g ld db (S ++ P) → okC g ld db P := by
  intro S
  induction S with
  | nil => intro P h; exact h
  | cons x S ih => intro P h; exact ih h.2.2
theorem mcW_0 (hk : ∀ i, 0 ≤ szZ g (kd i)) (i w : Nat) (b : Int) : 0 ≤ mcW g ld db kd i w b := by
  have := hk i
  unfold mcW
  split
  · split <;> split <;> omega
  · omega
theorem rmP_app (hk : ∀ i, 0 ≤ szZ g (kd i)) : ∀ (S P : List Nat) (b : Int), rmP g ld db kd R0 (S ++ P) b ≤ rmP g ld db kd R0 P b := by
  intro S
  induction S with
  | nil => intro P b; exact Int.le_refl _
  | cons w S ih =>
    intro P b
    have h1 := ih P b
    have h2 := mcW_0 (ld := ld) (db := db) hk (S ++ P).length w b
    show rmP g ld db kd R0 (S ++ P) b - mcW g ld db kd (S ++ P).length w b ≤ _
    omega
theorem FeC_app (hk : ∀ i, 0 ≤ szZ g (kd i)) {S P : List Nat} (h : FeC g ld db kd R0 (S ++ P)) : FeC g ld db kd R0 P := ⟨okC_app h.1, fun b hb => by have h1 := h.2 b hb; have h2 := rmP_app (ld := ld) (db := db) (R0 := R0) hk S P b; omega⟩
theorem KP_inj {c q : List Nat} (hl : c.length = q.length) (h6 : c.length ≤ 6) (h1 : ∀ w ∈ c, w ≤ 4) (h2 : ∀ w ∈ q, w ≤ 4) (he : KP c = KP q) : c = q := by
  have b1 := rk_lt h1
  have b2 := rk_lt h2
  have b3 := p5_le h6
  rw [← hl] at b2
  unfold KP at he
  exact rk_inj hl h1 h2 (by omega)
theorem KP_cmp {c q : List Nat} (hl : c.length = q.length) (h6 : c.length ≤ 6) (h1 : ∀ w ∈ c, w ≤ 4) (h2 : ∀ w ∈ q, w ≤ 4) : KP c ≤ KP q ↔ cnt c < cnt q ∨ (cnt c = cnt q ∧ rk q ≤ rk c) := by
  have b1 := rk_lt h1
  have b2 := rk_lt h2
  have b3 := p5_le h6
  rw [← hl] at b2
  unfold KP
  omega
theorem KP_pos {c : List Nat} (h6 : c.length ≤ 6) (h1 : ∀ w ∈ c, w ≤ 4) : 0 ≤ KP c := by
  have b1 := rk_lt h1
  have b3 := p5_le h6
  unfold KP
  omega
/-- the best way of n deals -/
def BestP (g : Nat → Int) (ld db kd : Nat → Int) (R0 : Int → Int) (n : Nat) (o : Option (List Nat)) : Prop := (∀ q, o = some q → FeC g ld db kd R0 q ∧ q.length = n) ∧ ∀ c, FeC g ld db kd R0 c → c.length = n → KP c ≤ KPo o
theorem BestP_1 {n : Nat} (hn : n ≤ 6) {a b : Option (List Nat)} (ha : BestP g ld db kd R0 n a) (hb : BestP g ld db kd R0 n b) : a = b := by
  cases a with
  | none =>
    cases b with
    | none => rfl
    | some q =>
      obtain ⟨q1, q2⟩ := hb.1 q rfl
      have h1 : KP q ≤ -1 := ha.2 q q1 q2
      have := KP_pos (c := q) (by omega) (okC_4 q1.1)
      omega
  | some p =>
    obtain ⟨p1, p2⟩ := ha.1 p rfl
    cases b with
    | none =>
      have h1 : KP p ≤ -1 := hb.2 p p1 p2
      have := KP_pos (c := p) (by omega) (okC_4 p1.1)
      omega
    | some q =>
      obtain ⟨q1, q2⟩ := hb.1 q rfl
      have h1 : KP q ≤ KP p := ha.2 q q1 q2
      have h2 : KP p ≤ KP q := hb.2 p p1 p2
      rw [KP_inj (c := p) (q := q) (by omega) (by omega) (okC_4 p1.1) (okC_4 q1.1) (by omega)]
end
