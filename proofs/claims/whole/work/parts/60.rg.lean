-- needs:
/-! rings: paths of deals, the latest first -/
abbrev okR (g : Nat → Int) (d : Int) : Prop := opZ g d ∧ (sorZ g d = 0 ∨ sorZ g d = 4)
def dtZ (g : Nat → Int) (d : Int) : Int := if sizZ g d ≤ g 3 then sizZ g d else g 3
def frd (g : Nat → Int) (d : Int) : Int := (if livZ g (oZ g d 6) then sizZ g d - dtZ g d else 0) + (if livZ g (oZ g d 7) then sizZ g d - dtZ g d else 0)
theorem frd_b {g : Nat → Int} (hw : WF g) {d : Int} (hd : dlZ g d) : 0 ≤ frd g d ∧ frd g d ≤ 18 := by
  have h0 := hw.w0
  have h1 := hw.siz hd
  have h2 : 0 ≤ dtZ g d ∧ dtZ g d ≤ sizZ g d := by unfold dtZ; split <;> omega
  unfold frd
  split <;> split <;> omega
def mnR (g : Nat → Int) : List Nat → Int
  | [] => 1000000000
  | w :: P => if oZ g w 2 < mnR g P then oZ g w 2 else mnR g P
def frR (g : Nat → Int) (m : Int) : List Nat → Int
  | [] => 0
  | w :: P => (if oZ g w 2 = m then frd g w else 0) + frR g m P
def fsR (g : Nat → Int) (P : List Nat) : Int := frR g (mnR g P) P
theorem mn_le (g : Nat → Int) : ∀ P : List Nat, ∀ y ∈ P, mnR g P ≤ oZ g y 2 := by
  intro P
  induction P with
  | nil => intro y hy; exact absurd hy (by simp)
  | cons w P ih =>
    intro y hy
    unfold mnR
    rcases List.mem_cons.mp hy with rfl | hy
    · split <;> omega
    · have := ih y hy; split <;> omega
theorem frR_lt (g : Nat → Int) (m : Int) : ∀ P : List Nat, (∀ y ∈ P, m < oZ g y 2) → frR g m P = 0 := by
  intro P
  induction P with
  | nil => intro _; rfl
  | cons w P ih =>
    intro h
    have h1 := h w (by simp)
    unfold frR
    rw [if_neg (by omega), ih (fun y hy => h y (by simp [hy]))]; rfl
theorem fs_cons (g : Nat → Int) (w : Nat) (P : List Nat) : fsR g (w :: P) = if oZ g w 2 < mnR g P then frd g w else if oZ g w 2 = mnR g P then fsR g P + frd g w else fsR g P := by
  unfold fsR
  show frR g (if oZ g w 2 < mnR g P then oZ g w 2 else mnR g P) (w :: P) = _
  by_cases h1 : oZ g w 2 < mnR g P
  · rw [if_pos h1, if_pos h1]
    show (if oZ g w 2 = oZ g w 2 then frd g w else 0) + frR g (oZ g w 2) P = _
    rw [if_pos rfl, frR_lt g _ P (fun y hy => by have := mn_le g P y hy; omega), Int.add_zero]
  · rw [if_neg h1, if_neg h1]
    show (if oZ g w 2 = mnR g P then frd g w else 0) + frR g (mnR g P) P = _
    by_cases h2 : oZ g w 2 = mnR g P
    · rw [if_pos h2, if_pos h2, Int.add_comm]
    · rw [if_neg h2, if_neg h2, Int.zero_add]
def stt : List Nat → Nat
  | [] => 0
  | [w] => w
  | _ :: x :: P => stt (x :: P)
theorem stt_cons (w : Nat) {P : List Nat} (h : P ≠ []) : stt (w :: P) = stt P := by
  cases P with
  | nil => exact absurd rfl h
  | cons x P => rfl
theorem stt_mem : ∀ {P : List Nat}, P ≠ [] → stt P ∈ P := by
  intro P
  induction P with
  | nil => intro h; exact absurd rfl h
  | cons w P ih =>
    intro _
    by_cases hP : P = []
    · subst hP; simp [stt]
    · rw [stt_cons w hP]; simp [ih hP]
theorem stt_app (S : List Nat) {P : List Nat} (h : P ≠ []) : stt (S ++ P) = stt P := by
  induction S with
  | nil => rfl
  | cons w S ih => rw [List.cons_append, stt_cons w (by simp [h]), ih]
def vpa (g : Nat → Int) : List Nat → Prop
  | [] => True
  | w :: P => okR g w ∧ (∀ x Q, P = x :: Q → oZ g w 0 = oZ g x 1) ∧ (∀ y ∈ P, oZ g y 0 ≠ oZ g w 0) ∧ vpa g P
theorem vpa_ok {g : Nat → Int} : ∀ {P : List Nat}, vpa g P → ∀ y ∈ P, okR g y := by
  intro P
  induction P with
  | nil => intro _ y hy; exact absurd hy (by simp)
  | cons w P ih =>
    intro h y hy
    rcases List.mem_cons.mp hy with rfl | hy
    · exact h.1
    · exact ih h.2.2.2 y hy
theorem vpa_app {g : Nat → Int} : ∀ {S P : List Nat}, vpa g (S ++ P) → vpa g P := by
  intro S
  induction S with
  | nil => intro P h; exact h
  | cons w S ih => intro P h; exact ih h.2.2.2
/-- a ring; cn: its first deal is the least of it -/
def RGs (g : Nat → Int) (cn : Prop) (c : List Nat) : Prop := vpa g c ∧ (2 ≤ c.length ∧ c.length ≤ 5) ∧ (∀ x Q, c = x :: Q → oZ g x 1 = oZ g (stt c) 0) ∧ (cn → ∀ y ∈ c, stt c ≤ y)
def pw : Nat → Int
  | 0 => 12960000 | 1 => 216000 | 2 => 3600 | 3 => 60 | 4 => 1 | _ => 0
def pB : Nat → Int
  | 0 => 777600000 | 1 => 12960000 | 2 => 216000 | 3 => 3600 | 4 => 60 | 5 => 1 | _ => 0
def cd : List Nat → Int
  | [] => 0
  | w :: P => cd P + w * pw P.length
theorem pw_pB {l : Nat} (h : l ≤ 4) : pB l = 60 * pw l ∧ pB (l + 1) = pw l ∧ 1 ≤ pw l := by
  rcases (show l = 0 ∨ l = 1 ∨ l = 2 ∨ l = 3 ∨ l = 4 by omega) with rfl | rfl | rfl | rfl | rfl <;> decide
theorem pw_mul {l : Nat} (h : l ≤ 4) {w : Int} (h0 : 0 ≤ w) (h6 : w ≤ 59) : 0 ≤ w * pw l ∧ w * pw l + pw l ≤ pB l := by
  rcases (show l = 0 ∨ l = 1 ∨ l = 2 ∨ l = 3 ∨ l = 4 by omega) with rfl | rfl | rfl | rfl | rfl <;> simp only [pw, pB] <;> omega
theorem cd_ext : ∀ (S P : List Nat), (S ++ P).length ≤ 5 → (∀ y ∈ S, y < 60) → cd P ≤ cd (S ++ P) ∧ cd (S ++ P) + pB (S ++ P).length ≤ cd P + pB P.length := by
  intro S
  induction S with
  | nil => intro P _ _; exact ⟨Int.le_refl _, Int.le_refl _⟩
  | cons w S ih =>
    intro P hl hs
    have hl' : (S ++ P).length ≤ 4 := by rw [List.cons_append, List.length_cons] at hl; omega
    obtain ⟨i1, i2⟩ := ih P (by omega) (fun y hy => hs y (by simp [hy]))
    have hw := hs w (by simp)
    obtain ⟨p1, p2, p3⟩ := pw_pB hl'
    obtain ⟨m1, m2⟩ := pw_mul hl' (w := (w : Int)) (by omega) (by omega)
    rw [List.cons_append, List.length_cons, p2]
    show cd P ≤ cd (S ++ P) + w * pw (S ++ P).length ∧ cd (S ++ P) + w * pw (S ++ P).length + pw (S ++ P).length ≤ _
    omega
theorem cd_b {c : List Nat} (hl : c.length ≤ 5) (h : ∀ y ∈ c, y < 60) : 0 ≤ cd c ∧ cd c < 777600000 := by
  have := cd_ext c [] (by rw [List.append_nil]; exact hl) h
  rw [List.append_nil] at this
  have p : 1 ≤ pB c.length := by
    rcases (show c.length = 0 ∨ c.length = 1 ∨ c.length = 2 ∨ c.length = 3 ∨ c.length = 4 ∨ c.length = 5 by omega) with e | e | e | e | e | e <;> rw [e] <;> decide
  have e1 : cd [] = 0 := rfl
  have e2 : pB ([] : List Nat).length = 777600000 := rfl
  omega
theorem cd_mul : ∀ {c : List Nat}, c.length ≤ 5 → ∃ k : Int, cd c = k * pB c.length := by
  intro c
  induction c with
  | nil => intro _; exact ⟨0, rfl⟩
  | cons w P ih =>
    intro hl
    have hl' : P.length ≤ 4 := by rw [List.length_cons] at hl; omega
    obtain ⟨k, hk⟩ := ih (by omega)
    obtain ⟨p1, p2, p3⟩ := pw_pB hl'
    refine ⟨k * 60 + w, ?_⟩
    rw [List.length_cons, p2]
    show cd P + w * pw P.length = _
    rw [hk, p1, Int.add_mul, Int.mul_assoc]
theorem cd_inj : ∀ {c q : List Nat}, c.length = q.length → c.length ≤ 5 → (∀ y ∈ c, y < 60) → (∀ y ∈ q, y < 60) → cd c = cd q → c = q := by
  intro c
  induction c with
  | nil => intro q hl _ _ _ _; cases q with | nil => rfl | cons x Q => simp at hl
  | cons w P ih =>
    intro q hl h5 h1 h2 he
    cases q with
    | nil => simp at hl
    | cons x Q =>
      have hl2 : P.length = Q.length := by simpa using hl
      have hP4 : P.length ≤ 4 := by rw [List.length_cons] at h5; omega
      obtain ⟨k, hk⟩ := cd_mul (c := P) (by omega)
      obtain ⟨k', hk'⟩ := cd_mul (c := Q) (by omega)
      have he : cd P + w * pw P.length = cd Q + x * pw Q.length := he
      have hw := h1 w (by simp)
      have hx := h2 x (by simp)
      rw [← hl2] at he hk'
      have hwx : w = x ∧ cd P = cd Q := by
        rcases (show P.length = 0 ∨ P.length = 1 ∨ P.length = 2 ∨ P.length = 3 ∨ P.length = 4 by omega) with e | e | e | e | e <;> rw [e] at he hk hk' <;> simp only [pw, pB] at he hk hk' <;> omega
      rw [hwx.1, ih hl2 (by omega) (fun y hy => h1 y (by simp [hy])) (fun y hy => h2 y (by simp [hy])) hwx.2]
def KK (g : Nat → Int) (c : List Nat) : Int := (fsR g c * 10 + (6 - c.length)) * 777600000 - cd c
theorem fs_b {g : Nat → Int} (hw : WF g) : ∀ {P : List Nat}, vpa g P → 0 ≤ fsR g P := by
  intro P
  induction P with
  | nil => intro _; exact Int.le_refl _
  | cons w P ih =>
    intro h
    have := ih h.2.2.2
    have := frd_b hw h.1.1.1
    rw [fs_cons]
    split
    · omega
    · split <;> omega
theorem fs_up {g : Nat → Int} (hw : WF g) {mf : Int} (hmf : ∀ d : Nat, okR g d → frd g d ≤ mf) (hm0 : 0 ≤ mf) : ∀ {S P : List Nat}, vpa g (S ++ P) → fsR g (S ++ P) ≤ fsR g P + S.length * mf := by
  intro S
  induction S with
  | nil => intro P h; simp
  | cons w S ih =>
    intro P h
    have i1 := ih h.2.2.2
    have i2 := frd_b hw h.1.1.1
    have i3 := hmf w h.1
    have i4 := fs_b hw h.2.2.2
    rw [List.cons_append, fs_cons, List.length_cons, Int.natCast_succ, Int.add_mul, Int.one_mul]
    split
    · have := fs_b hw (vpa_app h.2.2.2)
      have : 0 ≤ (S.length : Int) * mf := Int.mul_nonneg (by omega) hm0
      omega
    · split <;> omega
theorem RG_60 {g : Nat → Int} (hw : WF g) {cn : Prop} {c : List Nat} (h : RGs g cn c) : ∀ y ∈ c, y < 60 := fun y hy => by
  have h0 := hw.w0
  have := (vpa_ok h.1 y hy).1.1.2
  omega
theorem KK_pos {g : Nat → Int} (hw : WF g) {cn : Prop} {c : List Nat} (h : RGs g cn c) : 0 < KK g c := by
  have := cd_b h.2.1.2 (RG_60 hw h)
  have := fs_b hw h.1
  have := h.2.1
  unfold KK
  omega
theorem KK_inj {g : Nat → Int} (hw : WF g) {cn cn' : Prop} {c q : List Nat} (h : RGs g cn c) (h' : RGs g cn' q) (he : KK g c = KK g q) : c = q := by
  have b1 := cd_b h.2.1.2 (RG_60 hw h)
  have b2 := cd_b h'.2.1.2 (RG_60 hw h')
  have l1 := h.2.1
  have l2 := h'.2.1
  unfold KK at he
  exact cd_inj (by omega) l1.2 (RG_60 hw h) (RG_60 hw h') (by omega)
theorem KK_fs {g : Nat → Int} (hw : WF g) {cn cn' : Prop} {c q : List Nat} (h : RGs g cn c) (h' : RGs g cn' q) (he : KK g c ≤ KK g q) : fsR g c ≤ fsR g q := by
  have b1 := cd_b h.2.1.2 (RG_60 hw h)
  have b2 := cd_b h'.2.1.2 (RG_60 hw h')
  have l1 := h.2.1
  have l2 := h'.2.1
  unfold KK at he
  omega
/-- what a search has found -/
def KB (g : Nat → Int) : Option (List Nat) → Int
  | none => 0
  | some q => KK g q
theorem two_best {g : Nat → Int} (hw : WF g) {C : List Nat → Prop} (hC : ∀ c, C c → RGs g True c) {a b : Option (List Nat)} (ha : ∀ q, a = some q → C q) (hb : ∀ q, b = some q → C q) (ha2 : ∀ c, C c → KK g c ≤ KB g a) (hb2 : ∀ c, C c → KK g c ≤ KB g b) : a = b := by
  cases a with
  | none =>
    cases b with
    | none => rfl
    | some q => have h1 : KK g q ≤ 0 := ha2 q (hb q rfl); have := KK_pos hw (hC q (hb q rfl)); omega
  | some p =>
    cases b with
    | none => have h1 : KK g p ≤ 0 := hb2 p (ha p rfl); have := KK_pos hw (hC p (ha p rfl)); omega
    | some q =>
      have h1 : KK g q ≤ KK g p := ha2 q (hb q rfl)
      have h2 : KK g p ≤ KK g q := hb2 p (ha p rfl)
      rw [KK_inj hw (hC p (ha p rfl)) (hC q (hb q rfl)) (by omega)]
