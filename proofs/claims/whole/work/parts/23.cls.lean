/-! the class's Ledger L at Port P holds g -/
def PoR (s : SM) (P : Nat) (g : Nat → Int) : Prop := (gI s P 6 = zI (g 0) ∧ gI s P 7 = zI (g 1) ∧ gI s P 8 = zI (g 2) ∧ gI s P 9 = zI (g 3)) ∧ (∀ b, bdyZ g b → gI s (P + 2) b.toNat = zI (rmZ g b) ∧ gI s (P + 3) b.toNat = zI (kiZ g b)) ∧ ∀ k, kndZ g k → gI s (P + 5) k.toNat = zI (szZ g k) ∧ gI s (P + 6) k.toNat = zI (soZ g k)
def LdD (s : SM) (L : Nat) (g : Nat → Int) (d : Int) : Prop := gI s (L + 1) d.toNat = zI (oZ g d 0) ∧ gI s (L + 2) d.toNat = zI (oZ g d 1) ∧ gI s (L + 3) d.toNat = zI (oZ g d 2) ∧ gI s (L + 4) d.toNat = zI (oZ g d 3) ∧ gI s (L + 5) d.toNat = zI (oZ g d 4) ∧ gI s (L + 6) d.toNat = zI (oZ g d 5) ∧ gI s (L + 9) d.toNat = zI (oZ g d 6) ∧ gI s (L + 10) d.toNat = zI (oZ g d 7) ∧ gI s (L + 11) d.toNat = zI (oZ g d 8)
def LdB (s : SM) (L : Nat) (g : Nat → Int) (b : Int) : Prop := gI s (L + 7) b.toNat = zI (lefZ g b) ∧ gI s (L + 8) b.toNat = zI (exZ g b)
def LdS (s : SM) (L : Nat) (g : Nat → Int) : Prop := (gI s L 9 = zI (g 34) ∧ gI s L 10 = zI (g 35) ∧ gI s L 14 = zI (g 36)) ∧ (∀ b, bdyZ g b → LdB s L g b) ∧ ∀ d, dlZ g d → LdD s L g d
def LdR (s : SM) (L P : Nat) (g : Nat → Int) : Prop := PoR s P g ∧ LdS s L g
section
variable {s : SM} {g : Nat → Int} {L P : Nat}
theorem y_hasBody (h : PoR s P g) (hw : WF g) {b : Int} (hb : IR b) : vX6_hasBody s P (zI b) = bI (bdyZ g b) := by
  have := hw.w0
  unfold vX6_hasBody bI
  simp (disch := omega) only [h.1.1, zl0, zl9, z_lt, z_le]
  by_cases h1 : b < 0
  · rw [if_pos h1, if_neg (by omega)]
  · by_cases h2 : g 0 ≤ b
    · rw [if_neg h1, if_pos h2, if_neg (by omega)]
    · rw [if_neg h1, if_neg h2, if_neg (by omega), if_pos (by omega)]
theorem y_hasKind (h : PoR s P g) (hw : WF g) {b : Int} (hb : IR b) : vX6_hasKind s P (zI b) = bI (kndZ g b) := by
  have := hw.w0
  unfold vX6_hasKind bI
  simp (disch := omega) only [h.1.2.1, zl0, zl6, z_lt, z_le]
  by_cases h1 : b < 0
  · rw [if_pos h1, if_neg (by omega)]
  · by_cases h2 : g 1 ≤ b
    · rw [if_neg h1, if_pos h2, if_neg (by omega)]
    · rw [if_neg h1, if_neg h2, if_neg (by omega), if_pos (by omega)]
theorem y_hasDeal (h : LdS s L g) (hw : WF g) {d : Int} (hd : IR d) : vX4_hasDeal s L P (zI d) = bI (dlZ g d) := by
  have := hw.w0
  unfold vX4_hasDeal bI
  simp (disch := omega) only [h.1.1, zl0, zl60, z_lt, z_le]
  by_cases h1 : d < 0
  · rw [if_pos h1, if_neg (by omega)]
  · by_cases h2 : g 34 ≤ d
    · rw [if_neg h1, if_pos h2, if_neg (by omega)]
    · rw [if_neg h1, if_neg h2, if_neg (by omega), if_pos (by omega)]
theorem y_lives (h : LdS s L g) (b : Int) : vX4_lives s L P (zI b) = bI (livZ g b) := by
  unfold vX4_lives
  rw [h.1.2.2]
  exact bI_c (i_and1_0 _)
theorem y_isOpen (h : LdS s L g) (hw : WF g) {d : Int} (hd : IR d) : vX4_isOpen s L P (zI d) = bI (opZ g d) ∧ rX4_isOpen s L P (zI d) := by
  have h0 := hw.w0
  unfold vX4_isOpen rX4_isOpen
  simp only [y_hasDeal h hw hd, bI_0]
  by_cases hq : dlZ g d
  · have h2 := hw.wd hq
    have h3 := h.2.2 d hq
    refine ⟨?_, fun _ => by rw [z_in hd]; omega⟩
    rw [if_neg (Classical.not_not.mpr hq), z_cl hd, h3.2.2.2.2.2.1]
    simp (disch := omega) only [show (0 : Int32) = zI 0 from rfl, z_eq]
    exact bI_c (p := oZ g d 5 = 0) (q := opZ g d) ⟨fun h => ⟨hq, h⟩, fun h => h.2⟩
  · refine ⟨?_, fun hc => absurd hq hc⟩
    rw [if_pos hq]
    unfold bI
    rw [if_neg (fun hc => hq hc.1)]
theorem y_bearer (h : LdS s L g) (hw : WF g) {d w : Int} (hd : dlZ g d) (hs : w = 0 ∨ w = 1) : vX4_bearer s L P (zI d) (zI w) = zI (oZ g d (6 + w)) ∧ rX4_bearer s L P (zI d) (zI w) := by
  have h0 := hw.w0
  have h3 := h.2.2 d hd
  unfold vX4_bearer rX4_bearer
  rw [z_in (by omega), z_cl (by omega)]
  refine ⟨?_, fun _ => by omega, fun _ => by omega⟩
  rcases hs with rfl | rfl
  · rw [if_pos (show zI 0 = 0 from rfl), h3.2.2.2.2.2.2.1]; rfl
  · rw [if_neg (by decide), h3.2.2.2.2.2.2.2.1]; rfl
theorem y_valueOf (h : LdR s L P g) (hw : WF g) {d : Int} (hd : dlZ g d) : vX4_valueOf s L P (zI d) = zI (valZ g d) ∧ rX4_valueOf s L P (zI d) := by
  have h0 := hw.w0
  have h2 := hw.wd hd
  have h3 := h.2.2.2 d hd
  have h4 := h.1.2.2 (oZ g d 3) h2.2.2.2.1
  have h5 := hw.siz hd
  unfold vX4_valueOf rX4_valueOf vX6_valueOf rX6_valueOf valZ vbZ
  unfold sorZ at h5 ⊢
  rw [z_cl (by omega), h3.2.2.2.1, h3.2.2.1, z_cl (by omega), h4.2, z_in (by omega), z_in (by omega)]
  refine ⟨?_, by omega, by omega, by omega⟩
  simp (disch := omega) only [zl0, zl1, zl2, zl3, z_eq, z_mul, z_div]
  split
  · rfl
  · split
    · rfl
    · split <;> rfl
end
