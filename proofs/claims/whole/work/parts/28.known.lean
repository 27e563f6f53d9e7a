theorem has_lsb (x : Int32) (b : Nat) (hb : b < 31) : ((x >>> (zI (b : Int) &&& 31)) &&& 1) = (1 : Int32) ↔ x.toBitVec.getLsbD b = true := by
  rw [← Int32.toBitVec_inj]
  show (x.toBitVec.sshiftRight' ((zI (b : Int) &&& 31).toBitVec.smod 32)) &&& 1#32 = 1#32 ↔ _
  rw [z_sh31 b hb, BitVec.sshiftRight_eq', BitVec.toNat_ofNat, Nat.mod_eq_of_lt (show b < 2 ^ 32 by omega)]
  have h1 : (x.toBitVec.sshiftRight b).getLsbD 0 = x.toBitVec.getLsbD b := by
    rw [BitVec.getLsbD_sshiftRight, if_pos (by omega)]; simp
  rw [← h1, ← BitVec.toNat_inj, BitVec.toNat_and]
  generalize x.toBitVec.sshiftRight b = y
  show y.toNat &&& 1 = 1 ↔ y.toNat.testBit 0 = true
  rw [Nat.and_one_is_mod, Nat.testBit_zero]
  simp
theorem hasZ_lsb {x b : Int} (hb0 : 0 ≤ b) (hb : b < 31) : hasZ x b ↔ (zI x).toBitVec.getLsbD b.toNat = true := by
  have := has_lsb (zI x) b.toNat (by omega)
  rwa [Int.toNat_of_nonneg hb0] at this
/-- those who live, as a set -/
def lvI (g : Nat → Int) : Int32 := (((1 : Int32) <<< (zI (g 0) &&& 31)) - 1) &&& (zI (g 36) ^^^ (-1))
def lvS (g : Nat → Int) : Int := (lvI g).toInt
theorem lv_m (n b : Nat) (hn : n ≤ 9) (hb : b < n) : (((1 : Int32) <<< (zI (n : Int) &&& 31)) - 1).toBitVec.getLsbD b = true := by
  have h : ∀ n ∈ List.range 10, ∀ b ∈ List.range n, (((1 : Int32) <<< (zI (n : Int) &&& 31)) - 1).toBitVec.getLsbD b = true := by decide +kernel
  exact h n (List.mem_range.mpr (by omega)) b (List.mem_range.mpr hb)
theorem lvS_has {g : Nat → Int} (hw : WF g) {b : Int} (hb : bdyZ g b) : hasZ (lvS g) b ↔ livZ g b := by
  have h0 := hw.w0
  rw [hasZ_lsb hb.1 (by omega)]
  unfold livZ
  rw [hasZ_lsb hb.1 (by omega)]
  unfold lvS
  rw [zI_tI]
  unfold lvI
  rw [Int32.toBitVec_and, Int32.toBitVec_xor, BitVec.getLsbD_and, BitVec.getLsbD_xor]
  have h1 := lv_m (g 0).toNat b.toNat (by omega) (by omega)
  rw [Int.toNat_of_nonneg h0.1.1] at h1
  rw [h1, Bool.true_and, show (-1 : Int32).toBitVec = BitVec.allOnes 32 from by decide, BitVec.getLsbD_allOnes, decide_eq_true (by omega : b.toNat < 32)]
  cases (zI (g 36)).toBitVec.getLsbD b.toNat <;> decide
abbrev kaZ (g : Nat → Int) (d w st : Int) : Prop := 0 ≤ oZ g d (6 + w) ∧ ¬ hasZ (oZ g d 8) w ∧ hasZ st (oZ g d (6 + w))
abbrev knZ (g : Nat → Int) (d st : Int) : Prop := (sorZ g d = 4 ∧ kaZ g d 0 st ∧ kaZ g d 1 st) ∨ (¬ sorZ g d = 4 ∧ (kaZ g d 0 st ∨ kaZ g d 1 st))
abbrev loZ (g : Nat → Int) (d : Int) : Prop := opZ g d ∧ ¬ sorZ g d = 3 ∧ ¬ knZ g d (lvS g)
theorem bI_T' {p : Prop} [Decidable p] (h : p) : bI p = 1 := if_pos h
theorem bI_F' {p : Prop} [Decidable p] (h : ¬ p) : bI p = 0 := if_neg h
section
variable {s : SM} {g : Nat → Int} {L P : Nat}
theorem x_living (h : RR s g) : vX12_living s = zI (lvS g) := by
  unfold vX12_living lvS lvI
  rw [zI_tI, x_0 h, x_36 h]
theorem x_isRead (h : RR s g) (hw : WF g) {d w st : Int} (hd : dlZ g d) (hs : w = 0 ∨ w = 1) : vX12_isRead s (zI d) (zI w) (zI st) = bI (kaZ g d w st) ∧ rX12_isRead s (zI d) (zI w) (zI st) := by
  have h0 := hw.w0
  have hwd := hw.wd hd
  have o8 := x_of h (d := d) (w := 8) (by omega) (by omega)
  have oB := x_of h (d := d) (w := 6 + w) (by omega) (by omega)
  have pB := x_of_r s (d := d) (w := 6 + w) (by omega) (by omega)
  have p8 := x_of_r s (d := d) (w := 8) (by omega) (by omega)
  have hB : -1 ≤ oZ g d (6 + w) ∧ oZ g d (6 + w) < g 0 := by
    rcases hs with rfl | rfl
    · exact hwd.2.2.2.2.2.2.1
    · exact hwd.2.2.2.2.2.2.2.1
  unfold vX12_isRead rX12_isRead
  simp (disch := omega) only [zl0, zl6, zl8, z_add, o8, oB, pB, p8, z_lt, x_has, bI_z, implies_true, and_true]
  by_cases h1 : oZ g d (6 + w) < 0
  · rw [if_pos h1, bI_F' (fun hc => by omega)]; rfl
  · rw [if_neg h1]
    by_cases h2 : hasZ (oZ g d 8) w
    · rw [if_neg (Classical.not_not.mpr h2), bI_F' (fun hc => hc.2.1 h2)]; rfl
    · rw [if_pos h2]
      by_cases h3 : hasZ st (oZ g d (6 + w))
      · rw [if_neg (Classical.not_not.mpr h3), bI_T' ⟨by omega, h2, h3⟩]
      · rw [if_pos h3, bI_F' (fun hc => h3 hc.2.2)]; rfl
theorem x_isKnown (h : RR s g) (hw : WF g) {d st : Int} (hd : dlZ g d) : vX12_isKnown s (zI d) (zI st) = bI (knZ g d st) ∧ rX12_isKnown s (zI d) (zI st) := by
  have h0 := hw.w0
  obtain ⟨e0, r0⟩ := x_isRead h hw (w := 0) (st := st) hd (Or.inl rfl)
  obtain ⟨e1, r1⟩ := x_isRead h hw (w := 1) (st := st) hd (Or.inr rfl)
  obtain ⟨e2, r2⟩ := x_sortOf h hw hd
  have h5 := hw.siz hd
  refine ⟨?_, r0, r1, r2⟩
  unfold vX12_isKnown
  simp (disch := omega) only [zl0, zl1, zl4, e0, e1, e2, z_eq, bI_z]
  by_cases h4 : sorZ g d = 4
  · rw [if_pos h4]
    by_cases hA : kaZ g d 0 st
    · rw [if_neg (Classical.not_not.mpr hA)]
      by_cases hB : kaZ g d 1 st
      · rw [if_neg (Classical.not_not.mpr hB), bI_T' (Or.inl ⟨h4, hA, hB⟩)]; rfl
      · rw [if_pos hB, bI_F' (fun hc => hc.elim (fun q => hB q.2.2) (fun q => q.1 h4))]; rfl
    · rw [if_pos hA, bI_F' (fun hc => hc.elim (fun q => hA q.2.1) (fun q => q.1 h4))]; rfl
  · rw [if_neg h4]
    by_cases hA : kaZ g d 0 st
    · rw [if_neg (Classical.not_not.mpr hA), bI_T' (Or.inr ⟨h4, Or.inl hA⟩)]; rfl
    · rw [if_pos hA]
      by_cases hB : kaZ g d 1 st
      · rw [if_neg (Classical.not_not.mpr hB), bI_T' (Or.inr ⟨h4, Or.inr hB⟩)]; rfl
      · rw [if_pos hB, bI_F' (fun hc => hc.elim (fun q => h4 q.1) (fun q => q.2.elim hA hB))]; rfl
theorem x_isLost (h : RR s g) (hw : WF g) {d : Int} (hd : dlZ g d) : vX12_isLost s (zI d) = bI (loZ g d) ∧ rX12_isLost s (zI d) := by
  have h0 := hw.w0
  obtain ⟨e0, r0⟩ := x_isKnown h hw (st := lvS g) hd
  have e1 := x_isOpen h hw (d := d) (by omega)
  have r1 := x_isOpen_r h hw (d := d) (by omega)
  obtain ⟨e2, r2⟩ := x_sortOf h hw hd
  have h5 := hw.siz hd
  unfold vX12_isLost rX12_isLost
  rw [x_living h]
  refine ⟨?_, r1, fun _ => ⟨r2, fun _ => r0⟩⟩
  simp (disch := omega) only [zl0, zl1, zl3, e0, e1, e2, z_eq, bI_z]
  by_cases h1 : opZ g d
  · rw [if_neg (Classical.not_not.mpr h1)]
    by_cases h2 : sorZ g d = 3
    · rw [if_pos h2, bI_F' (fun hc => hc.2.1 h2)]; rfl
    · rw [if_neg h2]
      by_cases h3 : knZ g d (lvS g)
      · rw [if_neg (Classical.not_not.mpr h3), bI_F' (fun hc => hc.2.2 h3)]; rfl
      · rw [if_pos h3, bI_T' ⟨h1, h2, h3⟩]; rfl
  · rw [if_pos h1, bI_F' (fun hc => h1 hc.1)]; rfl
/-! the class -/
theorem y_unsc (h : LdR s L P g) (hw : WF g) {d w : Int} (hd : dlZ g d) (hs : w = 0 ∨ w = 1) : vX4_unscarredBearer s L P (zI d) (zI w) = (if hasZ (oZ g d 8) w then zI (-1) else zI (oZ g d (6 + w))) ∧ rX4_unscarredBearer s L P (zI d) (zI w) := by
  obtain ⟨e0, r0⟩ := y_bearer (P := P) h.2 hw hd hs
  have c_vp := y_vp hw hd
  obtain ⟨f0, f1, f2, f3, f4, f5, f6, f7, f8⟩ := n_f h.2 hw hd
  unfold vX4_unscarredBearer rX4_unscarredBearer
  rw [f8, e0]
  exact ⟨rfl, c_vp, fun _ => r0⟩
theorem y_oB (hw : WF g) {d w : Int} (hd : dlZ g d) (hs : w = 0 ∨ w = 1) : -1 ≤ oZ g d (6 + w) ∧ oZ g d (6 + w) < g 0 := by
  have hwd := hw.wd hd
  rcases hs with rfl | rfl
  · exact hwd.2.2.2.2.2.2.1
  · exact hwd.2.2.2.2.2.2.2.1
theorem y_isReadable (h : LdR s L P g) (hw : WF g) {d w : Int} (hd : dlZ g d) (hs : w = 0 ∨ w = 1) : vX4_isReadable s L P (zI d) (zI w) = bI (kaZ g d w (lvS g)) ∧ rX4_isReadable s L P (zI d) (zI w) := by
  have h0 := hw.w0
  obtain ⟨e0, r0⟩ := y_unsc h hw hd hs
  have hB := y_oB hw hd hs
  refine ⟨?_, r0⟩
  unfold vX4_isReadable
  rw [e0]
  by_cases h2 : hasZ (oZ g d 8) w
  · simp only [if_pos h2]
    rw [if_pos (show zI (-1) = -1 from rfl), bI_F' (fun hc => hc.2.1 h2)]
  · simp only [if_neg h2]
    simp (disch := omega) only [show (-1 : Int32) = zI (-1) from rfl, z_eq, y_lives h.2, bI_0]
    by_cases h1 : oZ g d (6 + w) = -1
    · rw [if_pos h1, bI_F' (fun hc => by omega)]
    · rw [if_neg h1]
      have hl := lvS_has hw (b := oZ g d (6 + w)) ⟨by omega, by omega⟩
      by_cases h3 : livZ g (oZ g d (6 + w))
      · rw [if_neg (Classical.not_not.mpr h3), bI_T' ⟨by omega, h2, hl.mpr h3⟩]
      · rw [if_pos h3, bI_F' (fun hc => h3 (hl.mp hc.2.2))]
theorem y_isToldBy (h : LdR s L P g) (hw : WF g) {d w st : Int} (hd : dlZ g d) (hs : w = 0 ∨ w = 1) : vX4_isToldBy s L P (zI d) (zI w) (zI st) = bI (kaZ g d w st) ∧ rX4_isToldBy s L P (zI d) (zI w) (zI st) := by
  have h0 := hw.w0
  obtain ⟨e0, r0⟩ := y_unsc h hw hd hs
  have hB := y_oB hw hd hs
  refine ⟨?_, r0⟩
  unfold vX4_isToldBy vX11_isIn
  rw [e0]
  by_cases h2 : hasZ (oZ g d 8) w
  · simp only [if_pos h2]
    rw [if_pos (show zI (-1) = -1 from rfl), bI_F' (fun hc => hc.2.1 h2)]
  · simp only [if_neg h2]
    simp (disch := omega) only [show (-1 : Int32) = zI (-1) from rfl, z_eq, b_n]
    by_cases h1 : oZ g d (6 + w) = -1
    · rw [if_pos h1, bI_F' (fun hc => by omega)]
    · rw [if_neg h1]
      by_cases h3 : hasZ st (oZ g d (6 + w))
      · rw [if_neg (Classical.not_not.mpr h3), bI_T' ⟨by omega, h2, h3⟩]
      · rw [if_pos h3, bI_F' (fun hc => h3 hc.2.2)]
theorem y_sort (h : LdR s L P g) (hw : WF g) {d : Int} (hd : dlZ g d) : gI s (P + 6) (gI s (L + 4) (zI d).toNatClampNeg).toNatClampNeg = zI (sorZ g d) ∧ vp_in (gI s (L + 4) (zI d).toNatClampNeg) 6 := by
  have h0 := hw.w0
  have hwd := hw.wd hd
  obtain ⟨f0, f1, f2, f3, f4, f5, f6, f7, f8⟩ := n_f h.2 hw hd
  rw [f3, z_cl (by omega), z_in (by omega)]
  exact ⟨(h.1.2.2 _ hwd.2.2.2.1).2, by omega⟩
theorem y_size (h : LdR s L P g) (hw : WF g) {d : Int} (hd : dlZ g d) : gI s (P + 5) (gI s (L + 4) (zI d).toNatClampNeg).toNatClampNeg = zI (sizZ g d) := by
  have h0 := hw.w0
  have hwd := hw.wd hd
  obtain ⟨f0, f1, f2, f3, f4, f5, f6, f7, f8⟩ := n_f h.2 hw hd
  rw [f3, z_cl (by omega)]
  exact (h.1.2.2 _ hwd.2.2.2.1).1
theorem kn_if {a b : Int32} {g : Nat → Int} {d st : Int} (h5 : 0 ≤ sorZ g d ∧ sorZ g d ≤ 4) (e0 : a = bI (kaZ g d 0 st)) (e1 : b = bI (kaZ g d 1 st)) : (if zI (sorZ g d) = (4 : Int32) then (if a = 0 then (0 : Int32) else if b = 0 then 0 else 1) else (if a = 0 then (if b = 0 then 0 else 1) else 1)) = bI (knZ g d st) := by
  subst e0 e1
  simp (disch := omega) only [zl4, z_eq, bI_0]
  by_cases h4 : sorZ g d = 4
  · rw [if_pos h4]
    by_cases hA : kaZ g d 0 st
    · rw [if_neg (Classical.not_not.mpr hA)]
      by_cases hB : kaZ g d 1 st
      · rw [if_neg (Classical.not_not.mpr hB), bI_T' (Or.inl ⟨h4, hA, hB⟩)]
      · rw [if_pos hB, bI_F' (fun hc => hc.elim (fun q => hB q.2.2) (fun q => q.1 h4))]
    · rw [if_pos hA, bI_F' (fun hc => hc.elim (fun q => hA q.2.1) (fun q => q.1 h4))]
  · rw [if_neg h4]
    by_cases hA : kaZ g d 0 st
    · rw [if_neg (Classical.not_not.mpr hA), bI_T' (Or.inr ⟨h4, Or.inl hA⟩)]
    · rw [if_pos hA]
      by_cases hB : kaZ g d 1 st
      · rw [if_neg (Classical.not_not.mpr hB), bI_T' (Or.inr ⟨h4, Or.inr hB⟩)]
      · rw [if_pos hB, bI_F' (fun hc => hc.elim (fun q => h4 q.1) (fun q => q.2.elim hA hB))]
theorem y_isKnown (h : LdR s L P g) (hw : WF g) {d : Int} (hd : dlZ g d) : vX4_isKnown s L P (zI d) = bI (knZ g d (lvS g)) ∧ rX4_isKnown s L P (zI d) := by
  obtain ⟨e0, r0⟩ := y_isReadable h hw (w := 0) hd (Or.inl rfl)
  obtain ⟨e1, r1⟩ := y_isReadable h hw (w := 1) hd (Or.inr rfl)
  obtain ⟨e2, r2⟩ := y_sort h hw hd
  unfold vX4_isKnown rX4_isKnown
  rw [e2]
  exact ⟨kn_if (hw.siz hd).2 e0 e1, r0, r1, y_vp hw hd, r2⟩
theorem y_isKnownBy (h : LdR s L P g) (hw : WF g) {d st : Int} (hd : dlZ g d) : vX4_isKnownBy s L P (zI d) (zI st) = bI (knZ g d st) ∧ rX4_isKnownBy s L P (zI d) (zI st) := by
  obtain ⟨e0, r0⟩ := y_isToldBy h hw (w := 0) (st := st) hd (Or.inl rfl)
  obtain ⟨e1, r1⟩ := y_isToldBy h hw (w := 1) (st := st) hd (Or.inr rfl)
  obtain ⟨e2, r2⟩ := y_sort h hw hd
  unfold vX4_isKnownBy rX4_isKnownBy
  rw [e2]
  exact ⟨kn_if (hw.siz hd).2 e0 e1, r0, r1, y_vp hw hd, r2⟩
theorem y_isLost (h : LdR s L P g) (hw : WF g) {d : Int} (hd : dlZ g d) : vX4_isLost s L P (zI d) = bI (loZ g d) ∧ rX4_isLost s L P (zI d) := by
  have h0 := hw.w0
  obtain ⟨e0, r0⟩ := y_isKnown h hw hd
  obtain ⟨e1, r1⟩ := y_isOpen (P := P) h.2 hw (d := d) (by omega)
  obtain ⟨e2, r2⟩ := y_sort h hw hd
  have h5 := hw.siz hd
  unfold vX4_isLost rX4_isLost
  rw [e2]
  refine ⟨?_, r1, fun _ => ⟨y_vp hw hd, r2, fun _ => r0⟩⟩
  simp (disch := omega) only [zl3, e0, e1, z_eq, bI_0]
  by_cases h1 : opZ g d
  · rw [if_neg (Classical.not_not.mpr h1)]
    by_cases h2 : sorZ g d = 3
    · rw [if_pos h2, bI_F' (fun hc => hc.2.1 h2)]
    · rw [if_neg h2]
      by_cases h3 : knZ g d (lvS g)
      · rw [if_neg (Classical.not_not.mpr h3), bI_F' (fun hc => hc.2.2 h3)]
      · rw [if_pos h3, bI_T' ⟨h1, h2, h3⟩]
  · rw [if_pos h1, bI_F' (fun hc => h1 hc.1)]
end
