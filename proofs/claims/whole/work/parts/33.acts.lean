section
variable {s : SM} {g : Nat → Int} {L P : Nat}
/-- the bearers of a new DEAL -/
abbrev crZ (g : Nat → Int) (l k : Int) : Int := brG g (lefZ g) l (szZ g k)
abbrev dbZ (g : Nat → Int) (l d k : Int) : Int := brG g (lfO g (szZ g k) (crZ g l k)) d (szZ g k)
def wrZ (g : Nat → Int) (l d sm k : Int) : Nat → Int := wrX g l d sm k (crZ g l k) (dbZ g l d k)
theorem x_writes (h : RR s g) (hw : WF g) {l d k sm : Int} (hl : bdyZ g l) (hd : bdyZ g d) (hk : kndZ g k) (h6 : g 34 < 60) : RR (mX12_writes s (zI l) (zI d) (zI sm) (zI k)) (wrZ g l d sm k) ∧ Fr (fun c => c = 250) s (mX12_writes s (zI l) (zI d) (zI sm) (zI k)) ∧ rX12_writes s (zI l) (zI d) (zI sm) (zI k) := by
  have h0 := hw.w0
  have hK := hw.wk hk
  obtain ⟨e1, r1⟩ := x_sz h hw hk
  obtain ⟨e2, r2⟩ := x_bearerOf h hw (on := -1) hl (m := szZ g k) (by omega) (by omega)
  have hc : brG g (lfO g (szZ g k) (-1)) l (szZ g k) = crZ g l k := brG_c hw hl (fun x hx => by unfold lfO; rw [if_neg (by omega)]; omega)
  rw [hc] at e2
  have hcb : -1 ≤ crZ g l k ∧ crZ g l k < g 0 := brG_b hw hl
  obtain ⟨e3, r3⟩ := x_bearerOf h hw (on := crZ g l k) hd (m := szZ g k) (by omega) (by omega)
  have e3 : vX12_bearerOf s (zI d) (zI (szZ g k)) (zI (crZ g l k)) = zI (dbZ g l d k) := e3
  have A0 := RR_up h 34 (g 34 + 1)
  have F0 : Fr (fun c => c = 250) s (pI s 250 34 (zI (g 34 + 1))) := Fr_pI s _ _ rfl
  obtain ⟨A1, F1, q1⟩ := x_set A0 (d := g 34) (w := 0) (v := l) (by omega) (by omega)
  obtain ⟨A2, F2, q2⟩ := x_set A1 (d := g 34) (w := 1) (v := d) (by omega) (by omega)
  obtain ⟨A3, F3, q3⟩ := x_set A2 (d := g 34) (w := 2) (v := sm) (by omega) (by omega)
  obtain ⟨A4, F4, q4⟩ := x_set A3 (d := g 34) (w := 3) (v := k) (by omega) (by omega)
  obtain ⟨A5, F5, q5⟩ := x_set A4 (d := g 34) (w := 4) (v := g 35) (by omega) (by omega)
  obtain ⟨A6, F6, q6⟩ := x_set A5 (d := g 34) (w := 5) (v := 0) (by omega) (by omega)
  obtain ⟨A7, F7, q7⟩ := x_set A6 (d := g 34) (w := 6) (v := crZ g l k) (by omega) (by omega)
  obtain ⟨A8, F8, q8⟩ := x_set A7 (d := g 34) (w := 7) (v := dbZ g l d k) (by omega) (by omega)
  obtain ⟨A9, F9, q9⟩ := x_set A8 (d := g 34) (w := 8) (v := 0) (by omega) (by omega)
  have y35 := A4 35
  simp (disch := omega) only [stD_lo] at y35
  have y35' : upZ g 34 (g 34 + 1) 35 = g 35 := rfl
  rw [y35'] at y35
  have i34 : ((34 : Int32)).toNatClampNeg = 34 := rfl
  have i35 : ((35 : Int32)).toNatClampNeg = 35 := rfl
  unfold mX12_writes rX12_writes
  dsimp only
  simp only [i34, i35, h 34, e1, z_neg, e2, e3, r1, r2, r3, zl0, zl1, zl2, zl3, zl4, zl5, zl6, zl7, zl8, z_add, forall_eq, y35, q1, q2, q3, q4, q5, q6, q7, q8, q9, and_self, and_true]
  exact ⟨A9, Fr_tr F0 (Fr_tr F1 (Fr_tr F2 (Fr_tr F3 (Fr_tr F4 (Fr_tr F5 (Fr_tr F6 (Fr_tr F7 (Fr_tr F8 F9))))))))⟩
theorem lf_cr {l k : Int} (hw : WF g) (hk : kndZ g k) (hl : bdyZ g l) (h0 : 0 ≤ crZ g l k) : szZ g k ≤ lefZ g (crZ g l k) := by
  have hB := hw.wb hl
  show szZ g k ≤ lefZ g (brG g (lefZ g) l (szZ g k))
  have h1 : 0 ≤ brG g (lefZ g) l (szZ g k) := h0
  unfold brG at h1 ⊢
  split
  · split
    · rename_i h2 h3; exact h3.2.2
    · rename_i h2 h3; rw [if_pos h2, if_neg h3] at h1; omega
  · omega
theorem lf_db {l d k : Int} (hw : WF g) (hk : kndZ g k) (hd : bdyZ g d) (h0 : 0 ≤ dbZ g l d k) : szZ g k ≤ lfO g (szZ g k) (crZ g l k) (dbZ g l d k) := by
  have hB := hw.wb hd
  show szZ g k ≤ lfO g (szZ g k) (crZ g l k) (brG g (lfO g (szZ g k) (crZ g l k)) d (szZ g k))
  have h1 : 0 ≤ brG g (lfO g (szZ g k) (crZ g l k)) d (szZ g k) := h0
  generalize lfO g (szZ g k) (crZ g l k) = lf at h1 ⊢
  unfold brG at h1 ⊢
  split
  · split
    · rename_i h2 h3; exact h3.2.2
    · rename_i h2 h3; rw [if_pos h2, if_neg h3] at h1; omega
  · omega
theorem wy_0 {l d k : Int} (hw : WF g) (hl : bdyZ g l) (hd : bdyZ g d) (hk : kndZ g k) (h : wyZ g l d k = 0) : l ≠ d ∧ livZ g l ∧ livZ g d ∧ bdyZ g (crZ g l k) ∧ bdyZ g (dbZ g l d k) ∧ g 34 < 60 := by
  have h0 := hw.w0
  have h1 : -1 ≤ crZ g l k ∧ crZ g l k < g 0 := brG_b hw hl
  have h2 : -1 ≤ dbZ g l d k ∧ dbZ g l d k < g 0 := brG_b hw hd
  unfold wyZ at h
  split at h
  · omega
  · rename_i q1
    split at h
    · omega
    · rename_i q2
      split at h
      · omega
      · rename_i q3
        split at h
        · omega
        · rename_i q4
          have q2' : ¬ crZ g l k < 0 := q2
          have q3' : ¬ dbZ g l d k < 0 := q3
          exact ⟨fun hc => q1 (Or.inl hc), Classical.byContradiction (fun hc => q1 (Or.inr (Or.inl hc))), Classical.byContradiction (fun hc => q1 (Or.inr (Or.inr hc))), by omega, by omega, by omega⟩
theorem wrZ_wf {l d sm k : Int} (hw : WF g) (hl : bdyZ g l) (hd : bdyZ g d) (hk : kndZ g k) (hsm : 1 ≤ sm ∧ sm ≤ 99) (h : wyZ g l d k = 0) : WF (wrZ g l d sm k) := by
  obtain ⟨h1, -, -, h4, h5, h6⟩ := wy_0 hw hl hd hk h
  exact wrX_wf hw hl hd h1 hsm hk h4 h5 h6 (lf_cr hw hk hl h4.1) (lf_db hw hk hd h5.1)
theorem y_tryWrite_v (s : SM) (L P : Nat) (a b c k : Int32) : vX4_tryWrite s L P a b c k = vX4_wrongToWrite s L P a b k := by
  unfold vX4_tryWrite
  split
  · rename_i h; exact h.symm
  · rfl
theorem y_tryWrite (h : LdR s L P g) (hPL : P + 7 ≤ L) (hw : WF g) {l d k sm : Int} (hl : bdyZ g l) (hd : bdyZ g d) (hk : kndZ g k) (hsm : 1 ≤ sm ∧ sm ≤ 99) : vX4_tryWrite s L P (zI l) (zI d) (zI sm) (zI k) = zI (wyZ g l d k) ∧ LdR (mX4_tryWrite s L P (zI l) (zI d) (zI sm) (zI k)) L P (if wyZ g l d k = 0 then wrZ g l d sm k else g) ∧ Fr (fun c => L ≤ c ∧ c ≤ L + 11) s (mX4_tryWrite s L P (zI l) (zI d) (zI sm) (zI k)) ∧ rX4_tryWrite s L P (zI l) (zI d) (zI sm) (zI k) := by
  have h0 := hw.w0
  have hK := hw.wk hk
  obtain ⟨e1, r1⟩ := y_wrong h hPL hw hl hd hk
  have hy := wyZ_b g l d k
  refine ⟨(y_tryWrite_v _ _ _ _ _ _ _).trans e1, ?_⟩
  have ez : (zI (wyZ g l d k) = 0) = (wyZ g l d k = 0) := by rw [show (0 : Int32) = zI 0 from rfl]; exact propext (z_eq (by omega) (by omega))
  unfold mX4_tryWrite rX4_tryWrite
  simp only [y_wrong_m, e1, ez]
  by_cases hz : wyZ g l d k = 0
  · obtain ⟨h1, h2, h3, h4, h5, h6⟩ := wy_0 hw hl hd hk hz
    simp only [if_pos hz]
    have e2 := y_sz h.1 hw hk
    have vk := y_vk hw hk
    obtain ⟨e3, r3⟩ := y_bearerFor (L := L) h.1 h.2.1.2.2 hw (fun b hb => (h.2.2.1 b hb).1) (y_lbs hw) hl (m := szZ g k) (by omega)
    obtain ⟨e4, r4⟩ := y_debt h hPL hw hd h4 (m := szZ g k) (by omega)
    have e3 : vX4_bearerFor s L P (zI l) (zI (szZ g k)) = zI (crZ g l k) := e3
    have e4 : vX4_debtBearerFor s L P (zI d) (zI (szZ g k)) (zI (crZ g l k)) = zI (dbZ g l d k) := e4
    have v4 := y_vb hw h4
    have v5 := y_vb hw h5
    have hlc := (h.2.2.1 _ h4).1
    have hlt := (h.2.2.1 _ h5).1
    have ec : (zI (crZ g l k)).toNatClampNeg = (crZ g l k).toNat := z_cl (by omega)
    have et : (zI (dbZ g l d k)).toNatClampNeg = (dbZ g l d k).toNat := z_cl (by omega)
    have en : (zI (g 34)).toNatClampNeg = (g 34).toNat := z_cl (by omega)
    have h34 := h.2.1.1
    have h35 := h.2.1.2.1
    have eP : ∀ (u : SM) (i : Nat) (v : Int32), gI (pI u (L + 7) i v) (P + 5) = gI u (P + 5) := fun u i v => by funext i'; exact gI_n u _ _ _ (by omega)
    have vn : vp_in (zI (g 34)) 60 := by rw [z_in (by omega)]; omega
    simp (disch := omega) only [y_debt_m, e2, e3, e4, ec, et, eP, h34, gI_n, gI_s, forall_eq, vk, r1, r3, r4, v4, v5, true_implies, and_true, vn, en]
    obtain ⟨n0, n1, n2, n3, n4, n5, n6, n7, n8⟩ := wrX_new hw l d sm k (crZ g l k) (dbZ g l d k)
    have lo := fun j hj => wrX_lo hw l d sm k (crZ g l k) (dbZ g l d k) (j := j) hj
    have hs := wrX_sp hw l d sm k (crZ g l k) (dbZ g l d k)
    have g34 : wrZ g l d sm k 34 = g 34 + 1 := by unfold wrZ; rw [lo _ (by omega), if_pos rfl]
    have g35 : wrZ g l d sm k 35 = g 35 := by unfold wrZ; rw [lo _ (by omega), if_neg (by omega)]
    have g36 : wrZ g l d sm k 36 = g 36 := by unfold wrZ; rw [lo _ (by omega), if_neg (by omega)]
    have g0 : wrZ g l d sm k 0 = g 0 := hs 0 (by omega)
    refine ⟨⟨PoR_c hw hs (PoR_p (PoR_p (PoR_p (PoR_p (PoR_p (PoR_p (PoR_p (PoR_p (PoR_p (PoR_p (PoR_p (PoR_p h.1 (by omega)) (by omega)) (by omega)) (by omega)) (by omega)) (by omega)) (by omega)) (by omega)) (by omega)) (by omega)) (by omega)) (by omega)), ⟨?_, ?_, ?_⟩, fun b hb => ?_, fun d' hd' => ?_⟩, (Fr_p (Fr_p (Fr_p (Fr_p (Fr_p (Fr_p (Fr_p (Fr_p (Fr_p (Fr_p (Fr_p (Fr_p (Fr_rf _ s) ⟨by omega, by omega⟩) ⟨by omega, by omega⟩) ⟨by omega, by omega⟩) ⟨by omega, by omega⟩) ⟨by omega, by omega⟩) ⟨by omega, by omega⟩) ⟨by omega, by omega⟩) ⟨by omega, by omega⟩) ⟨by omega, by omega⟩) ⟨by omega, by omega⟩) ⟨by omega, by omega⟩) ⟨by omega, by omega⟩), trivial, fun _ => trivial⟩
    · simp (disch := omega) only [gI_n, gI_s, if_true]
      rw [g34]; exact z_add (g 34) 1
    · simp (disch := omega) only [gI_n, gI_s, h35]
      rw [g35]; rfl
    · simp (disch := omega) only [gI_n, gI_s, h.2.1.2.2]
      rw [g36]; rfl
    · have hb' : bdyZ g b := ⟨hb.1, by have := hb.2; omega⟩
      obtain ⟨k1, k2⟩ := h.2.2.1 b hb'
      have hL := wrX_lef hw l d sm (crZ g l k) (dbZ g l d k) hk hb'
      refine ⟨?_, ?_⟩
      · show _ = zI (lefZ (wrX g l d sm k (crZ g l k) (dbZ g l d k)) b)
        rw [hL]
        simp (disch := omega) only [gI_n, gI_s]
        rw [hlc, hlt, k1]
        by_cases q2 : dbZ g l d k = b
        · subst q2
          rw [if_pos rfl, if_pos rfl]
          by_cases q1 : crZ g l k = dbZ g l d k
          · rw [if_pos q1, if_pos (by rw [q1]), q1, z_sub, z_sub]
          · rw [if_neg q1, if_neg (by omega), z_sub, Int.sub_zero]
        · rw [if_neg (by omega), if_neg q2]
          by_cases q1 : crZ g l k = b
          · rw [if_pos q1, if_pos (by rw [q1]), q1, z_sub, Int.sub_zero]
          · rw [if_neg q1, if_neg (by omega), Int.sub_zero, Int.sub_zero]
      · have eX : exZ (wrZ g l d sm k) b = exZ g b := by
          unfold exZ wrZ
          rw [lo _ (by omega), if_neg (by omega)]
        rw [eX]
        simp (disch := omega) only [gI_n]
        exact k2
    · by_cases hn : d' = g 34
      · subst hn
        refine ⟨?_, ?_, ?_, ?_, ?_, ?_, ?_, ?_, ?_⟩ <;> unfold wrZ <;> simp (disch := omega) only [gI_n, gI_s, if_true, n0, n1, n2, n3, n4, n5, n6, n7, n8, h35] <;> rfl
      · have hd2 : dlZ g d' := ⟨hd'.1, by have := hd'.2; omega⟩
        obtain ⟨k0, k1, k2, k3, k4, k5, k6, k7, k8⟩ := h.2.2.2 d' hd2
        have oo := fun w h1 h2 => wrX_old hw l d sm k (crZ g l k) (dbZ g l d k) (w := w) hd2 h1 h2
        have hne : ¬ d'.toNat = (g 34).toNat := by have := hd2.1; omega
        refine ⟨?_, ?_, ?_, ?_, ?_, ?_, ?_, ?_, ?_⟩ <;> unfold wrZ <;> rw [oo _ (by omega) (by omega)] <;> simp (disch := omega) only [gI_n, gI_s, if_neg hne] <;> assumption
  · simp only [if_neg hz]
    exact ⟨h, Fr_rf _ _, r1, fun hc => absurd hc hz⟩
end
