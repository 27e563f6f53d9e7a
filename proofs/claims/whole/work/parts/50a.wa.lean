-- needs: 50.wit
/-! the BODIES of what is open live -/
def WA (g : Nat → Int) : Prop := ∀ d, opZ g d → livZ g (oZ g d 0) ∧ livZ g (oZ g d 1)
theorem WA_mo {g g' : Nat → Int} (h36 : g' 36 = g 36) (hop : ∀ d, opZ g' d → opZ g d ∧ oZ g' d 0 = oZ g d 0 ∧ oZ g' d 1 = oZ g d 1) (h : WA g) : WA g' := fun d hd => by
  obtain ⟨h1, h2, h3⟩ := hop d hd
  have k := h d h1
  unfold livZ at k ⊢
  rw [h36, h2, h3]
  exact k
theorem WA_0 {g : Nat → Int} (h : g 34 = 0) : WA g := fun d hd => by
  have h1 : 0 ≤ d ∧ d < g 34 := hd.1
  omega
theorem WA_st {g : Nat → Int} {d w v : Int} (hd : dlZ g d) (hw : 2 ≤ w ∧ w < 9) (h5 : w = 5 → v ≠ 0) (h : WA g) : WA (stD g d w v) := by
  refine WA_mo (stD_lo g v hd.1 (by omega) (by omega)) (fun e he => ?_) h
  have h1 : 0 ≤ e ∧ e < stD g d w v 34 := he.1
  rw [stD_lo g v hd.1 (by omega) (by omega)] at h1
  have h2 := he.2
  rw [oZ_st g v hd.1 (by omega) (by omega) h1.1 (by omega) (by omega)] at h2
  refine ⟨⟨h1, ?_⟩, ?_, ?_⟩
  · by_cases c : e = d ∧ (5 : Int) = w
    · rw [if_pos c] at h2; exact absurd h2 (h5 c.2.symm)
    · rw [if_neg c] at h2; exact h2
  · rw [oZ_st g v hd.1 (by omega) (by omega) h1.1 (by omega) (by omega), if_neg (by omega)]
  · rw [oZ_st g v hd.1 (by omega) (by omega) h1.1 (by omega) (by omega), if_neg (by omega)]
theorem WA_exA {g : Nat → Int} {b v : Int} (hb : 0 ≤ b ∧ b < 9) (h : WA g) : WA (exA g b v) := by
  refine WA_mo (exA_lo g v hb.1 (by omega)) (fun e he => ?_) h
  have h1 : 0 ≤ e ∧ e < exA g b v 34 := he.1
  rw [exA_lo g v hb.1 (by omega)] at h1
  have o : ∀ w, 0 ≤ w → oZ (exA g b v) e w = oZ g e w := fun w hw => exA_hi g v hb.2 (by omega)
  have h2 := he.2
  rw [o 5 (by omega)] at h2
  exact ⟨⟨h1, h2⟩, o 0 (by omega), o 1 (by omega)⟩
theorem WA_sk {g : Nat → Int} (hw : WF g) {d : Int} (ho : opZ g d) (h : WA g) : WA (skZ g d) := by
  have h0 := hw.w0
  have hd := hw.wd ho.1
  have h67 := hd.2.2.2.2.2.2.2.2.2 ho.2
  unfold skZ
  exact WA_exA (by omega) (WA_exA (by omega) (WA_st ho.1 (by omega) (fun _ => by omega) h))
theorem WA_sc {g : Nat → Int} {d w : Int} (ho : opZ g d) (h : WA g) : WA (scZ g d w) := by
  unfold scZ
  exact WA_st ho.1 (by omega) (fun hc => absurd hc (by omega)) h
theorem WA_35 {g : Nat → Int} {v : Int} (h : WA g) : WA (upZ g 35 v) := by
  refine WA_mo (by unfold upZ; rw [if_neg (by omega)]) (fun e he => ?_) h
  have h1 : 0 ≤ e ∧ e < upZ g 35 v 34 := he.1
  have e34 : upZ g 35 v 34 = g 34 := by unfold upZ; rw [if_neg (by omega)]
  rw [e34] at h1
  have h2 := he.2
  rw [oZ_up g v (by omega) h1.1 (by omega)] at h2
  exact ⟨⟨h1, h2⟩, oZ_up g v (by omega) h1.1 (by omega), oZ_up g v (by omega) h1.1 (by omega)⟩
theorem WA_wr {g : Nat → Int} (hw : WF g) {l d sm k : Int} (hl : livZ g l) (hd : livZ g d) (h : WA g) : WA (wrZ g l d sm k) := by
  have h0 := hw.w0
  intro e he
  unfold wrZ at he ⊢
  have lo : ∀ j, j < 46 → j ≠ 34 → wrX g l d sm k (crZ g l k) (dbZ g l d k) j = g j := fun j h1 h2 => by rw [wrX_lo hw _ _ _ _ _ _ h1, if_neg h2]
  have e34 : wrX g l d sm k (crZ g l k) (dbZ g l d k) 34 = g 34 + 1 := by rw [wrX_lo hw _ _ _ _ _ _ (by omega), if_pos rfl]
  have h1 : 0 ≤ e ∧ e < wrX g l d sm k (crZ g l k) (dbZ g l d k) 34 := he.1
  rw [e34] at h1
  unfold livZ
  rw [lo 36 (by omega) (by omega)]
  by_cases c : e = g 34
  · obtain ⟨n0, n1, -⟩ := wrX_new hw l d sm k (crZ g l k) (dbZ g l d k)
    rw [c, n0, n1]
    exact ⟨hl, hd⟩
  · have hdl : dlZ g e := ⟨h1.1, by omega⟩
    have h2 := he.2
    rw [wrX_old hw _ _ _ _ _ _ hdl (by omega) (by omega)] at h2
    rw [wrX_old hw _ _ _ _ _ _ hdl (by omega) (by omega), wrX_old hw _ _ _ _ _ _ hdl (by omega) (by omega)]
    exact h e ⟨hdl, h2⟩
theorem has_dd {x b c : Int} (hx : 0 ≤ x ∧ x < 512) (hb : 0 ≤ b ∧ b < 9) (hc : 0 ≤ c ∧ c < 9) : hasZ (ddV x b) c ↔ hasZ x c ∨ c = b := by
  obtain ⟨d1, d2⟩ := ddV_n hx hb
  have d0 : 0 ≤ ddV x b := by rw [d1]; exact Int.natCast_nonneg _
  rw [hasZ_n d0 (by omega) hc.1 (by omega), hasZ_n hx.1 (by omega) hc.1 (by omega), d1, Int.toNat_natCast, Nat.testBit_or, Bool.or_eq_true, Nat.testBit_two_pow]
  constructor
  · intro h
    rcases h with h | h
    · exact Or.inl h
    · right
      have := of_decide_eq_true h
      omega
  · intro h
    rcases h with h | h
    · exact Or.inl h
    · right
      exact decide_eq_true (by omega)
theorem WA_bu {g : Nat → Int} (hw : WF g) {b h : Int} (hb : bdyZ g b) (hh : bdyZ g h) (hne : b ≠ h) (hlh : livZ g h) (ha : WA g) : WA (buP g b h (g 34).toNat) := by
  have h0 := hw.w0
  have key : ∀ n : Nat, (n : Int) ≤ g 34 → ∀ e : Int, 0 ≤ e → e < n → oZ (buP g b h n) e 5 = 0 → (oZ (buP g b h n) e 0 ≠ b ∧ livZ g (oZ (buP g b h n) e 0)) ∧ oZ (buP g b h n) e 1 ≠ b ∧ livZ g (oZ (buP g b h n) e 1) := by
    intro n
    induction n with
    | zero => intro _ e h1 h2; omega
    | succ n ih =>
      intro hn e h1 h2 h5
      obtain ⟨i1, i2, i3, i4⟩ := buP_all hw hb hh n
      have e34 : buP g b h n 34 = g 34 := by rw [i2 34 (by omega)]; unfold upZ; rw [if_neg (by omega)]
      have es : buP g b h (n + 1) = buS (buP g b h n) b h n := rfl
      rw [es] at h5 ⊢
      by_cases c : e = n
      · subst c
        unfold buS at h5 ⊢
        by_cases ho : opZ (buP g b h n) n
        · rw [if_pos ho] at h5 ⊢
          have o5 : oZ g n 5 = 0 := by rw [← i4 n 5 (by omega) (by omega) (by omega)]; exact ho.2
          have al := ha n ⟨⟨by omega, by omega⟩, o5⟩
          rw [bu3_oZ _ _ _ _ h1 h1 (show (0 : Int) ≤ 0 by omega) (show (0 : Int) < 9 by omega), bu3_oZ _ _ _ _ h1 h1 (show (0 : Int) ≤ 1 by omega) (show (1 : Int) < 9 by omega)]
          simp only [if_true, show ((1 : Int) = 0) = False from eq_false (by decide), if_false]
          rw [i4 n 0 (by omega) (by omega) (by omega), i4 n 1 (by omega) (by omega) (by omega)]
          refine ⟨?_, ?_⟩
          · by_cases c0 : oZ g n 0 = b
            · rw [if_pos c0]; exact ⟨fun hc => hne hc.symm, hlh⟩
            · rw [if_neg c0]; exact ⟨c0, al.1⟩
          · by_cases c0 : oZ g n 1 = b
            · rw [if_pos c0]; exact ⟨fun hc => hne hc.symm, hlh⟩
            · rw [if_neg c0]; exact ⟨c0, al.2⟩
        · rw [if_neg ho] at h5
          exact absurd ⟨⟨h1, by rw [e34]; omega⟩, h5⟩ ho
      · rw [buS_old h1 c (by omega) (by omega)] at h5
        rw [buS_old h1 c (by omega) (by omega), buS_old h1 c (by omega) (by omega)]
        exact ih (by omega) e h1 (by omega) h5
  obtain ⟨i1, i2, i3, i4⟩ := buP_all hw hb hh (g 34).toNat
  have e34 : buP g b h (g 34).toNat 34 = g 34 := by rw [i2 34 (by omega)]; unfold upZ; rw [if_neg (by omega)]
  have e36 : buP g b h (g 34).toNat 36 = ddV (g 36) b := by rw [i2 36 (by omega)]; unfold upZ; rw [if_pos rfl]
  have e0 : buP g b h (g 34).toNat 0 = g 0 := by rw [i2 0 (by omega)]; unfold upZ; rw [if_neg (by omega)]
  intro e he
  have h1 : 0 ≤ e ∧ e < buP g b h (g 34).toNat 34 := he.1
  have hwd := i1.wd he.1
  have hd1 := hwd.1
  have hd2 := hwd.2.1
  rw [e0] at hd1 hd2
  rw [e34] at h1
  obtain ⟨k1, k2⟩ := key (g 34).toNat (by omega) e h1.1 (by omega) he.2
  unfold livZ
  rw [e36, has_dd h0.2.2.2.2.2.2 (by omega) (by omega), has_dd h0.2.2.2.2.2.2 (by omega) (by omega)]
  exact ⟨fun hc => hc.elim k1.2 k1.1, fun hc => hc.elim k2.2 k2.1⟩
