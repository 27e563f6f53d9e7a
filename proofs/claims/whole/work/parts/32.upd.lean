/-- what stays: all cells but those of A; longs and script -/
def Fr (A : Nat → Prop) (s t : SM) : Prop := (∀ c, ¬ A c → gI t c = gI s c) ∧ gL t = gL s ∧ t.2.2.2 = s.2.2.2
theorem Fr_rf (A : Nat → Prop) (s : SM) : Fr A s s := ⟨fun _ _ => rfl, rfl, rfl⟩
theorem Fr_tr {A : Nat → Prop} {s t u : SM} (h1 : Fr A s t) (h2 : Fr A t u) : Fr A s u := ⟨fun c hc => (h2.1 c hc).trans (h1.1 c hc), h2.2.1.trans h1.2.1, h2.2.2.trans h1.2.2⟩
theorem Fr_mo {A B : Nat → Prop} {s t : SM} (h : Fr A s t) (hAB : ∀ c, A c → B c) : Fr B s t := ⟨fun c hc => h.1 c (fun ha => hc (hAB c ha)), h.2⟩
theorem Fr_pI {A : Nat → Prop} (s : SM) {c : Nat} (i : Nat) (v : Int32) (hc : A c) : Fr A s (pI s c i v) := ⟨fun c' hc' => by
  funext i'
  rw [gI_pI, if_neg (fun hq => hc' (by rw [hq.1]; exact hc))], rfl, rfl⟩
theorem Fr_p {A : Nat → Prop} {s t : SM} {c i : Nat} {v : Int32} (h : Fr A s t) (hc : A c) : Fr A s (pI t c i v) := Fr_tr h (Fr_pI t i v hc)
theorem gI_n (s : SM) {c c' : Nat} (i : Nat) (v : Int32) (i' : Nat) (h : c' ≠ c) : gI (pI s c i v) c' i' = gI s c' i' := by rw [gI_pI, if_neg (fun hq => h hq.1)]
theorem gI_s (s : SM) (c i : Nat) (v : Int32) (i' : Nat) : gI (pI s c i v) c i' = if i' = i then v else gI s c i' := by rw [gI_pI]; by_cases h : i' = i <;> simp [h]
def upZ (g : Nat → Int) (k : Nat) (v : Int) : Nat → Int := fun j => if j = k then v else g j
def stD (g : Nat → Int) (d w v : Int) : Nat → Int := upZ g (46 + 9 * d + w).toNat v
theorem stD_lo (g : Nat → Int) {d w : Int} (v : Int) (hd : 0 ≤ d) (hw : 0 ≤ w) {k : Nat} (hk : k < 46) : stD g d w v k = g k := by unfold stD upZ; rw [if_neg (by omega)]
theorem stD_hi (g : Nat → Int) {d w : Int} (v : Int) (hd : d < 60) (hw : w < 9) {k : Nat} (hk : 586 ≤ k) : stD g d w v k = g k := by unfold stD upZ; rw [if_neg (by omega)]
theorem oZ_st (g : Nat → Int) {d w d' w' : Int} (v : Int) (hd : 0 ≤ d) (hw : 0 ≤ w) (hw9 : w < 9) (hd' : 0 ≤ d') (hw' : 0 ≤ w') (hw9' : w' < 9) : oZ (stD g d w v) d' w' = if d' = d ∧ w' = w then v else oZ g d' w' := by
  unfold oZ stD upZ
  by_cases h : d' = d ∧ w' = w
  · rw [if_pos (by rw [h.1, h.2]), if_pos h]
  · rw [if_neg (by omega), if_neg h]
theorem oZ_up (g : Nat → Int) {k : Nat} (v : Int) (hk : k < 46) {d w : Int} (hd : 0 ≤ d) (hw : 0 ≤ w) : oZ (upZ g k v) d w = oZ g d w := by
  unfold oZ upZ; rw [if_neg (by omega)]
/-- the port's part is one -/
abbrev SP (g g' : Nat → Int) : Prop := ∀ k, k < 34 → g' k = g k
theorem SP_tr {g g' g'' : Nat → Int} (h : SP g g') (h' : SP g' g'') : SP g g'' := fun k hk => (h' k hk).trans (h k hk)
theorem SP_st (g : Nat → Int) {d w : Int} (v : Int) (hd : 0 ≤ d) (hw : 0 ≤ w) : SP g (stD g d w v) := fun _ hk => stD_lo g v hd hw (by omega)
theorem SP_up (g : Nat → Int) {k : Nat} (v : Int) (hk : 34 ≤ k) : SP g (upZ g k v) := fun j hj => by unfold upZ; rw [if_neg (by omega)]
theorem SP_rm {g g' : Nat → Int} (h : SP g g') {b : Int} (h1 : b < 9) : rmZ g' b = rmZ g b := h _ (by omega)
theorem SP_ki {g g' : Nat → Int} (h : SP g g') {b : Int} (h1 : b < 9) : kiZ g' b = kiZ g b := h _ (by omega)
theorem SP_sz {g g' : Nat → Int} (h : SP g g') {b : Int} (h1 : b < 6) : szZ g' b = szZ g b := h _ (by omega)
theorem SP_so {g g' : Nat → Int} (h : SP g g') {b : Int} (h1 : b < 6) : soZ g' b = soZ g b := h _ (by omega)
theorem PoR_c {s : SM} {P : Nat} {g g' : Nat → Int} (hw : WF g) (hs : SP g g') (h : PoR s P g) : PoR s P g' := by
  have h0 := hw.w0
  obtain ⟨⟨h1, h2, h3, h4⟩, h5, h6⟩ := h
  refine ⟨⟨?_, ?_, ?_, ?_⟩, fun b hb => ?_, fun k hk => ?_⟩
  · rw [hs 0 (by omega)]; exact h1
  · rw [hs 1 (by omega)]; exact h2
  · rw [hs 2 (by omega)]; exact h3
  · rw [hs 3 (by omega)]; exact h4
  · have hb' : bdyZ g b := by have := hs 0 (by omega); exact ⟨hb.1, by have := hb.2; omega⟩
    rw [SP_rm hs (by omega), SP_ki hs (by omega)]; exact h5 b hb'
  · have hk' : kndZ g k := by have := hs 1 (by omega); exact ⟨hk.1, by have := hk.2; omega⟩
    rw [SP_sz hs (by omega), SP_so hs (by omega)]; exact h6 k hk'
section
variable {s : SM} {g : Nat → Int}
theorem RR_up (h : RR s g) (k : Nat) (v : Int) : RR (pI s 250 k (zI v)) (upZ g k v) := by
  intro j
  rw [gI_s]
  unfold upZ
  by_cases hj : j = k
  · rw [if_pos hj, if_pos hj]
  · rw [if_neg hj, if_neg hj]; exact h j
theorem x_set (h : RR s g) {d w v : Int} (h0 : 0 ≤ 46 + 9 * d + w) (h1 : 46 + 9 * d + w < 787) : RR (mX12_set s (zI d) (zI w) (zI v)) (stD g d w v) ∧ Fr (fun c => c = 250) s (mX12_set s (zI d) (zI w) (zI v)) ∧ rX12_set s (zI d) (zI w) (zI v) := by
  unfold mX12_set rX12_set
  rw [show (46 : Int32) = zI 46 from rfl, show (9 : Int32) = zI 9 from rfl, z_mul, z_add, z_add, z_cl (by omega), z_in (by omega)]
  exact ⟨RR_up h _ _, Fr_pI s _ _ rfl, by omega, by omega⟩
end
/-- WRITE done: the credit on c, the debt on t -/
def wrX (g : Nat → Int) (l d sm k c t : Int) : Nat → Int := stD (stD (stD (stD (stD (stD (stD (stD (stD (upZ g 34 (g 34 + 1)) (g 34) 0 l) (g 34) 1 d) (g 34) 2 sm) (g 34) 3 k) (g 34) 4 (g 35)) (g 34) 5 0) (g 34) 6 c) (g 34) 7 t) (g 34) 8 0
theorem wrX_lo {g : Nat → Int} (hw : WF g) (l d sm k c t : Int) {j : Nat} (hj : j < 46) : wrX g l d sm k c t j = if j = 34 then g 34 + 1 else g j := by
  have h0 := hw.w0
  unfold wrX
  simp (disch := omega) only [stD_lo]
  rfl
theorem wrX_sp {g : Nat → Int} (hw : WF g) (l d sm k c t : Int) : SP g (wrX g l d sm k c t) := fun j hj => by rw [wrX_lo hw l d sm k c t (by omega), if_neg (by omega)]
theorem wrX_hi {g : Nat → Int} (hw : WF g) (h6 : g 34 < 60) (l d sm k c t : Int) {j : Nat} (hj : 586 ≤ j) : wrX g l d sm k c t j = g j := by
  unfold wrX
  simp (disch := omega) only [stD_hi]
  unfold upZ
  rw [if_neg (by omega)]
theorem wrX_old {g : Nat → Int} (hw : WF g) (l d sm k c t : Int) {d' w : Int} (hd : dlZ g d') (h1 : 0 ≤ w) (h2 : w < 9) : oZ (wrX g l d sm k c t) d' w = oZ g d' w := by
  have h0 := hw.w0
  unfold wrX
  simp (disch := omega) only [oZ_st, oZ_up]
  simp only [show ¬ d' = g 34 from by omega, false_and, if_false]
theorem wrX_new {g : Nat → Int} (hw : WF g) (l d sm k c t : Int) : oZ (wrX g l d sm k c t) (g 34) 0 = l ∧ oZ (wrX g l d sm k c t) (g 34) 1 = d ∧ oZ (wrX g l d sm k c t) (g 34) 2 = sm ∧ oZ (wrX g l d sm k c t) (g 34) 3 = k ∧ oZ (wrX g l d sm k c t) (g 34) 4 = g 35 ∧ oZ (wrX g l d sm k c t) (g 34) 5 = 0 ∧ oZ (wrX g l d sm k c t) (g 34) 6 = c ∧ oZ (wrX g l d sm k c t) (g 34) 7 = t ∧ oZ (wrX g l d sm k c t) (g 34) 8 = 0 := by
  have h0 := hw.w0
  unfold wrX
  simp (disch := omega) only [oZ_st, oZ_up, Int.reduceAdd, Int.reduceSub, Int.reduceMul, Int.reduceNeg, Int.reduceLT, Int.reduceLE, Int.reduceToNat, Int.reduceEq, if_true, if_false, true_and, and_true, not_true, not_false_eq_true, false_implies, true_implies, imp_self, and_self]
theorem wrX_lef {g : Nat → Int} (hw : WF g) (l d sm c t : Int) {k : Int} (hk : kndZ g k) {b : Int} (hb : bdyZ g b) : lefZ (wrX g l d sm k c t) b = lefZ g b - (if c = b then szZ g k else 0) - (if t = b then szZ g k else 0) := by
  have h0 := hw.w0
  have hs := wrX_sp hw l d sm k c t
  obtain ⟨n0, n1, n2, n3, n4, n5, n6, n7, n8⟩ := wrX_new hw l d sm k c t
  have e34 : wrX g l d sm k c t 34 = g 34 + 1 := by rw [wrX_lo hw _ _ _ _ _ _ (by omega), if_pos rfl]
  have eN : (wrX g l d sm k c t 34).toNat = (g 34).toNat + 1 := by rw [e34]; omega
  have eS : sumZ (mkZ (wrX g l d sm k c t) b) (g 34).toNat = sumZ (mkZ g b) (g 34).toNat := sumZ_c _ (fun d' h1 h2 => by
    have hd : dlZ g d' := ⟨h1, by omega⟩
    have hk' := (hw.wd hd).2.2.2.1
    unfold mkZ sizZ
    rw [wrX_old hw _ _ _ _ _ _ hd (by omega) (by omega), wrX_old hw _ _ _ _ _ _ hd (by omega) (by omega), wrX_old hw _ _ _ _ _ _ hd (by omega) (by omega), SP_sz hs (by omega)])
  have eX : exZ (wrX g l d sm k c t) b = exZ g b := by
    unfold exZ
    rw [wrX_lo hw _ _ _ _ _ _ (by omega), if_neg (by omega)]
  unfold lefZ
  rw [eN, sumZ, eS, SP_rm hs (by omega), eX]
  have eM : mkZ (wrX g l d sm k c t) b ((g 34).toNat : Int) = (if c = b then szZ g k else 0) + (if t = b then szZ g k else 0) := by
    rw [Int.toNat_of_nonneg (by omega)]
    unfold mkZ sizZ
    rw [n6, n7, n3, SP_sz hs (by omega)]
  rw [eM]
  omega
theorem wrX_wf {g : Nat → Int} (hw : WF g) {l d sm k c t : Int} (hl : bdyZ g l) (hd : bdyZ g d) (hld : l ≠ d) (hsm : 1 ≤ sm ∧ sm ≤ 99) (hk : kndZ g k) (hc : bdyZ g c) (ht : bdyZ g t) (h6 : g 34 < 60) (hc2 : szZ g k ≤ lefZ g c) (ht2 : szZ g k ≤ lfO g (szZ g k) c t) : WF (wrX g l d sm k c t) := by
  have h0 := hw.w0
  have hs := wrX_sp hw l d sm k c t
  have lo := fun j hj => wrX_lo hw l d sm k c t (j := j) hj
  have e0 := hs 0 (by omega)
  have e1 := hs 1 (by omega)
  have e2 := hs 2 (by omega)
  have e3 := hs 3 (by omega)
  have e34 : wrX g l d sm k c t 34 = g 34 + 1 := by rw [lo _ (by omega), if_pos rfl]
  have e35 : wrX g l d sm k c t 35 = g 35 := by rw [lo _ (by omega), if_neg (by omega)]
  have e36 : wrX g l d sm k c t 36 = g 36 := by rw [lo _ (by omega), if_neg (by omega)]
  obtain ⟨n0, n1, n2, n3, n4, n5, n6, n7, n8⟩ := wrX_new hw l d sm k c t
  have hK := hw.wk hk
  refine ⟨?_, fun b hb => ?_, fun k' hk' => ?_, fun d' hd' => ?_⟩
  · unfold W0; rw [e0, e1, e2, e3, e34, e35, e36]; omega
  · have hb' : bdyZ g b := ⟨hb.1, by have := hb.2; omega⟩
    have hB := hw.wb hb'
    have hL := wrX_lef hw l d sm c t hk hb'
    have eX : exZ (wrX g l d sm k c t) b = exZ g b := by
      unfold exZ
      rw [lo _ (by omega), if_neg (by omega)]
    have hT : lfO g (szZ g k) c t = lefZ g t - (if t = c then szZ g k else 0) := rfl
    unfold WB
    rw [hL, eX, SP_rm hs (by omega), SP_ki hs (by omega), e0]
    refine ⟨hB.1, hB.2.1, hB.2.2.1, ?_⟩
    have := hB.2.2.2
    by_cases q1 : c = b
    · by_cases q2 : t = b
      · rw [if_pos (by omega : t = c)] at hT
        subst q1 q2
        rw [if_pos rfl]; omega
      · rw [if_pos q1, if_neg q2, ← q1]; omega
    · by_cases q2 : t = b
      · rw [if_neg (by omega : ¬ t = c)] at hT
        rw [if_neg q1, if_pos q2, ← q2]; omega
      · rw [if_neg q1, if_neg q2]; omega
  · have hk2 : kndZ g k' := ⟨hk'.1, by have := hk'.2; omega⟩
    have := hw.wk hk2
    unfold WK
    rw [SP_sz hs (by omega), SP_so hs (by omega)]
    exact this
  · by_cases hn : d' = g 34
    · subst hn
      unfold WD
      rw [n0, n1, n2, n3, n4, n5, n6, n7, n8, e0, e1]
      omega
    · have hd2 : dlZ g d' := ⟨hd'.1, by have := hd'.2; omega⟩
      have := hw.wd hd2
      have oo := fun w h1 h2 => wrX_old hw l d sm k c t (w := w) hd2 h1 h2
      unfold WD
      rw [oo 0 (by omega) (by omega), oo 1 (by omega) (by omega), oo 2 (by omega) (by omega), oo 3 (by omega) (by omega), oo 4 (by omega) (by omega), oo 5 (by omega) (by omega), oo 6 (by omega) (by omega), oo 7 (by omega) (by omega), oo 8 (by omega) (by omega), e0, e1]
      exact this
