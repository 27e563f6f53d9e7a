theorem wd_obj1 : Cond.instanceMethod objectInit ∈ TS := ts_mem (i := 134) (by decide +kernel) (by decide +kernel)
theorem wd_obj2 : Cond.code Lib.objectInit ⟨#[0xb1]⟩ 1 none ∈ TS := ts_mem (i := 135) (by decide +kernel) (by decide +kernel)
theorem wd_min1 : Cond.static Lib.Math.min.name ∈ TS := ts_mem (i := 670) (by decide +kernel) (by decide +kernel)
theorem wd_min2 : Cond.code Lib.Math.min.name Lib.Math.min.code 2 (some .int) ∈ TS := ts_mem (i := 671) (by decide +kernel) (by decide +kernel)
theorem wd_max1 : Cond.static Lib.Math.max.name ∈ TS := ts_mem (i := 955) (by decide +kernel) (by decide +kernel)
theorem wd_max2 : Cond.code Lib.Math.max.name Lib.Math.max.code 2 (some .int) ∈ TS := ts_mem (i := 956) (by decide +kernel) (by decide +kernel)
theorem wd_Math : Cond.initialized "java/lang/Math" ∈ TS := ts_mem (i := 121) (by decide +kernel) (by decide +kernel)
theorem wd_ac1 : Cond.native arraycopyName ∈ TS := ts_mem (i := 773) (by decide +kernel) (by decide +kernel)
theorem wd_ac2 : Cond.static arraycopyName ∈ TS := ts_mem (i := 772) (by decide +kernel) (by decide +kernel)
theorem wd_System : Cond.initialized "java/lang/System" ∈ TS := ts_mem (i := 122) (by decide +kernel) (by decide +kernel)

theorem mN_wN (m : JMem) : mN (wN m) = mN m + 1 := rfl
/-- a cell more -/
theorem jM_app {D : va_G} {a0 : Nat} {bw : Nat × Nat} {m : JMem} {U : State} {H : Heap} {ws : va_W} (hM : jM D a0 bw m U H ws) {H1 : Heap} {q : Nat} {e : va_E} {tys1 : List (ClassId × FieldType)} (ht : ∀ (tys : List (ClassId × FieldType)), va_K D vwCl tys U → va_K D vwCl (tys ++ tys1) U)
    (hP1 : va_P D vwCl (ws ++ [(q, e)]) H1) (hD1 : va_D (fun q : Nat => a0 ≤ q) (ws ++ [(q, e)])) (hE1 : ∀ tys : List (ClassId × FieldType), (mI m (mN m) = fun _ => 0) → (mL m (mN m) = fun _ => 0) → (mR m (mN m) = fun _ => none) → jE (jad bw (ws ++ [(q, e)])) (wN m) (tys ++ tys1) (mN m) e) :
    jM D a0 bw (wN m) U H1 (ws ++ [(q, e)]) ∧ jad bw ws <+: jad bw (ws ++ [(q, e)]) ∧ (mN m) < (jad bw (ws ++ [(q, e)])).length ∧ jv (jad bw (ws ++ [(q, e)])) (.ref (mN m)) = .ref q := by
  obtain ⟨tys, hK, hP, hD, hlen, hE, hfr⟩ := hM
  have hpre : jad bw ws <+: jad bw (ws ++ [(q, e)]) := ⟨[q], by rw [jad_app]⟩
  have hg : (ws ++ [(q, e)])[ws.length]? = some (q, e) := by simp
  have hat := jad_get (bw := bw) hg
  rw [hlen] at hat
  refine ⟨⟨tys ++ tys1, ht tys hK, hP1, hD1, by rw [List.length_append, mN_wN]; simp; omega, ?_, ?_⟩, hpre, (List.getElem?_eq_some_iff.mp hat).1, jv_at hat⟩
  · intro k z hz
    rcases Nat.lt_or_ge k ws.length with h | h
    · rw [List.getElem?_append_left h] at hz
      exact jE_congr (m := m) rfl rfl rfl (jE_mono hpre (fun t q9 h9 => by rw [List.getElem?_append_left (List.getElem?_eq_some_iff.mp h9).1]; exact h9) (hE k z hz))
    · have hk : k = ws.length := by
        have := (List.getElem?_eq_some_iff.mp hz).1
        rw [List.length_append] at this
        simp at this
        omega
      subst hk
      rw [hg] at hz
      cases hz
      rw [hlen]
      obtain ⟨g1, g2, g3⟩ := hfr (mN m) (Nat.le_refl _)
      exact hE1 tys g1 g2 g3
  · intro c hc
    rw [mN_wN] at hc
    exact hfr c (by omega)
def jCL (own : String) (idx ci N : Nat) : Prop := ∃ C T, vwCl[ci]? = some (C, T, N) ∧ Cond.classLink own idx C ∈ TS ∧ Cond.instantiable C N ∈ TS ∧ Cond.initialized C ∈ TS

theorem JT_new {M : MT} {d mc ms pc : Nat} {lv : List (Nat × Value)} {st : List Value} {m : JMem} {Q : Option Value → JMem → Prop} {idx ci N : Nat} (hd : decode M.2.2.1 pc = .ok (.new idx, 3)) (hcl : jCL M.1 idx ci N) (hb : BS (mN m) = (none, ci)) (k : JT M d mc ms (pc + 3) lv (.ref (mN m) :: st) (wN m) Q) : JT M d (mc + 1) (ms + N) pc lv st m Q := by
  intro p l e R s mid args below meth c H locs cells slots MC MS D a0 bw X ad0 ws ls Qf hc hX hRO hRm hM had hS hl hwl hws hend
  obtain ⟨hx, hbz, hml, hown, hts, hrz, hlk, hnm⟩ := id hc
  obtain ⟨C, T, hcl, hw1, hw2, hw3⟩ := hcl
  obtain ⟨g1, g2, g3, g4, g5, g6⟩ := hRm
  have hK : ∃ tys, va_K D vwCl tys s ∧ va_P D vwCl ws H ∧ va_D (fun q : Nat => a0 ≤ q) ws := by
    obtain ⟨tys, h1, h2, h3, -⟩ := hM; exact ⟨tys, h1, h2, h3⟩
  obtain ⟨tys, hK, hP, hD⟩ := hK
  refine va_new (fs := (List.range N).map (fun j => defaultValue (CFT ci j))) hx hbz hts (jin hcl) (CFT ci) (jty hcl) hown (hts _ hw1) (hts _ hw2) (hts _ hw3) hK hP hD hS (fun q hq => Nat.le_trans hRO.2.2.2.2.1 hq) hcl (fun j hj => by simp [vp_V, hj]) (by omega) (by omega) hd (fun q H1 hP1 hD1 hS1 => ?_)
  obtain ⟨hM1, hpre, hlt, hvn⟩ := jM_app (tys1 := []) hM (fun t h => by rw [List.append_nil]; exact h) hP1 hD1 (fun tys9 h1 h2 h3 => jE_of_o hb ⟨_, _, rfl, hcl, by simp, fun j v hj => by
    obtain ⟨hjN, hj⟩ : j < N ∧ defaultValue (CFT ci j) = v := by
      rw [List.getElem?_map] at hj
      by_cases h9 : j < N
      · rw [List.getElem?_range h9] at hj; exact ⟨h9, Option.some.inj hj⟩
      · rw [List.getElem?_eq_none (by simp; omega)] at hj; cases hj
    subst hj
    have hok := jokT hcl j hjN
    have e1 : mI (wN m) (mN m) j = 0 := by show mI m (mN m) j = 0; rw [h1]
    have e2 : mL (wN m) (mN m) j = 0 := by show mL m (mN m) j = 0; rw [h2]
    have e3 : mR (wN m) (mN m) j = none := by show mR m (mN m) j = none; rw [h3]
    unfold jf
    rw [e1, e2, e3]
    generalize CFT ci j = ty at hok ⊢
    cases ty <;> first | (cases hok; done) | rfl | exact ⟨none, rfl, rfl⟩⟩)
  have hk := k p l e R s mid args below meth c H1 locs (cells + 1) (slots + N) MC MS D a0 bw X ad0 _ ls Qf hc hX hRO ⟨g1, g2, by omega, by omega, g5, g6⟩ hM1 (had.trans hpre) hS1 (by rw [(jwl_mono hpre hwl).2]; exact hl) (jwl_mono hpre hwl).1 (jws_c hlt (jws_mono hpre hws).1) hend
  simp only [List.map_cons, hvn, (jws_mono hpre hws).2] at hk
  exact hk
theorem JT_newa_int {M : MT} {d mc ms pc : Nat} {lv : List (Nat × Value)} {st : List Value} {m : JMem} {Q : Option Value → JMem → Prop} {n : Int32} {N : Nat} (hd : decode M.2.2.1 pc = .ok (.newarray .int, 2)) (hw : Cond.arrayClass .int ∈ TS) (hb : BS (mN m) = (some .int, N)) (hn : ¬ n < 0) (hnN : n.toNatClampNeg = N) (hsm : N ≤ 10000) (k : JT M d mc ms (pc + 2) lv (.ref (mN m) :: st) (wN m) Q) : JT M d (mc + 1) (ms + N) pc lv (.int n :: st) m Q := by
  intro p l e R s mid args below meth c H locs cells slots MC MS D a0 bw X ad0 ws ls Qf hc hX hRO hRm hM had hS hl hwl hws hend
  obtain ⟨hx, hbz, hml, hown, hts, hrz, hlk, hnm⟩ := id hc
  obtain ⟨g1, g2, g3, g4, g5, g6⟩ := hRm
  have hK : ∃ tys, va_K D vwCl tys s ∧ va_P D vwCl ws H ∧ va_D (fun q : Nat => a0 ≤ q) ws := by
    obtain ⟨tys, h1, h2, h3, -⟩ := hM; exact ⟨tys, h1, h2, h3⟩
  obtain ⟨tys, hK, hP, hD⟩ := hK
  refine va_newa (a0 := (N, .inl (fun _ => 0))) hx hbz (atype := .int) (hts _ hw) (ty := .int) rfl hK hP hD hS (fun q hq => Nat.le_trans hRO.2.2.2.2.1 hq) (fun _ => rfl) hn hnN (by show N * _ ≤ _; simp only [componentBytes]; omega) (by omega) (by omega) hd (fun q cA H1 hK1 hP1 hD1 hS1 => ?_)
  obtain ⟨hM1, hpre, hlt, hvn⟩ := jM_app (tys1 := [(cA, .int)]) hM (fun t h => h.app ⟨h.1, fun k9 q9 h9 => by
    obtain rfl : q9 = (cA, .int) := by
      cases k9 with
      | zero => exact (Option.some.inj h9).symm
      | succ n => cases h9
    exact hK1.2 tys.length _ (by simp)⟩) hP1 hD1 (fun tys9 h1 h2 h3 => jE_of_a hb ⟨cA, _, tys9.length, rfl, by simp, by
      show _ = _
      first | (rw [show mI (wN m) (mN m) = fun _ => 0 from h1]) | (rw [show mL (wN m) (mN m) = fun _ => 0 from h2])⟩)
  have hk := k p l e R s mid args below meth c H1 locs (cells + 1) (slots + N) MC MS D a0 bw X ad0 _ ls Qf hc hX hRO ⟨g1, g2, by omega, by omega, g5, g6⟩ hM1 (had.trans hpre) hS1 (by rw [(jwl_mono hpre hwl).2]; exact hl) (jwl_mono hpre hwl).1 (jws_c hlt (jws_mono hpre (jws_t hws)).1) hend
  simp only [List.map_cons, hvn, (jws_mono hpre (jws_t hws)).2] at hk
  exact hk
theorem JT_newa_byte {M : MT} {d mc ms pc : Nat} {lv : List (Nat × Value)} {st : List Value} {m : JMem} {Q : Option Value → JMem → Prop} {n : Int32} {N : Nat} (hd : decode M.2.2.1 pc = .ok (.newarray .byte, 2)) (hw : Cond.arrayClass .byte ∈ TS) (hb : BS (mN m) = (some .byte, N)) (hn : ¬ n < 0) (hnN : n.toNatClampNeg = N) (hsm : N ≤ 10000) (k : JT M d mc ms (pc + 2) lv (.ref (mN m) :: st) (wN m) Q) : JT M d (mc + 1) (ms + N) pc lv (.int n :: st) m Q := by
  intro p l e R s mid args below meth c H locs cells slots MC MS D a0 bw X ad0 ws ls Qf hc hX hRO hRm hM had hS hl hwl hws hend
  obtain ⟨hx, hbz, hml, hown, hts, hrz, hlk, hnm⟩ := id hc
  obtain ⟨g1, g2, g3, g4, g5, g6⟩ := hRm
  have hK : ∃ tys, va_K D vwCl tys s ∧ va_P D vwCl ws H ∧ va_D (fun q : Nat => a0 ≤ q) ws := by
    obtain ⟨tys, h1, h2, h3, -⟩ := hM; exact ⟨tys, h1, h2, h3⟩
  obtain ⟨tys, hK, hP, hD⟩ := hK
  refine va_newa (a0 := (N, .inl (fun _ => 0))) hx hbz (atype := .byte) (hts _ hw) (ty := .byte) rfl hK hP hD hS (fun q hq => Nat.le_trans hRO.2.2.2.2.1 hq) (fun _ => rfl) hn hnN (by show N * _ ≤ _; simp only [componentBytes]; omega) (by omega) (by omega) hd (fun q cA H1 hK1 hP1 hD1 hS1 => ?_)
  obtain ⟨hM1, hpre, hlt, hvn⟩ := jM_app (tys1 := [(cA, .byte)]) hM (fun t h => h.app ⟨h.1, fun k9 q9 h9 => by
    obtain rfl : q9 = (cA, .byte) := by
      cases k9 with
      | zero => exact (Option.some.inj h9).symm
      | succ n => cases h9
    exact hK1.2 tys.length _ (by simp)⟩) hP1 hD1 (fun tys9 h1 h2 h3 => jE_of_a hb ⟨cA, _, tys9.length, rfl, by simp, by
      show _ = _
      first | (rw [show mI (wN m) (mN m) = fun _ => 0 from h1]) | (rw [show mL (wN m) (mN m) = fun _ => 0 from h2])⟩)
  have hk := k p l e R s mid args below meth c H1 locs (cells + 1) (slots + N) MC MS D a0 bw X ad0 _ ls Qf hc hX hRO ⟨g1, g2, by omega, by omega, g5, g6⟩ hM1 (had.trans hpre) hS1 (by rw [(jwl_mono hpre hwl).2]; exact hl) (jwl_mono hpre hwl).1 (jws_c hlt (jws_mono hpre (jws_t hws)).1) hend
  simp only [List.map_cons, hvn, (jws_mono hpre (jws_t hws)).2] at hk
  exact hk
theorem JT_newa_boolean {M : MT} {d mc ms pc : Nat} {lv : List (Nat × Value)} {st : List Value} {m : JMem} {Q : Option Value → JMem → Prop} {n : Int32} {N : Nat} (hd : decode M.2.2.1 pc = .ok (.newarray .boolean, 2)) (hw : Cond.arrayClass .boolean ∈ TS) (hb : BS (mN m) = (some .boolean, N)) (hn : ¬ n < 0) (hnN : n.toNatClampNeg = N) (hsm : N ≤ 10000) (k : JT M d mc ms (pc + 2) lv (.ref (mN m) :: st) (wN m) Q) : JT M d (mc + 1) (ms + N) pc lv (.int n :: st) m Q := by
  intro p l e R s mid args below meth c H locs cells slots MC MS D a0 bw X ad0 ws ls Qf hc hX hRO hRm hM had hS hl hwl hws hend
  obtain ⟨hx, hbz, hml, hown, hts, hrz, hlk, hnm⟩ := id hc
  obtain ⟨g1, g2, g3, g4, g5, g6⟩ := hRm
  have hK : ∃ tys, va_K D vwCl tys s ∧ va_P D vwCl ws H ∧ va_D (fun q : Nat => a0 ≤ q) ws := by
    obtain ⟨tys, h1, h2, h3, -⟩ := hM; exact ⟨tys, h1, h2, h3⟩
  obtain ⟨tys, hK, hP, hD⟩ := hK
  refine va_newa (a0 := (N, .inl (fun _ => 0))) hx hbz (atype := .boolean) (hts _ hw) (ty := .boolean) rfl hK hP hD hS (fun q hq => Nat.le_trans hRO.2.2.2.2.1 hq) (fun _ => rfl) hn hnN (by show N * _ ≤ _; simp only [componentBytes]; omega) (by omega) (by omega) hd (fun q cA H1 hK1 hP1 hD1 hS1 => ?_)
  obtain ⟨hM1, hpre, hlt, hvn⟩ := jM_app (tys1 := [(cA, .boolean)]) hM (fun t h => h.app ⟨h.1, fun k9 q9 h9 => by
    obtain rfl : q9 = (cA, .boolean) := by
      cases k9 with
      | zero => exact (Option.some.inj h9).symm
      | succ n => cases h9
    exact hK1.2 tys.length _ (by simp)⟩) hP1 hD1 (fun tys9 h1 h2 h3 => jE_of_a hb ⟨cA, _, tys9.length, rfl, by simp, by
      show _ = _
      first | (rw [show mI (wN m) (mN m) = fun _ => 0 from h1]) | (rw [show mL (wN m) (mN m) = fun _ => 0 from h2])⟩)
  have hk := k p l e R s mid args below meth c H1 locs (cells + 1) (slots + N) MC MS D a0 bw X ad0 _ ls Qf hc hX hRO ⟨g1, g2, by omega, by omega, g5, g6⟩ hM1 (had.trans hpre) hS1 (by rw [(jwl_mono hpre hwl).2]; exact hl) (jwl_mono hpre hwl).1 (jws_c hlt (jws_mono hpre (jws_t hws)).1) hend
  simp only [List.map_cons, hvn, (jws_mono hpre (jws_t hws)).2] at hk
  exact hk
theorem JT_newa_long {M : MT} {d mc ms pc : Nat} {lv : List (Nat × Value)} {st : List Value} {m : JMem} {Q : Option Value → JMem → Prop} {n : Int32} {N : Nat} (hd : decode M.2.2.1 pc = .ok (.newarray .long, 2)) (hw : Cond.arrayClass .long ∈ TS) (hb : BS (mN m) = (some .long, N)) (hn : ¬ n < 0) (hnN : n.toNatClampNeg = N) (hsm : N ≤ 10000) (k : JT M d mc ms (pc + 2) lv (.ref (mN m) :: st) (wN m) Q) : JT M d (mc + 1) (ms + N) pc lv (.int n :: st) m Q := by
  intro p l e R s mid args below meth c H locs cells slots MC MS D a0 bw X ad0 ws ls Qf hc hX hRO hRm hM had hS hl hwl hws hend
  obtain ⟨hx, hbz, hml, hown, hts, hrz, hlk, hnm⟩ := id hc
  obtain ⟨g1, g2, g3, g4, g5, g6⟩ := hRm
  have hK : ∃ tys, va_K D vwCl tys s ∧ va_P D vwCl ws H ∧ va_D (fun q : Nat => a0 ≤ q) ws := by
    obtain ⟨tys, h1, h2, h3, -⟩ := hM; exact ⟨tys, h1, h2, h3⟩
  obtain ⟨tys, hK, hP, hD⟩ := hK
  refine va_newa (a0 := (N, .inr (.inl (fun _ => 0)))) hx hbz (atype := .long) (hts _ hw) (ty := .long) rfl hK hP hD hS (fun q hq => Nat.le_trans hRO.2.2.2.2.1 hq) (fun _ => rfl) hn hnN (by show N * _ ≤ _; simp only [componentBytes]; omega) (by omega) (by omega) hd (fun q cA H1 hK1 hP1 hD1 hS1 => ?_)
  obtain ⟨hM1, hpre, hlt, hvn⟩ := jM_app (tys1 := [(cA, .long)]) hM (fun t h => h.app ⟨h.1, fun k9 q9 h9 => by
    obtain rfl : q9 = (cA, .long) := by
      cases k9 with
      | zero => exact (Option.some.inj h9).symm
      | succ n => cases h9
    exact hK1.2 tys.length _ (by simp)⟩) hP1 hD1 (fun tys9 h1 h2 h3 => jE_of_a hb ⟨cA, _, tys9.length, rfl, by simp, by
      show _ = _
      first | (rw [show mI (wN m) (mN m) = fun _ => 0 from h1]) | (rw [show mL (wN m) (mN m) = fun _ => 0 from h2])⟩)
  have hk := k p l e R s mid args below meth c H1 locs (cells + 1) (slots + N) MC MS D a0 bw X ad0 _ ls Qf hc hX hRO ⟨g1, g2, by omega, by omega, g5, g6⟩ hM1 (had.trans hpre) hS1 (by rw [(jwl_mono hpre hwl).2]; exact hl) (jwl_mono hpre hwl).1 (jws_c hlt (jws_mono hpre (jws_t hws)).1) hend
  simp only [List.map_cons, hvn, (jws_mono hpre (jws_t hws)).2] at hk
  exact hk
theorem JT_anewa {M : MT} {d mc ms pc : Nat} {lv : List (Nat × Value)} {st : List Value} {m : JMem} {Q : Option Value → JMem → Prop} {n : Int32} {idx N : Nat} {C : String} (hd : decode M.2.2.1 pc = .ok (.anewarray idx, 3)) (hw1 : Cond.classLink M.1 idx C ∈ TS) (hw2 : Cond.arrayOver (.object C) ∈ lw_tbl) (hb : BS (mN m) = (some (.object C), N)) (hn : ¬ n < 0) (hnN : n.toNatClampNeg = N) (hsm : N ≤ 10000) (k : JT M d mc ms (pc + 3) lv (.ref (mN m) :: st) (wN m) Q) : JT M d (mc + 1) (ms + N) pc lv (.int n :: st) m Q := by
  intro p l e R s mid args below meth c H locs cells slots MC MS D a0 bw X ad0 ws ls Qf hc hX hRO hRm hM had hS hl hwl hws hend
  obtain ⟨hx, hbz, hml, hown, hts, hrz, hlk, hnm⟩ := id hc
  obtain ⟨g1, g2, g3, g4, g5, g6⟩ := hRm
  have hK : ∃ tys, va_K D vwCl tys s ∧ va_P D vwCl ws H ∧ va_D (fun q : Nat => a0 ≤ q) ws := by
    obtain ⟨tys, h1, h2, h3, -⟩ := hM; exact ⟨tys, h1, h2, h3⟩
  obtain ⟨tys, hK, hP, hD⟩ := hK
  refine va_newq hx hbz hown (hts _ hw1) (hRO.2.2.2.2.2.1.2.1 _ hw2) hK hP hD hS (fun q hq => Nat.le_trans hRO.2.2.2.2.1 hq) hn hnN (by omega) (by omega) (by omega) hd (fun q cA H1 hK1 hP1 hD1 hS1 => ?_)
  obtain ⟨hM1, hpre, hlt, hvn⟩ := jM_app (tys1 := [(cA, .object C)]) hM (fun t h => h.app ⟨h.1, fun k9 q9 h9 => by
    obtain rfl : q9 = (cA, .object C) := by
      cases k9 with
      | zero => exact (Option.some.inj h9).symm
      | succ n => cases h9
    exact hK1.2 tys.length _ (by simp)⟩) hP1 hD1 (fun tys9 h1 h2 h3 => jE_of_a hb ⟨cA, _, tys9.length, rfl, by simp, ⟨_, rfl, fun i => by rw [show mR (wN m) (mN m) = fun _ => none from h3]; rfl⟩⟩)
  have hk := k p l e R s mid args below meth c H1 locs (cells + 1) (slots + N) MC MS D a0 bw X ad0 _ ls Qf hc hX hRO ⟨g1, g2, by omega, by omega, g5, g6⟩ hM1 (had.trans hpre) hS1 (by rw [(jwl_mono hpre hwl).2]; exact hl) (jwl_mono hpre hwl).1 (jws_c hlt (jws_mono hpre (jws_t hws)).1) hend
  simp only [List.map_cons, hvn, (jws_mono hpre (jws_t hws)).2] at hk
  exact hk
theorem JT_obj {M : MT} {d mc ms pc : Nat} {lv : List (Nat × Value)} {st : List Value} {m : JMem} {Q : Option Value → JMem → Prop} {a idx d2 : Nat} (hd : decode M.2.2.1 pc = .ok (.invokespecial idx, 3)) (hw : Cond.methodLink M.1 idx objectInit ∈ TS) (hcat : (st.map fun v => v.category).sum ≤ 8) (hdd : d = d2 + 1) (k : JT M d mc ms (pc + 3) lv st m Q) : JT M d mc ms pc lv (.ref a :: st) m Q := by
  subst hdd
  intro p l e R s mid args below meth c H locs cells slots MC MS D a0 bw X ad0 ws ls Qf hc hX hRO hRm hM had hS hl hwl hws hend
  obtain ⟨hx, hbz, hml, hown, hts, hrz, hlk, hnm⟩ := id hc
  have hwf : a < (jad bw ws).length := jws_h hws
  obtain ⟨y, hy1, hy2⟩ := jv_ref hwf
  obtain ⟨g1, g2, g3, g4, g5, g6⟩ := id hRm
  have hcat2 : ((st.map (jv (jad bw ws))).map fun v => v.category).sum ≤ 8 := by
    rw [List.map_map]; simp only [Function.comp_def, jv_cat]; exact hcat
  have hroom := lv_room (m := mid) (pc := pc) (ls := ls) (rest := st.map (jv (jad bw ws))) hcat2
  simp only [List.map_cons, hy2]
  have hk := k p l e R s mid args below meth c H locs cells slots MC MS D a0 bw X ad0 ws ls Qf hc hX hRO hRm hM had hS hl hwl (jws_t hws) hend
  exact W.objInit hx hbz hown (hts _ hw) (hts _ wd_obj1) (hts _ wd_obj2) rfl (by rw [hml]; exact hl.1) rfl hd (by omega) (by
    have h7 : 2 * (F0 mid pc ls ((Value.ref y) :: st.map (jv (jad bw ws)))).monitorRoom = 2 * (F0 mid pc ls (st.map (jv (jad bw ws)))).monitorRoom := rfl
    omega) (W.eq (g2 := F0 mid (pc + 3) ls (st.map (jv (jad bw ws)))) rfl hk)

theorem lg_len (ad : List Nat) : ∀ vs : List Value, (lg_sl (vs.map (jv ad))).length = (lg_sl vs).length := by
  intro vs
  induction vs with
  | nil => rfl
  | cons v t ih =>
    simp only [lg_sl, List.map_cons, List.flatMap_cons, List.length_append, jv_cat] at ih ⊢
    rw [ih]
    split <;> rfl
theorem lv_args_map (ad : List Nat) : ∀ (vs : List Value) (n : Nat), lv_args n (vs.map (jv ad)) = jlv ad (lv_args n vs) := by
  intro vs
  induction vs with
  | nil => intro n; rfl
  | cons v t ih =>
    intro n
    simp only [List.map_cons, lv_args, jv_cat]
    rw [ih]
theorem lv_args_wf {ad : List Nat} : ∀ (vs : List Value) (n : Nat), jws ad vs → jwl ad (lv_args n vs) := by
  intro vs
  induction vs with
  | nil => intro n _ q hq; cases hq
  | cons v t ih =>
    intro n h q hq
    rcases List.mem_cons.mp hq with rfl | hq
    · exact jws_h h
    · exact ih _ (jws_t h) q hq
theorem nativeFrameWords_ac : nativeFrameWords "java/lang/System" "arraycopy" 5 = 7 := by decide
theorem word_atN {w : Cond} {args : Array Value} {s : State} (hw : (w.onTables && w.keeps) = true ∨ ∃ ty, w = .arrayClass ty) (h : w.before args s = true) : va_Nw w s := word_at (State.WarmedH.refl s) hw h
def jQc (D : va_G) (a0 : Nat) (bw : Nat × Nat) (X : Nat × (Nat → Int32)) (ad0 : List Nat) (Q : Option Value → JMem → Prop) : Array Value → State → Outcome → State → Prop := fun _ st oc t =>
  ∃ (v : Option Value) (m' : JMem) (ws' : va_W), oc = .returned v ∧ (v = none ∨ ∃ x, v = some (.int x)) ∧ Q v m' ∧ mS m' = X ∧ jM D a0 bw m' t t.heap ws' ∧ ad0 <+: jad bw ws' ∧ va_F (fun q : Nat => a0 ≤ q) st t
abbrev jW (M : MT) : Cond := .code M.2.1 M.2.2.1 M.2.2.2.1 M.2.2.2.2
theorem jMoved {D : va_G} {a0 : Nat} {bw : Nat × Nat} {m : JMem} {u U : State} {H : Heap} {ws : va_W} (hvm : u.vm.Alike U.vm) (h : jM D a0 bw m u H ws) : jM D a0 bw m U H ws := by
  obtain ⟨tys, h1, h2⟩ := h
  exact ⟨tys, va_K.moved hvm h1, h2⟩
theorem jRO_moved {a0 : Nat} {bw : Nat × Nat} {X : Nat × (Nat → Int32)} {u U : State} {H : Heap} (hvm : u.vm.Alike U.vm) (hN : jNW u → jNW U) (h : jRO a0 bw X u H) : jRO a0 bw X U H :=
  ⟨h.1.moved hvm, h.2.1, h.2.2.1.moved hvm, h.2.2.2.1.moved hvm, h.2.2.2.2.1, hN h.2.2.2.2.2.1, vx_Zq.moved hvm h.2.2.2.2.2.2.1, vx_Zq.moved hvm h.2.2.2.2.2.2.2⟩
theorem jNW_w {u U : State} (hW : u.WarmedH U.vm) (h : jNW u) : jNW U := ⟨fun a i x hh hm => va_Nw.warmM hW (h.1 a i x hh hm), fun C hm => va_AO.moved hW.alike (h.2.1 C hm), XW_w hW h.2.2⟩
theorem jRO_kept {a0 : Nat} {bw : Nat × Nat} {X : Nat × (Nat → Int32)} {s : State} {H : Heap} {locs : List Loc} (h : jRO a0 bw X s s.heap) (hS : va_S (fun q : Nat => a0 ≤ q) s.heap H locs) : jRO a0 bw X s H := by
  obtain ⟨g1, g2, g3, g4, g5, g6, g7, g8⟩ := h
  exact ⟨g1.kept (hS.2.1 bw.1 (by omega) (by show ¬ a0 ≤ bw.1; omega)), g2, g3.kept (fun a h1 h2 => hS.2.1 a h1 h2), g4.kept (fun a h1 h2 => hS.2.1 a h1 h2), Nat.le_trans g5 hS.1, g6, g7.kept (fun a h1 h2 => hS.2.1 a h1 h2), g8.kept (fun a h1 h2 => hS.2.1 a h1 h2)⟩
def jPc (D : va_G) (a0 : Nat) (bw : Nat × Nat) (X : Nat × (Nat → Int32)) (ws : va_W) (as : List Value) (m : JMem) : Array Value → State → Prop := va_Pc (as.map (jv (jad bw ws))) (fun U => mS m = X ∧ jRO a0 bw X U U.heap ∧ jM D a0 bw m U U.heap ws ∧ jws (jad bw ws) as)
theorem jPc_blind {D : va_G} {a0 : Nat} {bw : Nat × Nat} {X : Nat × (Nat → Int32)} {ws : va_W} {as : List Value} {m : JMem} : FrameBlind (jPc D a0 bw X ws as m) := by
  intro a U g mk h
  obtain ⟨h1, h2, h3, h4, h5⟩ := h
  exact ⟨h1, h2, jRO_moved (u := U) (U := U.calling g mk a) (Vm.Alike.refl U.vm) (fun hn => ⟨fun a9 i x hh hm => va_Nw.same rfl rfl (hn.1 a9 i x hh hm), fun C hm => va_AO.moved (u := U) (U := U.calling g mk a) (Vm.Alike.refl U.vm) (hn.2.1 C hm), fun w hw => va_Nw.same (XW_t w hw) (u := U) (U := U.calling g mk a) rfl (hn.2.2 w hw)⟩) h3, jMoved (u := U) (U := U.calling g mk a) (Vm.Alike.refl U.vm) h4, h5⟩
theorem jMet (l : Launch) {M : MT} {d mc ms : Nat} {as : List Value} {m : JMem} {Q : Option Value → JMem → Prop} (hy : plainName M.2.1.cls = true) (hown1 : M.2.1.cls = M.1) (hlen : (lg_sl as).length ≤ M.2.2.2.1) (hC : JC M d mc ms as m Q) (D : va_G) (a0 : Nat) (bw : Nat × Nat) (X : Nat × (Nat → Int32)) (ws : va_W) :
    Met (nt l) M.2.1 (jW M :: TS) { frames := d, cells := mc, slots := ms, locals := 64 * d } (jPc D a0 bw X ws as m) (jQc D a0 bw X (jad bw ws) Q) mc ms (fun q : Nat => a0 ≤ q) := by
  refine Met.ofW (cc := M.2.2.1) (maxL := M.2.2.2.1) (ret := M.2.2.2.2) hy rfl ?_
  intro p e s mid args below meth c s₁ B hml hv
  obtain ⟨rfl, hX, hRO, hM, hws⟩ := hv
  have hx := B.exec
  have hbz := B.bytes
  have hr := B.returns
  have hts := atoms_spec (ws := jW M :: TS) B.pre
  have hown : s.vm.findClass M.1 = some mid.cls := by rw [← hown1]; exact findClass_of_methodNamed B.named
  have hlocks := B.notSynchronized
  have hnm := (name_of_methodNamed B.named B.method).1
  have htab : ∀ hh, Cond.codeWith M.2.1 M.2.2.1 M.2.2.2.1 M.2.2.2.2 hh ∈ TS → c.exceptionTable.toList = tableOf hh := fun hh hm => vx_table (x := M.2.1) B (hts _ (List.mem_cons_of_mem _ hm))
  have hl := lv_entry (as.map (jv (jad bw ws))) (n := M.2.2.2.1) (by rw [lg_len]; exact hlen)
  rw [lg_entry_eq]
  generalize (lg_sl (as.map (jv (jad bw ws))) ++ List.replicate (M.2.2.2.1 - (lg_sl (as.map (jv (jad bw ws)))).length) Slot.unset).toArray = ls at hl ⊢
  rw [lv_args_map] at hl
  refine hC p l e _ s mid _ below meth c s.heap [] 0 0 mc ms D a0 bw X (jad bw ws) ws ls _ ⟨hx, hbz, hml, hown, fun w hw => hts w (List.mem_cons_of_mem _ hw), hr, hlocks, fun _ => hnm, htab⟩ hX hRO ⟨Nat.le_refl _, Nat.le_refl _, by omega, by omega, Nat.le_refl _, Nat.le_refl _⟩ hM (List.prefix_refl _) va_S.rf hl (lv_args_wf _ _ hws) (fun v hv => by cases hv) ?_
  intro v m1 pc H locs cells slots ws1 ls1 cst hQ hE hX1 hc1 hs1 hM1 had hS hls
  refine W.widen hc1 hs1 ?_
  have post : ∀ t : State, t.heap = H → s.WarmedH t.vm → (v = none ∨ ∃ x, v = some (.int x)) → jQc D a0 bw X (jad bw ws) Q (as.map (jv (jad bw ws))).toArray s (.returned v) t := fun t ht hW hv9 => ⟨v, m1, ws1, rfl, hv9, hQ.2, hX1, by rw [ht]; exact jMoved hW.alike hM1, had, hS.F ht⟩
  match v, hQ, hE, post with
  | none, hQ, hE, post =>
    obtain ⟨rfl, hdg, hr0⟩ := hE
    exact W.vret hx hbz (by rw [hr]; exact hr0) (fun t ht hW => post t ht hW (Or.inl rfl)) hS.2.2 hdg
  | some (.int x), hQ, hE, post =>
    obtain ⟨rfl, hdg, ty, hr0, hn⟩ := hE
    exact W.zret hx hbz (by rw [hr]; exact hr0) hn (fun t ht hW => post t ht hW (Or.inr ⟨x, rfl⟩)) hS.2.2 hdg
  | some (.retAddr q), hQ, hE, post => exact absurd hQ.1 id
  | some (.long _), hQ, hE, post => exact absurd hE id
  | some (.float _), hQ, hE, post => exact absurd hE id
  | some (.double _), hQ, hE, post => exact absurd hE id
  | some .null, hQ, hE, post => exact absurd hE id
  | some (.ref _), hQ, hE, post => exact absurd hE id
/-- what every call of M needs of the tables -/
def jOK (M : MT) (n : Nat) : Prop := plainName M.2.1.cls = true ∧ M.2.1.cls = M.1 ∧ jW M ∈ TS ∧ Cond.initialized M.2.1.cls ∈ TS ∧ (M.2.1.cls ≠ "java/lang/invoke/MethodHandle" ∧ M.2.1.cls ≠ "java/lang/invoke/VarHandle" ∧ (parseMethodDescriptor M.2.1.desc).map (fun d => d.parameters.length) = some n) ∧ M.2.2.2.1 ≤ 45
theorem jGood {M : MT} {n : Nat} (h : jOK M n) : GoodIn TS (jW M :: TS) := by
  intro w hw
  rcases List.mem_cons.mp hw with rfl | hw
  · exact ts_good _ h.2.2.1
  · exact ts_good _ hw
def jCV (own : String) (idx : Nat) (M : MT) : Prop := Cond.methodLink own idx M.2.1 ∈ TS ∧ Cond.instanceMethod M.2.1 ∈ TS ∧ Cond.selects M.2.1.cls M.2.1 M.2.1 ∈ TS
def jCS (own : String) (idx : Nat) (M : MT) : Prop := Cond.methodLink own idx M.2.1 ∈ TS ∧ Cond.static M.2.1 ∈ TS
def jCI (own : String) (idx : Nat) (M : MT) : Prop := Cond.methodLink own idx M.2.1 ∈ TS ∧ Cond.instanceMethod M.2.1 ∈ TS ∧ M.2.1.name = "<init>"
def jCSN (own : String) (idx : Nat) (M : MT) : Prop := (∃ host, Cond.methodLinkNest own idx M.2.1 host ∈ lw_tbl) ∧ Cond.static M.2.1 ∈ TS
def jCIN (own : String) (idx : Nat) (M : MT) : Prop := (∃ host, Cond.methodLinkNest own idx M.2.1 host ∈ lw_tbl) ∧ Cond.instanceMethod M.2.1 ∈ TS ∧ M.2.1.name = "<init>"
/-- behind a call -/
theorem jback {M : MT} {d mc ms mc1 ms1 pc : Nat} {lv : List (Nat × Value)} {rest : List Value} {Q Q' : Option Value → JMem → Prop}
    (k : ∀ v m1, Q' v m1 → JT M d mc ms (pc + 3) lv (v.toList ++ rest) m1 Q)
    {p : Program} {l : Launch} {e : Env} {R : Room} {s : State} {mid : MethodId} {args : Array Value} {below : List Frame} {meth : Method} {c : Code} {H : Heap} {locs : List Loc} {cells slots MC MS : Nat} {D : va_G} {a0 : Nat} {bw : Nat × Nat} {X : Nat × (Nat → Int32)} {ad0 : List Nat} {ws : va_W} {ls : Array Slot} {Qf : State → Prop} {a : Array Value} {cst : List Value}
    (hc : jctx M p s mid meth c args) (hRO : jRO a0 bw X s s.heap) (hRm : jRm d (mc1 + mc) (ms1 + ms) R cells slots MC MS) (had : ad0 <+: jad bw ws) (hS : va_S (fun q : Nat => a0 ≤ q) s.heap H locs) (hl : lv_has ls M.2.2.2.1 (jlv (jad bw ws) lv)) (hwl : jwl (jad bw ws) lv) (hws : jws (jad bw ws) rest)
    (hend : jEnd M p (nt l) e R s mid args below meth c MC MS D a0 bw X ad0 Q Qf)
    (hr : va_Run p (nt l) e R s mid args below meth c H locs cells slots mc1 ms1 (F0 mid pc ls cst) (rest.map (jv (jad bw ws))) (jQc D a0 bw X (jad bw ws) Q' a) (fun q : Nat => a0 ≤ q)) :
    W p (nt l) e R s mid args below meth c H locs cells slots Qf (F0 mid pc ls cst) := by
  obtain ⟨g1, g2, g3, g4, g5, g6⟩ := hRm
  intro T hT X9
  obtain ⟨v, st₀, t, T', L, h0, X', hL, e1, e2, ⟨v', m1, ws1, hv, hv9, hQ, hX1, hM1, hpre, hz, hk⟩, st⟩ := hr T hT X9
  cases hv
  rw [h0] at hz hk
  have hal : t.vm.Alike s.vm := by rw [← e2]; exact X'.warmed.alike.symm
  have hvw : jws (jad bw ws1) v.toList ∧ v.toList.map (jv (jad bw ws1)) = v.toList := by
    rcases hv9 with rfl | ⟨x, rfl⟩
    · exact ⟨fun z h => (by simp at h), rfl⟩
    · exact ⟨fun z h => by rcases List.mem_singleton.mp h with rfl; trivial, rfl⟩
  have hw1 := jws_mono hpre hws
  have hS1 : va_S (fun q : Nat => a0 ≤ q) s.heap T'.heap (locs ++ L) := ⟨Nat.le_trans hS.1 (by rw [e1]; exact hz), fun q h1 h2 => by rw [e1, hk q (Nat.lt_of_lt_of_le h1 hS.1) h2]; exact hS.2.1 q h1 h2, fun q hq => by
    rcases List.mem_append.mp hq with h | h
    · exact hS.2.2 q h
    · exact hL q h⟩
  have hk9 := k v m1 hQ p l e R s mid args below meth c T'.heap (locs ++ L) (cells + mc1) (slots + ms1) MC MS D a0 bw X ad0 ws1 ls Qf hc hX1 hRO ⟨g1, g2, by omega, by omega, g5, g6⟩ (by rw [e1]; exact jMoved hal hM1) (had.trans hpre) hS1 (by rw [(jwl_mono hpre hwl).2]; exact hl) (jwl_mono hpre hwl).1 (fun z hz9 => by
    rcases List.mem_append.mp hz9 with h | h
    · exact hvw.1 z h
    · exact hw1.1 z h) hend
  rw [List.map_append, hvw.2, hw1.2] at hk9
  obtain ⟨t2, a1, b1⟩ := hk9 T' rfl X'
  exact ⟨t2, st t2 a1, b1⟩

theorem JT_callV {M : MT} {d mc ms pc : Nat} {lv : List (Nat × Value)} {st : List Value} {m : JMem} {Q : Option Value → JMem → Prop} {M' : MT} {Q' : Option Value → JMem → Prop} {As rest : List Value} {idx mc1 ms1 : Nat} {b ci : Nat} (hd : decode M.2.2.1 pc = .ok (.invokevirtual idx, 3)) (hcv : jCV M.1 idx M') (hok : jOK M' As.length) (hst : st = As.reverse ++ .ref b :: rest) (hcat : (rest.map fun v => v.category).sum ≤ 8) (hb : BS b = (none, ci)) (h2 : 2 ≤ b) (hN : b < mN m) (hci : ∃ T N, vwCl[ci]? = some (M'.1, T, N)) (hlen : (lg_sl (.ref b :: As)).length ≤ M'.2.2.2.1) (hC : JC M' d mc1 ms1 (.ref b :: As) m Q') (k : ∀ v m1, Q' v m1 → JT M (d + 1) mc ms (pc + 3) lv (v.toList ++ rest) m1 Q) : JT M (d + 1) (mc1 + mc) (ms1 + ms) pc lv st m Q := by
  intro p l e R s mid args below meth c H locs cells slots MC MS D a0 bw X ad0 ws ls Qf hc hX hRO hRm hM had hS hl hwl hws hend
  obtain ⟨hx, hbz, hml, hown, hts, hrz, hlk, hnm⟩ := id hc
  subst hst
  obtain ⟨g1, g2, g3, g4, g5, g6⟩ := id hRm
  have hcat2 : ((rest.map (jv (jad bw ws))).map fun v => v.category).sum ≤ 8 := by
    rw [List.map_map]; simp only [Function.comp_def, jv_cat]; exact hcat
  have hR0 := jRO_kept hRO hS
  obtain ⟨o1, o2, o3, o4, o5, o6⟩ := id hok
  obtain ⟨T9, N9, hci⟩ := hci
  obtain ⟨tys, q, hK, hP, hD, hq, hadq, hE, -⟩ := jM_open hM h2 hN
  obtain ⟨qa, qe⟩ := q
  dsimp only at hadq hE
  obtain ⟨fs, r9, e1, e2, -⟩ := jE_o hb hE
  subst e1
  have hv := jv_at hadq
  have hwr : jws (jad bw ws) rest := fun z hz => hws z (by simp [hz])
  have hwa : jws (jad bw ws) (.ref b :: As) := fun z hz => hws z (by rcases List.mem_cons.mp hz with rfl | h <;> simp_all)
  have hcell := va_recv hK hP hci hq
  have hMet := jMet l o1 o2 hlen hC D a0 bw X ws
  exact jback k hc hRO hRm had hS hl hwl hwr hend (va_runV (C := M'.1) (As := As.map (jv (jad bw ws))) (rest := rest.map (jv (jad bw ws))) ⟨hx, hbz, hml, hown, hts⟩ hMet ⟨callB_of As.length hts (jGood hok) rfl rfl rfl (hts _ o4) (hts _ hcv.1) o5 ⟨by show d + 1 ≤ R.frames; exact g1, by show 8 + (M'.2.2.2.1 + 11) + 64 * d ≤ R.locals; omega⟩, hts _ hcv.2.1, by rw [← o2]; exact hts _ hcv.2.2⟩ ⟨jPc_blind, hcell, fun U hU hW => ⟨by rw [List.map_cons, hv], hX, by rw [hU]; exact jRO_moved hW.alike (jNW_w hW) hR0, by rw [hU]; exact jMoved hW.alike hM, hwa⟩⟩ rfl (by simp) hl.1 (by rw [List.map_append, List.map_cons, hv, List.map_reverse]) (lv_room hcat2) hd ⟨by omega, by omega⟩)
theorem JT_callS {M : MT} {d mc ms pc : Nat} {lv : List (Nat × Value)} {st : List Value} {m : JMem} {Q : Option Value → JMem → Prop} {M' : MT} {Q' : Option Value → JMem → Prop} {As rest : List Value} {idx mc1 ms1 : Nat} (hd : decode M.2.2.1 pc = .ok (.invokestatic idx, 3)) (hcv : jCS M.1 idx M') (hok : jOK M' As.length) (hst : st = As.reverse ++ rest) (hcat : (rest.map fun v => v.category).sum ≤ 8) (hlen : (lg_sl As).length ≤ M'.2.2.2.1) (hC : JC M' d mc1 ms1 As m Q') (k : ∀ v m1, Q' v m1 → JT M (d + 1) mc ms (pc + 3) lv (v.toList ++ rest) m1 Q) : JT M (d + 1) (mc1 + mc) (ms1 + ms) pc lv st m Q := by
  intro p l e R s mid args below meth c H locs cells slots MC MS D a0 bw X ad0 ws ls Qf hc hX hRO hRm hM had hS hl hwl hws hend
  obtain ⟨hx, hbz, hml, hown, hts, hrz, hlk, hnm⟩ := id hc
  subst hst
  obtain ⟨g1, g2, g3, g4, g5, g6⟩ := id hRm
  have hcat2 : ((rest.map (jv (jad bw ws))).map fun v => v.category).sum ≤ 8 := by
    rw [List.map_map]; simp only [Function.comp_def, jv_cat]; exact hcat
  have hR0 := jRO_kept hRO hS
  obtain ⟨o1, o2, o3, o4, o5, o6⟩ := id hok
  have hwr : jws (jad bw ws) rest := fun z hz => hws z (by simp [hz])
  have hwa : jws (jad bw ws) As := fun z hz => hws z (by simp [hz])
  have hMet := jMet l o1 o2 hlen hC D a0 bw X ws
  exact jback k hc hRO hRm had hS hl hwl hwr hend (va_runS (As := As.map (jv (jad bw ws))) (rest := rest.map (jv (jad bw ws))) ⟨hx, hbz, hml, hown, hts⟩ hMet ⟨callB_of As.length hts (jGood hok) rfl rfl rfl (hts _ o4) (hts _ hcv.1) o5 ⟨by show d + 1 ≤ R.frames; exact g1, by show 8 + (M'.2.2.2.1 + 11) + 64 * d ≤ R.locals; omega⟩, hts _ hcv.2⟩ ⟨jPc_blind, fun U hU hW => ⟨rfl, hX, by rw [hU]; exact jRO_moved hW.alike (jNW_w hW) hR0, by rw [hU]; exact jMoved hW.alike hM, hwa⟩⟩ rfl (by simp) hl.1 (by rw [List.map_append, List.map_reverse]) (lv_room hcat2) hd ⟨by omega, by omega⟩)
theorem JT_callI {M : MT} {d mc ms pc : Nat} {lv : List (Nat × Value)} {st : List Value} {m : JMem} {Q : Option Value → JMem → Prop} {M' : MT} {Q' : Option Value → JMem → Prop} {As rest : List Value} {idx mc1 ms1 : Nat} {b ci : Nat} (hd : decode M.2.2.1 pc = .ok (.invokespecial idx, 3)) (hcv : jCI M.1 idx M') (hok : jOK M' As.length) (hst : st = As.reverse ++ .ref b :: rest) (hcat : (rest.map fun v => v.category).sum ≤ 8) (hb : BS b = (none, ci)) (h2 : 2 ≤ b) (hN : b < mN m) (hci : ∃ T N, vwCl[ci]? = some (M'.1, T, N)) (hret : M'.2.2.2.2 = none) (hlen : (lg_sl (.ref b :: As)).length ≤ M'.2.2.2.1) (hC : JC M' d mc1 ms1 (.ref b :: As) m Q') (k : ∀ v m1, Q' v m1 → JT M (d + 1) mc ms (pc + 3) lv (v.toList ++ rest) m1 Q) : JT M (d + 1) (mc1 + mc) (ms1 + ms) pc lv st m Q := by
  intro p l e R s mid args below meth c H locs cells slots MC MS D a0 bw X ad0 ws ls Qf hc hX hRO hRm hM had hS hl hwl hws hend
  obtain ⟨hx, hbz, hml, hown, hts, hrz, hlk, hnm⟩ := id hc
  subst hst
  obtain ⟨g1, g2, g3, g4, g5, g6⟩ := id hRm
  have hcat2 : ((rest.map (jv (jad bw ws))).map fun v => v.category).sum ≤ 8 := by
    rw [List.map_map]; simp only [Function.comp_def, jv_cat]; exact hcat
  have hR0 := jRO_kept hRO hS
  obtain ⟨o1, o2, o3, o4, o5, o6⟩ := id hok
  obtain ⟨T9, N9, hci⟩ := hci
  obtain ⟨tys, q, hK, hP, hD, hq, hadq, hE, -⟩ := jM_open hM h2 hN
  obtain ⟨qa, qe⟩ := q
  dsimp only at hadq hE
  obtain ⟨fs, r9, e1, e2, -⟩ := jE_o hb hE
  subst e1
  have hv := jv_at hadq
  have hwr : jws (jad bw ws) rest := fun z hz => hws z (by simp [hz])
  have hwa : jws (jad bw ws) (.ref b :: As) := fun z hz => hws z (by rcases List.mem_cons.mp hz with rfl | h <;> simp_all)
  have hcell := va_recv hK hP hci hq
  have hMet := jMet l o1 o2 hlen hC D a0 bw X ws
  have cb9 : CallB R s args M.1 idx M'.2.1 M'.2.2.1 M'.2.2.2.1 M'.2.2.2.2 (jW M' :: TS) { frames := d, cells := mc1, slots := ms1, locals := 64 * d } mc1 ms1 As.length := callB_of As.length hts (jGood hok) rfl rfl rfl (hts _ o4) (hts _ hcv.1) o5 ⟨by show d + 1 ≤ R.frames; exact g1, by show 8 + (M'.2.2.2.1 + 11) + 64 * d ≤ R.locals; omega⟩
  rw [hret] at cb9
  exact jback k hc hRO hRm had hS hl hwl hwr hend (va_runI (As := As.map (jv (jad bw ws))) (rest := rest.map (jv (jad bw ws))) ⟨hx, hbz, hml, hown, hts⟩ hMet ⟨cb9, hcv.2.2, hts _ hcv.2.1⟩ ⟨jPc_blind, fun U hU hW => ⟨by rw [List.map_cons, hv], hX, by rw [hU]; exact jRO_moved hW.alike (jNW_w hW) hR0, by rw [hU]; exact jMoved hW.alike hM, hwa⟩⟩ rfl (by simp) hl.1 (by rw [List.map_append, List.map_cons, hv, List.map_reverse]) (lv_room hcat2) hd ⟨by omega, by omega⟩)
theorem JT_callSN {M : MT} {d mc ms pc : Nat} {lv : List (Nat × Value)} {st : List Value} {m : JMem} {Q : Option Value → JMem → Prop} {M' : MT} {Q' : Option Value → JMem → Prop} {As rest : List Value} {idx mc1 ms1 : Nat} (hd : decode M.2.2.1 pc = .ok (.invokestatic idx, 3)) (hcv : jCSN M.1 idx M') (hok : jOK M' As.length) (hst : st = As.reverse ++ rest) (hcat : (rest.map fun v => v.category).sum ≤ 8) (hlen : (lg_sl As).length ≤ M'.2.2.2.1) (hC : JC M' d mc1 ms1 As m Q') (k : ∀ v m1, Q' v m1 → JT M (d + 1) mc ms (pc + 3) lv (v.toList ++ rest) m1 Q) : JT M (d + 1) (mc1 + mc) (ms1 + ms) pc lv st m Q := by
  intro p l e R s mid args below meth c H locs cells slots MC MS D a0 bw X ad0 ws ls Qf hc hX hRO hRm hM had hS hl hwl hws hend
  obtain ⟨hx, hbz, hml, hown, hts, hrz, hlk, hnm⟩ := id hc
  subst hst
  obtain ⟨g1, g2, g3, g4, g5, g6⟩ := id hRm
  have hcat2 : ((rest.map (jv (jad bw ws))).map fun v => v.category).sum ≤ 8 := by
    rw [List.map_map]; simp only [Function.comp_def, jv_cat]; exact hcat
  have hR0 := jRO_kept hRO hS
  obtain ⟨o1, o2, o3, o4, o5, o6⟩ := id hok
  have hwr : jws (jad bw ws) rest := fun z hz => hws z (by simp [hz])
  have hwa : jws (jad bw ws) As := fun z hz => hws z (by simp [hz])
  have hMet := jMet l o1 o2 hlen hC D a0 bw X ws
  obtain ⟨⟨host, hn1⟩, hn2⟩ := hcv
  exact jback k hc hRO hRm had hS hl hwl hwr hend (va_runSN (As := As.map (jv (jad bw ws))) (rest := rest.map (jv (jad bw ws))) ⟨hx, hbz, hml, hown, hts⟩ hMet ⟨va_cnB As.length hts (jGood hok) rfl rfl rfl (hRO.2.2.2.2.2.1.1 _ _ _ _ hn1) (hts _ o4) o5 ⟨by show d + 1 ≤ R.frames; exact g1, by show 8 + (M'.2.2.2.1 + 11) + 64 * d ≤ R.locals; omega⟩, hts _ hn2, trivial⟩ ⟨jPc_blind, fun U hU hW => ⟨rfl, hX, by rw [hU]; exact jRO_moved hW.alike (jNW_w hW) hR0, by rw [hU]; exact jMoved hW.alike hM, hwa⟩⟩ rfl (by simp) hl.1 (by rw [List.map_append, List.map_reverse]) (lv_room hcat2) hd ⟨by omega, by omega⟩)
theorem JT_callIN {M : MT} {d mc ms pc : Nat} {lv : List (Nat × Value)} {st : List Value} {m : JMem} {Q : Option Value → JMem → Prop} {M' : MT} {Q' : Option Value → JMem → Prop} {As rest : List Value} {idx mc1 ms1 : Nat} {b ci : Nat} (hd : decode M.2.2.1 pc = .ok (.invokespecial idx, 3)) (hcv : jCIN M.1 idx M') (hok : jOK M' As.length) (hst : st = As.reverse ++ .ref b :: rest) (hcat : (rest.map fun v => v.category).sum ≤ 8) (hb : BS b = (none, ci)) (h2 : 2 ≤ b) (hN : b < mN m) (hci : ∃ T N, vwCl[ci]? = some (M'.1, T, N)) (hret : M'.2.2.2.2 = none) (hlen : (lg_sl (.ref b :: As)).length ≤ M'.2.2.2.1) (hC : JC M' d mc1 ms1 (.ref b :: As) m Q') (k : ∀ v m1, Q' v m1 → JT M (d + 1) mc ms (pc + 3) lv (v.toList ++ rest) m1 Q) : JT M (d + 1) (mc1 + mc) (ms1 + ms) pc lv st m Q := by
  intro p l e R s mid args below meth c H locs cells slots MC MS D a0 bw X ad0 ws ls Qf hc hX hRO hRm hM had hS hl hwl hws hend
  obtain ⟨hx, hbz, hml, hown, hts, hrz, hlk, hnm⟩ := id hc
  subst hst
  obtain ⟨g1, g2, g3, g4, g5, g6⟩ := id hRm
  have hcat2 : ((rest.map (jv (jad bw ws))).map fun v => v.category).sum ≤ 8 := by
    rw [List.map_map]; simp only [Function.comp_def, jv_cat]; exact hcat
  have hR0 := jRO_kept hRO hS
  obtain ⟨o1, o2, o3, o4, o5, o6⟩ := id hok
  obtain ⟨T9, N9, hci⟩ := hci
  obtain ⟨tys, q, hK, hP, hD, hq, hadq, hE, -⟩ := jM_open hM h2 hN
  obtain ⟨qa, qe⟩ := q
  dsimp only at hadq hE
  obtain ⟨fs, r9, e1, e2, -⟩ := jE_o hb hE
  subst e1
  have hv := jv_at hadq
  have hwr : jws (jad bw ws) rest := fun z hz => hws z (by simp [hz])
  have hwa : jws (jad bw ws) (.ref b :: As) := fun z hz => hws z (by rcases List.mem_cons.mp hz with rfl | h <;> simp_all)
  have hcell := va_recv hK hP hci hq
  have hMet := jMet l o1 o2 hlen hC D a0 bw X ws
  obtain ⟨⟨host, hn1⟩, hn2⟩ := hcv
  have cb9 : va_CN R s args M.1 idx M'.2.1 host M'.2.2.1 M'.2.2.2.1 M'.2.2.2.2 (jW M' :: TS) { frames := d, cells := mc1, slots := ms1, locals := 64 * d } mc1 ms1 As.length := va_cnB As.length hts (jGood hok) rfl rfl rfl (hRO.2.2.2.2.2.1.1 _ _ _ _ hn1) (hts _ o4) o5 ⟨by show d + 1 ≤ R.frames; exact g1, by show 8 + (M'.2.2.2.1 + 11) + 64 * d ≤ R.locals; omega⟩
  rw [hret] at cb9
  exact jback k hc hRO hRm had hS hl hwl hwr hend (va_runIN (As := As.map (jv (jad bw ws))) (rest := rest.map (jv (jad bw ws))) ⟨hx, hbz, hml, hown, hts⟩ hMet ⟨cb9, hn2.2, hts _ hn2.1⟩ ⟨jPc_blind, fun U hU hW => ⟨by rw [List.map_cons, hv], hX, by rw [hU]; exact jRO_moved hW.alike (jNW_w hW) hR0, by rw [hU]; exact jMoved hW.alike hM, hwa⟩⟩ rfl (by simp) hl.1 (by rw [List.map_append, List.map_cons, hv, List.map_reverse]) (lv_room hcat2) hd ⟨by omega, by omega⟩)
theorem JT_mmin {M : MT} {d mc ms pc : Nat} {lv : List (Nat × Value)} {st : List Value} {m : JMem} {Q : Option Value → JMem → Prop} {idx d2 : Nat} {x y : Int32} (hd : decode M.2.2.1 pc = .ok (.invokestatic idx, 3)) (hw : Cond.methodLink M.1 idx Lib.Math.min.name ∈ TS) (hcat : (st.map fun v => v.category).sum ≤ 8) (hdd : d = d2 + 1) (k : JT M d mc ms (pc + 3) lv (.int (if y < x then y else x) :: st) m Q) : JT M d mc ms pc lv (.int y :: .int x :: st) m Q := by
  subst hdd
  intro p l e R s mid args below meth c H locs cells slots MC MS D a0 bw X ad0 ws ls Qf hc hX hRO hRm hM had hS hl hwl hws hend
  obtain ⟨hx, hbz, hml, hown, hts, hrz, hlk, hnm⟩ := id hc
  obtain ⟨g1, g2, g3, g4, g5, g6⟩ := id hRm
  have hcat2 : ((st.map (jv (jad bw ws))).map fun v => v.category).sum ≤ 8 := by
    rw [List.map_map]; simp only [Function.comp_def, jv_cat]; exact hcat
  have hk := k p l e R s mid args below meth c H locs cells slots MC MS D a0 bw X ad0 ws ls Qf hc hX hRO hRm hM had hS hl hwl (jws_c trivial (jws_t (jws_t hws))) hend
  exact va_mmin hx hbz (by rw [hml]; exact hl.1.symm) hown (hts _ hw) (hts _ wd_min1) (hts _ wd_Math) (hts _ wd_min2) (by omega) (by omega) (by omega) (by omega) hd hk
theorem JT_mmax {M : MT} {d mc ms pc : Nat} {lv : List (Nat × Value)} {st : List Value} {m : JMem} {Q : Option Value → JMem → Prop} {idx d2 : Nat} {x y : Int32} (hd : decode M.2.2.1 pc = .ok (.invokestatic idx, 3)) (hw : Cond.methodLink M.1 idx Lib.Math.max.name ∈ TS) (hcat : (st.map fun v => v.category).sum ≤ 8) (hdd : d = d2 + 1) (k : JT M d mc ms (pc + 3) lv (.int (if x < y then y else x) :: st) m Q) : JT M d mc ms pc lv (.int y :: .int x :: st) m Q := by
  subst hdd
  intro p l e R s mid args below meth c H locs cells slots MC MS D a0 bw X ad0 ws ls Qf hc hX hRO hRm hM had hS hl hwl hws hend
  obtain ⟨hx, hbz, hml, hown, hts, hrz, hlk, hnm⟩ := id hc
  obtain ⟨g1, g2, g3, g4, g5, g6⟩ := id hRm
  have hcat2 : ((st.map (jv (jad bw ws))).map fun v => v.category).sum ≤ 8 := by
    rw [List.map_map]; simp only [Function.comp_def, jv_cat]; exact hcat
  have hk := k p l e R s mid args below meth c H locs cells slots MC MS D a0 bw X ad0 ws ls Qf hc hX hRO hRm hM had hS hl hwl (jws_c trivial (jws_t (jws_t hws))) hend
  exact va_mmax hx hbz (by rw [hml]; exact hl.1.symm) hown (hts _ hw) (hts _ wd_max1) (hts _ wd_Math) (hts _ wd_max2) (by omega) (by omega) (by omega) (by omega) hd hk
theorem JT_copyI {M : MT} {d mc ms pc : Nat} {lv : List (Nat × Value)} {st : List Value} {m : JMem} {Q : Option Value → JMem → Prop} {idx d2 a b na nb : Nat} {sp dp n : Int32} (hd : decode M.2.2.1 pc = .ok (.invokestatic idx, 3)) (hw : Cond.methodLink M.1 idx arraycopyName ∈ TS) (hb : BS b = (some .int, nb)) (h2 : 2 ≤ b) (hN : b < mN m) (hba : BS a = (some .int, na)) (ha2 : 2 ≤ a) (haN : a < mN m) (h1 : ¬ sp < 0) (h3 : ¬ dp < 0) (h4 : ¬ n < 0) (h5 : sp.toNatClampNeg + n.toNatClampNeg ≤ na) (h6 : dp.toNatClampNeg + n.toNatClampNeg ≤ nb) (hcat : (st.map fun v => v.category).sum ≤ 8) (hdd : d = d2 + 1)
    (k : JT M d mc ms (pc + 3) lv st (aI m b (va_cpy (mI m a) (mI m b) sp.toNatClampNeg dp.toNatClampNeg n.toNatClampNeg)) Q) : JT M d mc ms pc lv (.int n :: .int dp :: .ref b :: .int sp :: .ref a :: st) m Q := by
  subst hdd
  intro p l e R s mid args below meth c H locs cells slots MC MS D a0 bw X ad0 ws ls Qf hc hX hRO hRm hM had hS hl hwl hws hend
  obtain ⟨hx, hbz, hml, hown, hts, hrz, hlk, hnm⟩ := id hc
  obtain ⟨g1, g2, g3, g4, g5, g6⟩ := id hRm
  have hcat2 : ((st.map (jv (jad bw ws))).map fun v => v.category).sum ≤ 8 := by
    rw [List.map_map]; simp only [Function.comp_def, jv_cat]; exact hcat
  obtain ⟨tys, q, hK, hP, hD, hq, hadq, hE, hset, hall, hlenw⟩ := jM_open hM h2 hN
  obtain ⟨qa, qe⟩ := q
  dsimp only at hadq hE hset
  have hv := jv_at hadq
  obtain ⟨cA, x0, t0, e1, e2, e3⟩ := jE_a hb hE
  subst e1
  replace e3 : x0 = .inl (mI m b) := e3
  subst e3
  have hEa : ∃ (xa : Nat) (cB : ClassId) (t1 : Nat), ws[a - 2]? = some (xa, .inl (cB, na, .inl (mI m a))) ∧ tys[t1]? = some (cB, .int) ∧ jv (jad bw ws) (.ref a) = .ref xa := by
    exact by
      have hka : a - 2 < ws.length := by omega
      have hqa : ws[a - 2]? = some ws[a - 2] := by simp [hka]
      have hj : (jad bw ws)[a]? = some (ws[a - 2]).1 := by
        have := jad_get (bw := bw) hqa; rw [show a - 2 + 2 = a by omega] at this; exact this
      have hEq := hall (a - 2) _ hqa
      rw [show a - 2 + 2 = a by omega] at hEq
      obtain ⟨cB, x1, t1, f1, f2, f3⟩ := jE_a hba hEq
      replace f3 : x1 = .inl (mI m a) := f3
      subst f3
      exact ⟨(ws[a - 2]).1, cB, t1, by rw [hqa, ← f1], f2, jv_at hj⟩
  obtain ⟨xa, cB, t1, ha1, ha3, ha4⟩ := hEa
  simp only [List.map_cons, hv, ha4]
  refine va_copyi hx hbz (by rw [hml]; exact hl.1.symm) hown (hts _ hw) (hts _ wd_ac1) (hts _ wd_ac2) (hts _ wd_System) hK hP hD hS (a - 2) (b - 2) t1 t0 ha1 hq ha3 e2 rfl h1 h3 h4 h5 h6 (fun _ _ => rfl) (by omega) (by simp only [nativeFrameWords_ac]; omega) hd (fun H1 locs1 hP1 hD1 hS1 => ?_)
  obtain ⟨hM1, hj1⟩ := hset H1 _ (aI m b (va_cpy (mI m a) (mI m b) sp.toNatClampNeg dp.toNatClampNeg n.toNatClampNeg)) hP1 hD1 (aI_off m b _) rfl (jE_of_a hb ⟨_, _, _, rfl, e2, by show _ = _; rw [aI_s]⟩)
  have hk := k p l e R s mid args below meth c H1 locs1 cells slots MC MS D a0 bw X ad0 _ ls Qf hc hX hRO hRm hM1 (by rw [hj1]; exact had) hS1 (by rw [hj1]; exact hl) (by rw [hj1]; exact hwl) (by rw [hj1]; exact (jws_t (jws_t (jws_t (jws_t (jws_t hws)))))) hend
  rw [hj1] at hk
  exact hk
theorem JT_copyL {M : MT} {d mc ms pc : Nat} {lv : List (Nat × Value)} {st : List Value} {m : JMem} {Q : Option Value → JMem → Prop} {idx d2 a b na nb : Nat} {sp dp n : Int32} (hd : decode M.2.2.1 pc = .ok (.invokestatic idx, 3)) (hw : Cond.methodLink M.1 idx arraycopyName ∈ TS) (hb : BS b = (some .long, nb)) (h2 : 2 ≤ b) (hN : b < mN m) (hba : BS a = (some .long, na)) (ha2 : 2 ≤ a) (haN : a < mN m) (h1 : ¬ sp < 0) (h3 : ¬ dp < 0) (h4 : ¬ n < 0) (h5 : sp.toNatClampNeg + n.toNatClampNeg ≤ na) (h6 : dp.toNatClampNeg + n.toNatClampNeg ≤ nb) (hcat : (st.map fun v => v.category).sum ≤ 8) (hdd : d = d2 + 1)
    (k : JT M d mc ms (pc + 3) lv st (aL m b (va_cpy (mL m a) (mL m b) sp.toNatClampNeg dp.toNatClampNeg n.toNatClampNeg)) Q) : JT M d mc ms pc lv (.int n :: .int dp :: .ref b :: .int sp :: .ref a :: st) m Q := by
  subst hdd
  intro p l e R s mid args below meth c H locs cells slots MC MS D a0 bw X ad0 ws ls Qf hc hX hRO hRm hM had hS hl hwl hws hend
  obtain ⟨hx, hbz, hml, hown, hts, hrz, hlk, hnm⟩ := id hc
  obtain ⟨g1, g2, g3, g4, g5, g6⟩ := id hRm
  have hcat2 : ((st.map (jv (jad bw ws))).map fun v => v.category).sum ≤ 8 := by
    rw [List.map_map]; simp only [Function.comp_def, jv_cat]; exact hcat
  obtain ⟨tys, q, hK, hP, hD, hq, hadq, hE, hset, hall, hlenw⟩ := jM_open hM h2 hN
  obtain ⟨qa, qe⟩ := q
  dsimp only at hadq hE hset
  have hv := jv_at hadq
  obtain ⟨cA, x0, t0, e1, e2, e3⟩ := jE_a hb hE
  subst e1
  replace e3 : x0 = .inr (.inl (mL m b)) := e3
  subst e3
  have hEa : ∃ (xa : Nat) (cB : ClassId) (t1 : Nat), ws[a - 2]? = some (xa, .inl (cB, na, .inr (.inl (mL m a)))) ∧ tys[t1]? = some (cB, .long) ∧ jv (jad bw ws) (.ref a) = .ref xa := by
    exact by
      have hka : a - 2 < ws.length := by omega
      have hqa : ws[a - 2]? = some ws[a - 2] := by simp [hka]
      have hj : (jad bw ws)[a]? = some (ws[a - 2]).1 := by
        have := jad_get (bw := bw) hqa; rw [show a - 2 + 2 = a by omega] at this; exact this
      have hEq := hall (a - 2) _ hqa
      rw [show a - 2 + 2 = a by omega] at hEq
      obtain ⟨cB, x1, t1, f1, f2, f3⟩ := jE_a hba hEq
      replace f3 : x1 = .inr (.inl (mL m a)) := f3
      subst f3
      exact ⟨(ws[a - 2]).1, cB, t1, by rw [hqa, ← f1], f2, jv_at hj⟩
  obtain ⟨xa, cB, t1, ha1, ha3, ha4⟩ := hEa
  simp only [List.map_cons, hv, ha4]
  refine va_copyl hx hbz (by rw [hml]; exact hl.1.symm) hown (hts _ hw) (hts _ wd_ac1) (hts _ wd_ac2) (hts _ wd_System) hK hP hD hS (a - 2) (b - 2) t1 t0 ha1 hq ha3 e2 rfl h1 h3 h4 h5 h6 (fun _ _ => rfl) (by omega) (by simp only [nativeFrameWords_ac]; omega) hd (fun H1 locs1 hP1 hD1 hS1 => ?_)
  obtain ⟨hM1, hj1⟩ := hset H1 _ (aL m b (va_cpy (mL m a) (mL m b) sp.toNatClampNeg dp.toNatClampNeg n.toNatClampNeg)) hP1 hD1 (aL_off m b _) rfl (jE_of_a hb ⟨_, _, _, rfl, e2, by show _ = _; rw [aL_s]⟩)
  have hk := k p l e R s mid args below meth c H1 locs1 cells slots MC MS D a0 bw X ad0 _ ls Qf hc hX hRO hRm hM1 (by rw [hj1]; exact had) hS1 (by rw [hj1]; exact hl) (by rw [hj1]; exact hwl) (by rw [hj1]; exact (jws_t (jws_t (jws_t (jws_t (jws_t hws)))))) hend
  rw [hj1] at hk
  exact hk
