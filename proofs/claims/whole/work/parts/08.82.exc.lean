def NSE : String := "java/util/NoSuchElementException"
def NSEup : List String := ["java/lang/RuntimeException", "java/lang/Exception"]
theorem x_at0 : ∀ w ∈ vx_at0 RX11 178 NSE NSEup, w ∈ TS ∨ w ∈ XW := by decide +kernel
theorem x_ot : ∀ w ∈ Cond.classLink RX11 176 NSE :: Cond.initialized NSE :: vx_at0 RX11 178 NSE NSEup, vx_ot w = true := by decide +kernel
theorem x_cl : Cond.classLink RX11 176 NSE ∈ TS := by decide +kernel
theorem x_in : Cond.initialized NSE ∈ TS := by decide +kernel
theorem x_clL : Cond.classLink RL 13 NSE ∈ TS := by decide +kernel
theorem jM_kept {D : va_G} {a0 : Nat} {bw : Nat × Nat} {m : JMem} {U : State} {H H1 : Heap} {ws : va_W} (hM : jM D a0 bw m U H ws) (h : ∀ q : Nat, q < H.size → H1[q]? = H[q]?) : jM D a0 bw m U H1 ws := by
  obtain ⟨tys, h1, h2, h3⟩ := hM
  exact ⟨tys, h1, fun k q hk => (h2 k q hk).kept (h q.1 (h2 k q hk).lt), h3⟩
/-- what is so where NoSuchElementException has been thrown -/
def xXC (D : va_G) (a0 : Nat) (bw : Nat × Nat) (X : Nat × (Nat → Int32)) (ad0 : List Nat) (P : Option Int32 → SM → Prop) : String → State → State → Prop := fun E st t =>
  E = NSE ∧ ∃ (s1 : SM) (ws1 : va_W), P none s1 ∧ mS (std s1) = X ∧ jM D a0 bw (std s1) t t.heap ws1 ∧ ad0 <+: jad bw ws1 ∧ va_F (fun q : Nat => a0 ≤ q) st t
/-- the answer of one that may throw -/
def xQ (P : Option Int32 → SM → Prop) : Option Value → JMem → Prop := fun v m1 => ∃ x s1, v = some (.int x) ∧ m1 = std s1 ∧ P (some x) s1
theorem xMet (l : Launch) {M : MT} {d : Nat} {as : List Value} {s0 : SM} {P : Option Int32 → SM → Prop} (hy : plainName M.2.1.cls = true) (hown1 : M.2.1.cls = M.1) (hMR : M.1 = RX11) (hlen : (lg_sl as).length ≤ M.2.2.2.1) (hC : KX M d as s0 P) (D : va_G) (a0 : Nat) (bw : Nat × Nat) (X : Nat × (Nat → Int32)) (ws : va_W) :
    vx_Met (nt l) M.2.1 (jW M :: TS) { frames := d + 8, cells := 1, slots := 6, locals := 64 * (d + 8) } (jPc D a0 bw X ws as (std s0)) (jQc D a0 bw X (jad bw ws) (xQ P)) (xXC D a0 bw X (jad bw ws) P) 1 6 (fun q : Nat => a0 ≤ q) := by
  refine vx_ofW (cc := M.2.2.1) (maxL := M.2.2.2.1) (ret := M.2.2.2.2) hy rfl ?_
  intro p e s mid args below meth c s₁ B hml hnt hv
  obtain ⟨rfl, hX, hRO, hM, hws⟩ := hv
  have hx := B.exec
  have hbz := B.bytes
  have hr := B.returns
  have hts := atoms_spec (ws := jW M :: TS) B.pre
  have hown : s.vm.findClass M.1 = some mid.cls := by rw [← hown1]; exact findClass_of_methodNamed B.named
  have hlocks := B.notSynchronized
  have hnm := (name_of_methodNamed B.named B.method).1
  have htab : ∀ hh, Cond.codeWith M.2.1 M.2.2.1 M.2.2.2.1 M.2.2.2.2 hh ∈ TS → c.exceptionTable.toList = tableOf hh := fun hh hm => vx_table (x := M.2.1) B (hts _ (List.mem_cons_of_mem _ hm))
  have hl := lv_entry (as.map (jv (jad bw ws))) (n := M.2.2.2.1) (by rw [lg_len]; exact hlen)
  rw [lg_entry_eq]
  generalize (lg_sl (as.map (jv (jad bw ws))) ++ List.replicate (M.2.2.2.1 - (lg_sl (as.map (jv (jad bw ws)))).length) Slot.unset).toArray = ls at hl ⊢
  rw [lv_args_map] at hl
  refine hC p l e _ s mid _ below meth c s.heap [] 0 0 0 0 D a0 bw X (jad bw ws) ws ls _ ⟨hx, hbz, hml, hown, fun w hw => hts w (List.mem_cons_of_mem _ hw), hr, hlocks, fun _ => hnm, htab⟩ hX hRO ⟨Nat.le_add_right _ _, by show 64 * d ≤ 64 * (d + 8); omega, by omega, by omega, by show 0 ≤ 1; omega, by show 0 ≤ 6; omega⟩ hM (List.prefix_refl _) va_S.rf hl (lv_args_wf _ _ hws) (fun v hv => by cases hv) ?_
  intro v m1 pc H locs cells slots ws1 ls1 cst hQ hE hX1 hc1 hs1 hM1 had hS hls
  rcases hQ with ⟨x, s1, rfl, rfl, hp⟩ | ⟨pc', s1, rfl, ht, rfl, hp⟩
  · obtain ⟨rfl, hdg, ty, hr0, hn⟩ := hE
    refine vx_ret (W.widen (k := 1) (n := 6) (by omega) (by omega) ?_)
    exact W.zret hx hbz (by rw [hr]; exact hr0) hn (fun t ht hW => ⟨_, std s1, ws1, rfl, Or.inr ⟨x, rfl⟩, ⟨x, s1, rfl, rfl, hp⟩, hX1, by rw [ht]; exact jMoved hW.alike hM1, had, hS.F ht⟩) hS.2.2 hdg
  · obtain ⟨rfl, rfl⟩ := hE
    obtain ⟨d0, d3, d4, d7⟩ := ht
    refine vx_throw0 (own := RX11) (cls := NSE) (names := NSEup) (A := fun q : Nat => a0 ≤ q) hx hbz (nt_st l) (by rw [← hMR]; exact hown) (by decide) (by decide) (hts _ (List.mem_cons_of_mem _ x_cl)) (hts _ (List.mem_cons_of_mem _ x_in)) (fun w hw => (x_at0 w hw).elim (fun h => hts w (List.mem_cons_of_mem _ h)) (fun h => va_Nw.use (XW_t w h) (hRO.2.2.2.2.2.1.2.2 w h))) x_ot hRO.2.2.2.2.2.2.1 hRO.2.2.2.2.2.2.2 hS (by rw [hls, hml]) d0 d3 d4 d7 (fun x hx => (hnt x hx).elim) (by show 2 + 3 < d + 8; omega) ?_ (by show cells + 1 ≤ 1; omega) (by show slots + 6 ≤ 6; omega) hlocks (fun t hal hz hk => ⟨rfl, s1, ws1, hp, hX1, jMoved hal (jM_kept hM1 hk), had, ?_⟩) hS.2.2 (by omega) (by omega)
    · show 0 + (13 * (2 + 1) + 42) ≤ 64 * (d + 8)
      omega
    · exact ⟨Nat.le_trans hS.1 hz, fun q h1 h2 => by rw [hk q (Nat.lt_of_lt_of_le h1 hS.1)]; exact hS.2.1 q h1 h2⟩

theorem JT_try {M M' : MT} {d d' mc ms pc : Nat} {lv : List (Nat × Value)} {st : List Value} {s0 : SM} {Q : Option Value → JMem → Prop} {P : Option Int32 → SM → Prop} {As rest : List Value} {idx b ci q1 q2 hpc q4 : Nat}
    (hd : decode M.2.2.1 pc = .ok (.invokevirtual idx, 3)) (hcv : jCV M.1 idx M') (hok : jOK M' As.length) (hMR : M'.1 = RX11) (hst : st = As.reverse ++ .ref b :: rest) (hcat : (rest.map fun v => v.category).sum ≤ 8) (hb : BS b = (none, ci)) (h2 : 2 ≤ b) (hN : b < 279) (hci : ∃ T N, vwCl[ci]? = some (M'.1, T, N)) (hlen : (lg_sl (.ref b :: As)).length ≤ M'.2.2.2.1) (hC : KX M' d' (.ref b :: As) s0 P) (hdd : d' + 9 ≤ d)
    (hcw : Cond.codeWith M.2.1 M.2.2.1 M.2.2.2.1 M.2.2.2.2 [(q1, q2, hpc, q4)] ∈ TS) (hlk9 : Cond.classLink M.1 q4 NSE ∈ TS) (hcov : q1 ≤ pc ∧ pc < q2) (hq4 : q4 ≠ 0)
    (hda : decode M.2.2.1 hpc = .ok (.astore 4, 2)) (h5 : 4 < M.2.2.2.1) (hlv4 : lv.filter (fun q => !(q.1 == 4) && !(q.1 + 1 == 4 && q.2.category == 2)) = lv)
    (k : ∀ x s1, P (some x) s1 → JT M d mc ms (pc + 3) lv (.int x :: rest) (std s1) Q)
    (kx : ∀ s1, P none s1 → JT M d mc ms (hpc + 2) lv [] (std s1) Q) : JT M d (mc + 1) (ms + 6) pc lv st (std s0) Q := by
  intro p l e R s mid args below meth c H locs cells slots MC MS D a0 bw X ad0 ws ls Qf hc hX hRO hRm hM had hS hl hwl hws hend
  obtain ⟨hx, hbz, hml, hown, hts, hrz, hlk, hnm, htab⟩ := id hc
  subst hst
  obtain ⟨g1, g2, g3, g4, g5, g6⟩ := id hRm
  have hcat2 : ((rest.map (jv (jad bw ws))).map fun v => v.category).sum ≤ 8 := by
    rw [List.map_map]; simp only [Function.comp_def, jv_cat]; exact hcat
  have hR0 := jRO_kept hRO hS
  obtain ⟨o1, o2, o3, o4, o5, o6⟩ := id hok
  obtain ⟨T9, N9, hci⟩ := hci
  obtain ⟨tys, q, hK, hP, hD, hq, hadq, hE, -⟩ := jM_open hM h2 hN
  obtain ⟨qa, qe⟩ := q
  dsimp only at hadq hE
  obtain ⟨fs, r9, e1, e2, -⟩ := jE_o hb hE
  subst e1
  have hv := jv_at hadq
  have hwr : jws (jad bw ws) rest := fun z hz => hws z (by simp [hz])
  have hwa : jws (jad bw ws) (.ref b :: As) := fun z hz => hws z (by rcases List.mem_cons.mp hz with rfl | h <;> simp_all)
  have hcell := va_recv hK hP hci hq
  have hMet := xMet l o1 o2 hMR hlen hC D a0 bw X ws
  have hRun := vx_runV (C := M'.1) (As := As.map (jv (jad bw ws))) (rest := rest.map (jv (jad bw ws))) (p := p) (l := nt l) (e := e) (R := R) (s := s) (m := mid) (args := args) (below := below) (meth := meth) (c := c) (H := H) (locs := locs) (cells := cells) (slots := slots) (g := F0 mid pc ls ((As.reverse ++ .ref b :: rest).map (jv (jad bw ws)))) ⟨hx, hbz, hml, hown, hts⟩ hMet ⟨callB_of As.length hts (jGood hok) rfl rfl rfl (hts _ o4) (hts _ hcv.1) o5 ⟨by show d' + 8 + 1 ≤ R.frames; omega, by show 8 + (M'.2.2.2.1 + 11) + 64 * (d' + 8) ≤ R.locals; omega⟩, hts _ hcv.2.1, by rw [← o2]; exact hts _ hcv.2.2⟩ ⟨jPc_blind, hcell, fun U hU hW => ⟨by rw [List.map_cons, hv], hX, by rw [hU]; exact jRO_moved hW.alike (jNW_w hW) hR0, by rw [hU]; exact jMoved hW.alike hM, hwa⟩⟩ rfl (by simp) hl.1 (by rw [List.map_append, List.map_cons, hv, List.map_reverse]) (lv_room hcat2) hd ⟨by omega, by omega⟩
  intro T hT X9
  rcases hRun T hT X9 with ⟨v, st₀, t, T', L, h0, X', hL, f1, f2, ⟨v', m1, ws1, hv', hv9, hQ, hX1, hM1, hpre, hz, hk⟩, stp⟩ | ⟨q9, st₀, t, T', L, E, ce, h0, X', hL, f1, f2, ⟨hE9, s1, ws1, hp, hX1, hM1, hpre, hz, hk⟩, hce, hcv9, hcl, stp⟩
  · cases hv'
    obtain ⟨x, s1, rfl, rfl, hp⟩ := hQ
    rw [h0] at hz hk
    have hal : t.vm.Alike s.vm := by rw [← f2]; exact X'.warmed.alike.symm
    have hw1 := jws_mono hpre hwr
    have hS1 : va_S (fun q : Nat => a0 ≤ q) s.heap T'.heap (locs ++ L) := ⟨Nat.le_trans hS.1 (by rw [f1]; exact hz), fun q h1 h2 => by rw [f1, hk q (Nat.lt_of_lt_of_le h1 hS.1) h2]; exact hS.2.1 q h1 h2, fun q hq => by
      rcases List.mem_append.mp hq with h | h
      · exact hS.2.2 q h
      · exact hL q h⟩
    have hk9 := k x s1 hp p l e R s mid args below meth c T'.heap (locs ++ L) (cells + 1) (slots + 6) MC MS D a0 bw X ad0 ws1 ls Qf hc hX1 hRO ⟨g1, g2, by omega, by omega, g5, g6⟩ (by rw [f1]; exact jMoved hal hM1) (had.trans hpre) hS1 (by rw [(jwl_mono hpre hwl).2]; exact hl) (jwl_mono hpre hwl).1 (jws_c trivial hw1.1) hend
    rw [List.map_cons, hw1.2] at hk9
    obtain ⟨t2, a1, b1⟩ := hk9 T' rfl X'
    exact ⟨t2, stp t2 a1, b1⟩
  · rw [h0] at hz hk
    subst hE9
    have hal : t.vm.Alike s.vm := by rw [← f2]; exact X'.warmed.alike.symm
    have hS1 : va_S (fun q : Nat => a0 ≤ q) s.heap T'.heap (locs ++ L) := ⟨Nat.le_trans hS.1 (by rw [f1]; exact hz), fun q h1 h2 => by rw [f1, hk q (Nat.lt_of_lt_of_le h1 hS.1) h2]; exact hS.2.1 q h1 h2, fun q hq => by
      rcases List.mem_append.mp hq with h | h
      · exact hS.2.2 q h
      · exact hL q h⟩
    have hWx : vx_W p (nt l) e R s mid args below meth c T'.heap (locs ++ L) (cells + 1) (slots + 6) Qf (F0 mid pc ls (rest.map (jv (jad bw ws)))) q9 := by
      refine vx_catch (own := M.1) (name := NSE) (E := NSE) hown [] ⟨q1, q2, hpc, q4⟩ [] (htab _ hcw) (fun z hz => by cases hz) (by simp only [covers, Bool.and_eq_true, decide_eq_true_eq]; exact hcov) hq4 (hts _ hlk9) (va_Nw.use rfl (hRO.2.2.2.2.2.1.2.2 (.castable NSE NSE) (by simp [XW, NSE]))) (by rw [f1]; exact hce) hcv9 hcl ?_
      refine lv_astore (lv' := (4, .ref q9) :: jlv (jad bw ws) lv) hx hbz hda hl h5 (by rw [jlv_f, hlv4]) (fun ls' hl' => ?_)
      have hl2 : lv_has ls' M.2.2.2.1 (jlv (jad bw ws) lv) := ⟨hl'.1, hl'.2.1, fun q hq => hl'.2.2 q (List.mem_cons_of_mem _ hq)⟩
      exact kx s1 hp p l e R s mid args below meth c T'.heap (locs ++ L) (cells + 1) (slots + 6) MC MS D a0 bw X ad0 ws1 ls' Qf hc hX1 hRO ⟨g1, g2, by omega, by omega, g5, g6⟩ (by rw [f1]; exact jMoved hal hM1) (had.trans hpre) hS1 (by rw [(jwl_mono hpre hwl).2]; exact hl2) (jwl_mono hpre hwl).1 (fun v hv => by cases hv) hend
    obtain ⟨t2, a1, b1⟩ := hWx T' rfl X'
    exact ⟨t2, stp.trans a1, b1⟩

abbrev ML_body : MT := (RL, yL_body, cL_body, 5, some .int)
theorem cwL_body : Cond.codeWith yL_body cL_body 5 (some .int) [(0, 10, 13, 13)] ∈ TS := by decide +kernel

abbrev ML_kind : MT := (RL, yL_kind, cL_kind, 5, some .int)
theorem cwL_kind : Cond.codeWith yL_kind cL_kind 5 (some .int) [(0, 10, 13, 13)] ∈ TS := by decide +kernel

abbrev ML_deal : MT := (RL, yL_deal, cL_deal, 5, some .int)
theorem cwL_deal : Cond.codeWith yL_deal cL_deal 5 (some .int) [(0, 10, 13, 13)] ∈ TS := by decide +kernel
