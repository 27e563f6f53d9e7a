set_option maxRecDepth 1000000 in
theorem JS_callVIm {M M' : MT} {d d' mc ms : Nat} {pc : Nat} {lv : List (Nat × Value)} {st : List Value} {s : SM} {Q : Option Value → JMem → Prop} {P : Int32 → SM → Prop} {As rest : List Value} {idx : Nat} {b ci : Nat} (hd : decode M.2.2.1 pc = .ok (.invokevirtual idx, 3)) (hcv : jCV M.1 idx M') (hok : jOK M' As.length) (hst : st = As.reverse ++ .ref b :: rest) (hcat : (rest.map fun v => v.category).sum ≤ 8) (hb : BS b = (none, ci)) (h2 : 2 ≤ b) (hN : b < 279) (hci : ∃ T N, vwCl[ci]? = some (M'.1, T, N)) (hlen : (lg_sl (.ref b :: As)).length ≤ M'.2.2.2.1) (hlev : d' + 1 ≤ d) (hC : KI M' d' (.ref b :: As) s P) (k : ∀ x s1, P x s1 → JT M d mc ms (pc + 3) lv (.int x :: rest) (std s1) Q) : JT M d mc ms pc lv st (std s) Q := by
  obtain ⟨d9, rfl⟩ : ∃ d9, d = d9 + 1 := ⟨d - 1, by omega⟩
  rw [← Nat.zero_add mc, ← Nat.zero_add ms]
  refine JT_callV (mc1 := 0) (ms1 := 0) hd hcv hok hst hcat hb h2 hN hci hlen (JT_room hC (by omega) (Nat.le_refl _) (Nat.le_refl _)) (fun v m1 hq => ?_)
  obtain ⟨x, s1, rfl, rfl, hp⟩ := hq
  exact k x s1 hp
set_option maxRecDepth 1000000 in
theorem Met_ofWH {l : Launch} {y : MethodName} {ws ws' : List Cond} {rm : Room} {Pc : Array Value → State → Prop} {Qc : Array Value → State → Outcome → State → Prop} {mc ms : Nat} {free : Addr → Prop} {cc : ByteArray} {maxL : Nat} {ret : Option FieldType} {hh : List (Nat × Nat × Nat × Nat)}
    (hy : plainName y.cls = true) (hw : ws = Cond.codeWith y cc maxL ret hh :: ws')
    (body : ∀ p e s m args below meth c s₁, BodyLoose p l y (headSpec ws rm) cc maxL ret e s m args below meth c s₁ → c.maxLocals = maxL → Pc args s →
      W p l e (headSpec ws rm).room s m args below meth c s.heap [] 0 0 (MQ below Qc args s mc ms free) (entryFrame m args maxL)) : Met l y ws rm Pc Qc mc ms free := by
  refine MetFree.of_bodyS (code := cc) (maxLocals := maxL) (ret := ret) hy ?_ ?_
  · intro args s m h hn
    obtain ⟨m9, meth, c, hn9, h1, h2, h3, h4, -, h5, h6, -⟩ := Cond.codeWith_spec (atoms_spec (ws := ws) h _ (by rw [hw]; exact List.mem_cons_self))
    cases hn.symm.trans hn9
    exact ⟨meth, c, h1, h2, h3, h4, h5, h6⟩
  · intro p e s m args below meth c s₁ B hml hP _
    have hh0 : s₁.heap = s.heap := by rw [B.state]; rfl
    obtain ⟨t, a1, o, b1, b2, b3⟩ := body p e s m args below meth c s₁ B hml hP s₁ hh0 (Stand.of_body B)
    exact ⟨t, o, a1, b1, b2, ⟨b3.1, b3.2⟩⟩
abbrev jWW (M : MT) (hh : List (Nat × Nat × Nat × Nat)) : Cond := .codeWith M.2.1 M.2.2.1 M.2.2.2.1 M.2.2.2.2 hh
set_option maxRecDepth 1000000 in
theorem jMetW (l : Launch) {hh : List (Nat × Nat × Nat × Nat)} {M : MT} {d mc ms : Nat} {as : List Value} {m : JMem} {Q : Option Value → JMem → Prop} (hy : plainName M.2.1.cls = true) (hown1 : M.2.1.cls = M.1) (hlen : (lg_sl as).length ≤ M.2.2.2.1) (hC : JC M d mc ms as m Q) (D : va_G) (a0 : Nat) (bw : Nat × Nat) (X : Nat × (Nat → Int32)) (ws : va_W) :
    Met (nt l) M.2.1 (jWW M hh :: TS) { frames := d, cells := mc, slots := ms, locals := 64 * d } (jPc D a0 bw X ws as m) (jQc D a0 bw X (jad bw ws) Q) mc ms (fun q : Nat => a0 ≤ q) := by
  refine Met_ofWH (hh := hh) (cc := M.2.2.1) (maxL := M.2.2.2.1) (ret := M.2.2.2.2) hy rfl ?_
  intro p e s mid args below meth c s₁ B hml hv
  obtain ⟨rfl, hX, hRO, hM, hws⟩ := hv
  have hx := B.exec
  have hbz := B.bytes
  have hr := B.returns
  have hts := atoms_spec (ws := jWW M hh :: TS) B.pre
  have hown : s.vm.findClass M.1 = some mid.cls := by rw [← hown1]; exact findClass_of_methodNamed B.named
  have hlocks := B.notSynchronized
  have hnm := (name_of_methodNamed B.named B.method).1
  have htab : ∀ hh, Cond.codeWith M.2.1 M.2.2.1 M.2.2.2.1 M.2.2.2.2 hh ∈ TS → c.exceptionTable.toList = tableOf hh := fun _ hm => vx_table (x := M.2.1) B (hts _ (List.mem_cons_of_mem _ hm))
  have hl := lv_entry (as.map (jv (jad bw ws))) (n := M.2.2.2.1) (by rw [lg_len]; exact hlen)
  rw [lg_entry_eq]
  generalize (lg_sl (as.map (jv (jad bw ws))) ++ List.replicate (M.2.2.2.1 - (lg_sl (as.map (jv (jad bw ws)))).length) Slot.unset).toArray = ls at hl ⊢
  rw [lv_args_map] at hl
  refine hC p l e _ s mid _ below meth c s.heap [] 0 0 mc ms D a0 bw X (jad bw ws) ws ls _ ⟨hx, hbz, hml, hown, fun w hw => hts w (List.mem_cons_of_mem _ hw), hr, hlocks, fun _ => hnm, htab⟩ hX hRO ⟨Nat.le_refl _, Nat.le_refl _, by omega, by omega, Nat.le_refl _, Nat.le_refl _⟩ hM (List.prefix_refl _) va_S.rf hl (lv_args_wf _ _ hws) (fun v hv => by cases hv) ?_
  intro v m1 pc H locs cells slots ws1 ls1 cst hQ hE hX1 hc1 hs1 hM1 had hS hls
  refine W.widen hc1 hs1 ?_
  have post : ∀ t : State, t.heap = H → s.WarmedH t.vm → (v = none ∨ ∃ x, v = some (.int x)) → jQc D a0 bw X (jad bw ws) Q (as.map (jv (jad bw ws))).toArray s (.returned v) t := fun t ht hW hv9 => ⟨v, m1, ws1, rfl, hv9, hQ.2, hX1, by rw [ht]; exact jMoved hW.alike hM1, had, hS.F ht⟩
  match v, hQ, hE, post with
  | none, hQ, hE, post =>
    obtain ⟨rfl, hdg, hr0⟩ := hE
    exact W.vret hx hbz (by rw [hr]; exact hr0) (fun t ht hW => post t ht hW (Or.inl rfl)) hS.2.2 hdg
  | some (.int x), hQ, hE, post =>
    obtain ⟨rfl, hdg, ty, hr0, hn⟩ := hE
    exact W.zret hx hbz (by rw [hr]; exact hr0) hn (fun t ht hW => post t ht hW (Or.inr ⟨x, rfl⟩)) hS.2.2 hdg
  | some (.retAddr q), hQ, hE, post => exact absurd hQ.1 id
  | some (.long _), hQ, hE, post => exact absurd hE id
  | some (.float _), hQ, hE, post => exact absurd hE id
  | some (.double _), hQ, hE, post => exact absurd hE id
  | some .null, hQ, hE, post => exact absurd hE id
  | some (.ref _), hQ, hE, post => exact absurd hE id
set_option maxRecDepth 1000000 in
theorem JT_callSW {M : MT} {d mc ms pc : Nat} {lv : List (Nat × Value)} {st : List Value} {m : JMem} {Q : Option Value → JMem → Prop} {M' : MT} {Q' : Option Value → JMem → Prop} {As rest : List Value} {idx mc1 ms1 : Nat} (hd : decode M.2.2.1 pc = .ok (.invokestatic idx, 3)) (hcv : jCS M.1 idx M') {hh : List (Nat × Nat × Nat × Nat)} (ho : plainName M'.2.1.cls = true ∧ M'.2.1.cls = M'.1 ∧ jWW M' hh ∈ TS ∧ Cond.initialized M'.2.1.cls ∈ TS ∧ (M'.2.1.cls ≠ "java/lang/invoke/MethodHandle" ∧ M'.2.1.cls ≠ "java/lang/invoke/VarHandle" ∧ (parseMethodDescriptor M'.2.1.desc).map (fun d => d.parameters.length) = some As.length) ∧ M'.2.2.2.1 ≤ 45) (hst : st = As.reverse ++ rest) (hcat : (rest.map fun v => v.category).sum ≤ 8) (hlen : (lg_sl As).length ≤ M'.2.2.2.1) (hC : JC M' d mc1 ms1 As m Q') (k : ∀ v m1, Q' v m1 → JT M (d + 1) mc ms (pc + 3) lv (v.toList ++ rest) m1 Q) : JT M (d + 1) (mc1 + mc) (ms1 + ms) pc lv st m Q := by
  intro p l e R s mid args below meth c H locs cells slots MC MS D a0 bw X ad0 ws ls Qf hc hX hRO hRm hM had hS hl hwl hws hend
  obtain ⟨hx, hbz, hml, hown, hts, hrz, hlk, hnm⟩ := id hc
  subst hst
  obtain ⟨g1, g2, g3, g4, g5, g6⟩ := id hRm
  have hcat2 : ((rest.map (jv (jad bw ws))).map fun v => v.category).sum ≤ 8 := by
    rw [List.map_map]; simp only [Function.comp_def, jv_cat]; exact hcat
  have hR0 := jRO_kept hRO hS
  obtain ⟨o1, o2, o3, o4, o5, o6⟩ := id ho
  have hwr : jws (jad bw ws) rest := fun z hz => hws z (by simp [hz])
  have hwa : jws (jad bw ws) As := fun z hz => hws z (by simp [hz])
  have hMet := jMetW l (hh := hh) o1 o2 hlen hC D a0 bw X ws
  exact jback k hc hRO hRm had hS hl hwl hwr hend (vx_runSW (hh := hh) (As := As.map (jv (jad bw ws))) (rest := rest.map (jv (jad bw ws))) ⟨hx, hbz, hml, hown, hts⟩ hMet ⟨⟨rfl, rfl, by show d + 1 ≤ R.frames; exact g1, by show 8 + (M'.2.2.2.1 + 11) + 64 * d ≤ R.locals; omega, pay_in hts (fun w hw => (List.mem_cons.mp hw).elim (fun e => by rw [e]; exact ts_good _ o3) (ts_good w)), List.mem_cons_self⟩, hts _ o3, hts _ o4, ⟨o5.1, o5.2.1⟩, fun sig h => by have h2 := o5.2.2; rw [h] at h2; exact (Option.some.inj h2).symm, hts _ hcv.1, hts _ hcv.2⟩ ⟨jPc_blind, fun U hU hW => ⟨rfl, hX, by rw [hU]; exact jRO_moved hW.alike (jNW_w hW) hR0, by rw [hU]; exact jMoved hW.alike hM, hwa⟩⟩ rfl (by simp) hl.1 (by rw [List.map_append, List.map_reverse]) (lv_room hcat2) hd ⟨by omega, by omega⟩)
set_option maxRecDepth 1000000 in
theorem cvLL_7 : jCV RL 7 MX11_body := ⟨by decide +kernel, by decide +kernel, by decide +kernel⟩
theorem pL_body (a1 a2 : Int32) {s : SM} (hr : rX11_body s a1 a2) : JC ML_body 20 1 6 [.ref 2, .int a1, .int a2, .ref 278] (std s) (fun v m => (∃ x, vX11_body s a1 a2 = some x ∧ v = some (.int 0) ∧ m = std (pL s 278 0 x.toInt64)) ∨ (vX11_body s a1 a2 = none ∧ v = some (.int 1) ∧ m = std s)) := by
  show JT ML_body 20 1 6 0 [(0, .ref 2), (1, .int a1), (2, .int a2), (3, .ref 278)] [] (std s) _
  refine JT_aload_n (q := 3) dL_body_0 rfl rfl ?_
  refine JT_iconst (v := 0) dL_body_1 (by decide) ?_
  refine JT_aload_n (q := 0) dL_body_2 rfl rfl ?_
  refine JT_iload_n (q := 1) dL_body_3 rfl rfl ?_
  refine JT_iload_n (q := 2) dL_body_4 rfl rfl ?_
  refine JT_try (mc := 0) (ms := 0) (M' := MX11_body) (d' := 3) (As := [.int a1, .int a2]) (rest := [.int 0, .ref 278]) (P := fun o w => vX11_body s a1 a2 = o ∧ s = w) dL_body_5 cvLL_7 okX11_body rfl rfl (Nat.le_of_ble_eq_true rfl) BS_2 (Nat.le_of_ble_eq_true rfl) (Nat.le_of_ble_eq_true rfl) hci_11 (Nat.le_of_ble_eq_true rfl) (pX11_body a1 a2 hr ⟨rfl, rfl⟩) (Nat.le_of_ble_eq_true rfl) cwL_body x_clL ⟨by decide, by decide⟩ (by decide) dL_body_13 (by decide) rfl (fun x s1 hp => ?_) (fun s1 hp => ?_)
  · obtain ⟨e1, rfl⟩ := hp
    refine JT_i2l dL_body_8 ?_
    refine JS_last dL_body_9 BS_278 (Nat.le_of_ble_eq_true rfl) (Nat.le_of_ble_eq_true rfl) (by unfold vp_in; decide) ?_
    refine JT_goto (tgt := 17) dL_body_10 (by decide) ?_
    refine JT_iconst (v := 0) dL_body_17 (by decide) ?_
    exact JT_iret (st := []) dL_body_18 rfl rfl ⟨trivial, Or.inl ⟨x, e1, rfl, rfl⟩⟩
  · obtain ⟨e1, rfl⟩ := hp
    refine JT_iconst (v := 1) dL_body_15 (by decide) ?_
    exact JT_iret (st := []) dL_body_16 rfl rfl ⟨trivial, Or.inr ⟨e1, rfl, rfl⟩⟩
set_option maxRecDepth 1000000 in
theorem cvLL_15 : jCV RL 15 MX11_kind := ⟨by decide +kernel, by decide +kernel, by decide +kernel⟩
theorem pL_kind (a1 a2 : Int32) {s : SM} (hr : rX11_kind s a1 a2) : JC ML_kind 20 1 6 [.ref 2, .int a1, .int a2, .ref 278] (std s) (fun v m => (∃ x, vX11_kind s a1 a2 = some x ∧ v = some (.int 0) ∧ m = std (pL s 278 0 x.toInt64)) ∨ (vX11_kind s a1 a2 = none ∧ v = some (.int 1) ∧ m = std s)) := by
  show JT ML_kind 20 1 6 0 [(0, .ref 2), (1, .int a1), (2, .int a2), (3, .ref 278)] [] (std s) _
  refine JT_aload_n (q := 3) dL_kind_0 rfl rfl ?_
  refine JT_iconst (v := 0) dL_kind_1 (by decide) ?_
  refine JT_aload_n (q := 0) dL_kind_2 rfl rfl ?_
  refine JT_iload_n (q := 1) dL_kind_3 rfl rfl ?_
  refine JT_iload_n (q := 2) dL_kind_4 rfl rfl ?_
  refine JT_try (mc := 0) (ms := 0) (M' := MX11_kind) (d' := 1) (As := [.int a1, .int a2]) (rest := [.int 0, .ref 278]) (P := fun o w => vX11_kind s a1 a2 = o ∧ s = w) dL_kind_5 cvLL_15 okX11_kind rfl rfl (Nat.le_of_ble_eq_true rfl) BS_2 (Nat.le_of_ble_eq_true rfl) (Nat.le_of_ble_eq_true rfl) hci_11 (Nat.le_of_ble_eq_true rfl) (pX11_kind a1 a2 hr ⟨rfl, rfl⟩) (Nat.le_of_ble_eq_true rfl) cwL_kind x_clL ⟨by decide, by decide⟩ (by decide) dL_kind_13 (by decide) rfl (fun x s1 hp => ?_) (fun s1 hp => ?_)
  · obtain ⟨e1, rfl⟩ := hp
    refine JT_i2l dL_kind_8 ?_
    refine JS_last dL_kind_9 BS_278 (Nat.le_of_ble_eq_true rfl) (Nat.le_of_ble_eq_true rfl) (by unfold vp_in; decide) ?_
    refine JT_goto (tgt := 17) dL_kind_10 (by decide) ?_
    refine JT_iconst (v := 0) dL_kind_17 (by decide) ?_
    exact JT_iret (st := []) dL_kind_18 rfl rfl ⟨trivial, Or.inl ⟨x, e1, rfl, rfl⟩⟩
  · obtain ⟨e1, rfl⟩ := hp
    refine JT_iconst (v := 1) dL_kind_15 (by decide) ?_
    exact JT_iret (st := []) dL_kind_16 rfl rfl ⟨trivial, Or.inr ⟨e1, rfl, rfl⟩⟩
set_option maxRecDepth 1000000 in
theorem cvLL_18 : jCV RL 18 MX11_deal := ⟨by decide +kernel, by decide +kernel, by decide +kernel⟩
theorem pL_deal (a1 a2 : Int32) {s : SM} (hr : rX11_deal s a1 a2) : JC ML_deal 20 1 6 [.ref 2, .int a1, .int a2, .ref 278] (std s) (fun v m => (∃ x, vX11_deal s a1 a2 = some x ∧ v = some (.int 0) ∧ m = std (pL s 278 0 x.toInt64)) ∨ (vX11_deal s a1 a2 = none ∧ v = some (.int 1) ∧ m = std s)) := by
  show JT ML_deal 20 1 6 0 [(0, .ref 2), (1, .int a1), (2, .int a2), (3, .ref 278)] [] (std s) _
  refine JT_aload_n (q := 3) dL_deal_0 rfl rfl ?_
  refine JT_iconst (v := 0) dL_deal_1 (by decide) ?_
  refine JT_aload_n (q := 0) dL_deal_2 rfl rfl ?_
  refine JT_iload_n (q := 1) dL_deal_3 rfl rfl ?_
  refine JT_iload_n (q := 2) dL_deal_4 rfl rfl ?_
  refine JT_try (mc := 0) (ms := 0) (M' := MX11_deal) (d' := 4) (As := [.int a1, .int a2]) (rest := [.int 0, .ref 278]) (P := fun o w => vX11_deal s a1 a2 = o ∧ s = w) dL_deal_5 cvLL_18 okX11_deal rfl rfl (Nat.le_of_ble_eq_true rfl) BS_2 (Nat.le_of_ble_eq_true rfl) (Nat.le_of_ble_eq_true rfl) hci_11 (Nat.le_of_ble_eq_true rfl) (pX11_deal a1 a2 hr ⟨rfl, rfl⟩) (Nat.le_of_ble_eq_true rfl) cwL_deal x_clL ⟨by decide, by decide⟩ (by decide) dL_deal_13 (by decide) rfl (fun x s1 hp => ?_) (fun s1 hp => ?_)
  · obtain ⟨e1, rfl⟩ := hp
    refine JT_i2l dL_deal_8 ?_
    refine JS_last dL_deal_9 BS_278 (Nat.le_of_ble_eq_true rfl) (Nat.le_of_ble_eq_true rfl) (by unfold vp_in; decide) ?_
    refine JT_goto (tgt := 17) dL_deal_10 (by decide) ?_
    refine JT_iconst (v := 0) dL_deal_17 (by decide) ?_
    exact JT_iret (st := []) dL_deal_18 rfl rfl ⟨trivial, Or.inl ⟨x, e1, rfl, rfl⟩⟩
  · obtain ⟨e1, rfl⟩ := hp
    refine JT_iconst (v := 1) dL_deal_15 (by decide) ?_
    exact JT_iret (st := []) dL_deal_16 rfl rfl ⟨trivial, Or.inr ⟨e1, rfl, rfl⟩⟩
set_option maxRecDepth 1000000 in
theorem cvL9_44 : jCS RL 44 ML_body := ⟨by decide +kernel, by decide +kernel⟩
set_option maxRecDepth 1000000 in
theorem law_body {X : Nat × (Nat → Int32)} {INV INV2 : SM → Prop} (hX : ∀ s, INV s → s.2.2.2 = X) (hO : S_out INV) (h : S_body INV INV2) {mc ms : Nat} {s : SM} (hs : INV s) {i : Int32} (hin1 : vp_in (i + (1 : Int32)) X.1) (hin2 : vp_in (i + (2 : Int32)) X.1) (hin3 : vp_in (i + (3 : Int32)) X.1) (hin4 : vp_in (i + (4 : Int32)) X.1) (hin5 : vp_in (i + (5 : Int32)) X.1) {QL : Option Value → JMem → Prop} (k : ∀ s', INV2 s' → JT ML_law 421 mc ms 1740 [(4, .int i), (3, .ref 278), (2, .ref 248), (1, .ref 2), (0, .ref 0)] [] (std s') QL) : JT ML_law 421 (1 + mc) (6 + ms) 368 [(4, .int i), (3, .ref 278), (2, .ref 248), (1, .ref 2), (0, .ref 0)] [] (std s) QL := by
  have hXs : mS (std s) = X := hX s hs
  refine JT_aload_n (q := 3) dL_law_368 rfl rfl ?_
  refine JT_aload_n (q := 4) dL_law_369 rfl rfl ?_
  refine JT_iload (q := 0) dL_law_370 rfl ?_
  refine JT_iconst (v := 1) dL_law_372 (by decide) ?_
  refine JT_iadd dL_law_373 ?_
  refine JT_sld dL_law_374 (by rw [hXs]; exact hin1) ?_
  rw [hXs]
  refine JT_aload_n (q := 4) dL_law_375 rfl rfl ?_
  refine JT_iload (q := 0) dL_law_376 rfl ?_
  refine JT_iconst (v := 2) dL_law_378 (by decide) ?_
  refine JT_iadd dL_law_379 ?_
  refine JT_sld dL_law_380 (by rw [hXs]; exact hin2) ?_
  rw [hXs]
  refine JT_aload_n (q := 1) dL_law_381 rfl rfl ?_
  have hstep : ∀ (kk : Int32) (t : SM), INV t → (t = s ∨ ∃ x, t = pL s 278 0 x) → (vX11_body s (X.2 (i + (1 : Int32)).toNatClampNeg) (X.2 (i + (2 : Int32)).toNatClampNeg) = none ∧ kk = 1 ∨ ∃ x, vX11_body s (X.2 (i + (1 : Int32)).toNatClampNeg) (X.2 (i + (2 : Int32)).toNatClampNeg) = some x ∧ kk = 0 ∧ t = pL s 278 0 x.toInt64) → JT ML_law 421 mc ms 385 [(4, .int i), (3, .ref 278), (2, .ref 248), (1, .ref 2), (0, .ref 0)] [.int kk] (std t) QL := by
    intro kk t ht hts hkk
    have hXt : mS (std t) = X := hX t ht
    obtain ⟨hr1, hr2, hI, hL9, hth, hval⟩ := h s t (X.2 (i + (1 : Int32)).toNatClampNeg) (X.2 (i + (2 : Int32)).toNatClampNeg) hs ht hts
    refine JT_istore (lv' := [(5, .int kk), (4, .int i), (3, .ref 278), (2, .ref 248), (1, .ref 2), (0, .ref 0)]) dL_law_385 (Nat.le_of_ble_eq_true rfl) rfl ?_
    refine JT_aload_n (q := 3) dL_law_387 rfl rfl ?_
    refine JT_aload_n (q := 5) dL_law_388 rfl rfl ?_
    refine JT_iload (q := 1) dL_law_389 rfl ?_
    refine JT_iconst (v := 1) dL_law_391 (by decide) ?_
    refine JT_iadd dL_law_392 ?_
    refine JT_sld dL_law_393 (by rw [hXt]; exact hin1) ?_
    rw [hXt]
    refine JT_aload_n (q := 5) dL_law_394 rfl rfl ?_
    refine JT_iload (q := 1) dL_law_395 rfl ?_
    refine JT_iconst (v := 2) dL_law_397 (by decide) ?_
    refine JT_iadd dL_law_398 ?_
    refine JT_sld dL_law_399 (by rw [hXt]; exact hin2) ?_
    rw [hXt]
    refine JS_callVIm (M' := MX12_body) (d' := 4) (As := [.int (X.2 (i + (1 : Int32)).toNatClampNeg), .int (X.2 (i + (2 : Int32)).toNatClampNeg)]) (rest := []) (P := fun z w => vX12_body t (X.2 (i + (1 : Int32)).toNatClampNeg) (X.2 (i + (2 : Int32)).toNatClampNeg) = z ∧ mX12_body t (X.2 (i + (1 : Int32)).toNatClampNeg) (X.2 (i + (2 : Int32)).toNatClampNeg) = w) dL_law_400 cvL_49 okX12_body rfl (Nat.le_of_ble_eq_true rfl) BS_248 (Nat.le_of_ble_eq_true rfl) (Nat.le_of_ble_eq_true rfl) hci_12 (Nat.le_of_ble_eq_true rfl) (Nat.le_of_ble_eq_true rfl) (pX12_body (X.2 (i + (1 : Int32)).toNatClampNeg) (X.2 (i + (2 : Int32)).toNatClampNeg) hr2 ⟨rfl, rfl⟩) (fun bb w hq => ?_)
    obtain ⟨e1, e2⟩ := hq
    refine JT_istore (lv' := [(6, .int bb), (5, .int kk), (4, .int i), (3, .ref 278), (2, .ref 248), (1, .ref 2), (0, .ref 0)]) dL_law_403 (Nat.le_of_ble_eq_true rfl) rfl ?_
    refine JT_aload_n (q := 4) dL_law_405 rfl rfl ?_
    refine JS_callVIm (M' := MX12_thrown) (d' := 0) (As := []) (rest := []) (P := fun z w2 => vX12_thrown w = z ∧ w = w2) dL_law_406 cvL_50 okX12_thrown rfl (Nat.le_of_ble_eq_true rfl) BS_248 (Nat.le_of_ble_eq_true rfl) (Nat.le_of_ble_eq_true rfl) hci_12 (Nat.le_of_ble_eq_true rfl) (Nat.le_of_ble_eq_true rfl) (pX12_thrown ⟨rfl, rfl⟩) (fun th w2 hq => ?_)
    obtain ⟨e3, e4⟩ := hq
    rw [← e4]
    refine JT_iload (q := 1) dL_law_409 rfl ?_
    have e5 : th = kk := by
      rw [← e3, ← e2, hth]
      rcases hkk with ⟨g1, g2⟩ | ⟨x, g1, g2, -⟩
      · rw [g1, g2]
      · rw [g1, g2]
    refine JT_icmp_eq (tgt := 416) dL_law_411 (by decide) (fun _ => ?_) (fun hne => absurd e5 hne)
    refine JT_iload (q := 1) dL_law_416 rfl ?_
    refine JT_if_ne (tgt := 433) dL_law_418 (by decide) (fun _ => ?_) (fun hk0 => ?_)
    · refine JT_goto (tgt := 1740) dL_law_433 (by decide) ?_
      refine JT_sub [2, 3, 4, 5, 6] (lv' := [(4, .int i), (3, .ref 278), (2, .ref 248), (1, .ref 2), (0, .ref 0)]) rfl ?_
      rw [← e2]
      exact k _ hI
    · obtain ⟨x, g1, g3⟩ : ∃ x, vX11_body s (X.2 (i + (1 : Int32)).toNatClampNeg) (X.2 (i + (2 : Int32)).toNatClampNeg) = some x ∧ t = pL s 278 0 x.toInt64 := by
        rcases hkk with ⟨g1, g2⟩ | ⟨x, g1, g2, g3⟩
        · rw [hk0] at g2; exact absurd g2 (by decide)
        · exact ⟨x, g1, g3⟩
      refine JT_aload_n (q := 3) dL_law_421 rfl rfl ?_
      refine JT_iconst (v := 0) dL_law_422 (by decide) ?_
      refine JT_lald dL_law_423 BS_278 (Nat.le_of_ble_eq_true rfl) (Nat.le_of_ble_eq_true rfl) (by unfold vp_in; decide) ?_
      refine JT_iload (q := 0) dL_law_424 rfl ?_
      refine JT_i2l dL_law_426 ?_
      refine JT_lcmp dL_law_427 ?_
      have e6 : mL (std w) 278 ((0 : Int32)).toNatClampNeg = bb.toInt64 := by
        show gL w 278 0 = _
        rw [← e2, hL9, g3, gL_pL, if_pos ⟨rfl, rfl⟩, ← e1, hval x g1]
      refine JT_if_eq (tgt := 433) dL_law_428 (by decide) (fun _ => ?_) (fun hne => absurd (by rw [e6]; unfold lg_cmp; simp) hne)
      refine JT_goto (tgt := 1740) dL_law_433 (by decide) ?_
      refine JT_sub [2, 3, 4, 5, 6] (lv' := [(4, .int i), (3, .ref 278), (2, .ref 248), (1, .ref 2), (0, .ref 0)]) rfl ?_
      rw [← e2]
      exact k _ hI
  refine JT_callSW (mc1 := 1) (ms1 := 6) (mc := mc) (ms := ms) (d := 420) (M' := ML_body) (As := [.ref 2, .int (X.2 (i + (1 : Int32)).toNatClampNeg), .int (X.2 (i + (2 : Int32)).toNatClampNeg), .ref 278]) (rest := []) dL_law_382 cvL9_44 (hh := [(0, 10, 13, 13)]) ⟨by decide, rfl, cwL_body, by decide +kernel, ⟨by decide, by decide, by show (parseMethodDescriptor yL_body.desc).map (fun d => d.parameters.length) = some 4; decide +kernel⟩, by decide⟩ rfl (Nat.le_of_ble_eq_true rfl) (Nat.le_of_ble_eq_true rfl) (JT_room (d2 := 20) (pL_body (X.2 (i + (1 : Int32)).toNatClampNeg) (X.2 (i + (2 : Int32)).toNatClampNeg) (h s s (X.2 (i + (1 : Int32)).toNatClampNeg) (X.2 (i + (2 : Int32)).toNatClampNeg) hs hs (Or.inl rfl)).1) (Nat.le_of_ble_eq_true rfl) (Nat.le_refl _) (Nat.le_refl _)) (fun v m1 hq => ?_)
  rcases hq with ⟨x, g1, rfl, rfl⟩ | ⟨g1, rfl, rfl⟩
  · exact hstep 0 _ (hO s _ hs) (Or.inr ⟨_, rfl⟩) (Or.inr ⟨x, g1, rfl, rfl⟩)
  · exact hstep 1 s hs (Or.inl rfl) (Or.inl ⟨g1, rfl⟩)
set_option maxRecDepth 1000000 in
theorem cvL9_53 : jCS RL 53 ML_kind := ⟨by decide +kernel, by decide +kernel⟩
set_option maxRecDepth 1000000 in
theorem law_kind {X : Nat × (Nat → Int32)} {INV INV2 : SM → Prop} (hX : ∀ s, INV s → s.2.2.2 = X) (hO : S_out INV) (h : S_kind INV INV2) {mc ms : Nat} {s : SM} (hs : INV s) {i : Int32} (hin1 : vp_in (i + (1 : Int32)) X.1) (hin2 : vp_in (i + (2 : Int32)) X.1) (hin3 : vp_in (i + (3 : Int32)) X.1) (hin4 : vp_in (i + (4 : Int32)) X.1) (hin5 : vp_in (i + (5 : Int32)) X.1) {QL : Option Value → JMem → Prop} (k : ∀ s', INV2 s' → JT ML_law 421 mc ms 1740 [(4, .int i), (3, .ref 278), (2, .ref 248), (1, .ref 2), (0, .ref 0)] [] (std s') QL) : JT ML_law 421 (1 + mc) (6 + ms) 436 [(4, .int i), (3, .ref 278), (2, .ref 248), (1, .ref 2), (0, .ref 0)] [] (std s) QL := by
  have hXs : mS (std s) = X := hX s hs
  refine JT_aload_n (q := 3) dL_law_436 rfl rfl ?_
  refine JT_aload_n (q := 4) dL_law_437 rfl rfl ?_
  refine JT_iload (q := 0) dL_law_438 rfl ?_
  refine JT_iconst (v := 1) dL_law_440 (by decide) ?_
  refine JT_iadd dL_law_441 ?_
  refine JT_sld dL_law_442 (by rw [hXs]; exact hin1) ?_
  rw [hXs]
  refine JT_aload_n (q := 4) dL_law_443 rfl rfl ?_
  refine JT_iload (q := 0) dL_law_444 rfl ?_
  refine JT_iconst (v := 2) dL_law_446 (by decide) ?_
  refine JT_iadd dL_law_447 ?_
  refine JT_sld dL_law_448 (by rw [hXs]; exact hin2) ?_
  rw [hXs]
  refine JT_aload_n (q := 1) dL_law_449 rfl rfl ?_
  have hstep : ∀ (kk : Int32) (t : SM), INV t → (t = s ∨ ∃ x, t = pL s 278 0 x) → (vX11_kind s (X.2 (i + (1 : Int32)).toNatClampNeg) (X.2 (i + (2 : Int32)).toNatClampNeg) = none ∧ kk = 1 ∨ ∃ x, vX11_kind s (X.2 (i + (1 : Int32)).toNatClampNeg) (X.2 (i + (2 : Int32)).toNatClampNeg) = some x ∧ kk = 0 ∧ t = pL s 278 0 x.toInt64) → JT ML_law 421 mc ms 453 [(4, .int i), (3, .ref 278), (2, .ref 248), (1, .ref 2), (0, .ref 0)] [.int kk] (std t) QL := by
    intro kk t ht hts hkk
    have hXt : mS (std t) = X := hX t ht
    obtain ⟨hr1, hr2, hI, hL9, hth, hval⟩ := h s t (X.2 (i + (1 : Int32)).toNatClampNeg) (X.2 (i + (2 : Int32)).toNatClampNeg) hs ht hts
    refine JT_istore (lv' := [(5, .int kk), (4, .int i), (3, .ref 278), (2, .ref 248), (1, .ref 2), (0, .ref 0)]) dL_law_453 (Nat.le_of_ble_eq_true rfl) rfl ?_
    refine JT_aload_n (q := 3) dL_law_455 rfl rfl ?_
    refine JT_aload_n (q := 5) dL_law_456 rfl rfl ?_
    refine JT_iload (q := 1) dL_law_457 rfl ?_
    refine JT_iconst (v := 1) dL_law_459 (by decide) ?_
    refine JT_iadd dL_law_460 ?_
    refine JT_sld dL_law_461 (by rw [hXt]; exact hin1) ?_
    rw [hXt]
    refine JT_aload_n (q := 5) dL_law_462 rfl rfl ?_
    refine JT_iload (q := 1) dL_law_463 rfl ?_
    refine JT_iconst (v := 2) dL_law_465 (by decide) ?_
    refine JT_iadd dL_law_466 ?_
    refine JT_sld dL_law_467 (by rw [hXt]; exact hin2) ?_
    rw [hXt]
    refine JS_callVIm (M' := MX12_kind) (d' := 2) (As := [.int (X.2 (i + (1 : Int32)).toNatClampNeg), .int (X.2 (i + (2 : Int32)).toNatClampNeg)]) (rest := []) (P := fun z w => vX12_kind t (X.2 (i + (1 : Int32)).toNatClampNeg) (X.2 (i + (2 : Int32)).toNatClampNeg) = z ∧ mX12_kind t (X.2 (i + (1 : Int32)).toNatClampNeg) (X.2 (i + (2 : Int32)).toNatClampNeg) = w) dL_law_468 cvL_55 okX12_kind rfl (Nat.le_of_ble_eq_true rfl) BS_248 (Nat.le_of_ble_eq_true rfl) (Nat.le_of_ble_eq_true rfl) hci_12 (Nat.le_of_ble_eq_true rfl) (Nat.le_of_ble_eq_true rfl) (pX12_kind (X.2 (i + (1 : Int32)).toNatClampNeg) (X.2 (i + (2 : Int32)).toNatClampNeg) hr2 ⟨rfl, rfl⟩) (fun bb w hq => ?_)
    obtain ⟨e1, e2⟩ := hq
    refine JT_istore (lv' := [(6, .int bb), (5, .int kk), (4, .int i), (3, .ref 278), (2, .ref 248), (1, .ref 2), (0, .ref 0)]) dL_law_471 (Nat.le_of_ble_eq_true rfl) rfl ?_
    refine JT_aload_n (q := 4) dL_law_473 rfl rfl ?_
    refine JS_callVIm (M' := MX12_thrown) (d' := 0) (As := []) (rest := []) (P := fun z w2 => vX12_thrown w = z ∧ w = w2) dL_law_474 cvL_50 okX12_thrown rfl (Nat.le_of_ble_eq_true rfl) BS_248 (Nat.le_of_ble_eq_true rfl) (Nat.le_of_ble_eq_true rfl) hci_12 (Nat.le_of_ble_eq_true rfl) (Nat.le_of_ble_eq_true rfl) (pX12_thrown ⟨rfl, rfl⟩) (fun th w2 hq => ?_)
    obtain ⟨e3, e4⟩ := hq
    rw [← e4]
    refine JT_iload (q := 1) dL_law_477 rfl ?_
    have e5 : th = kk := by
      rw [← e3, ← e2, hth]
      rcases hkk with ⟨g1, g2⟩ | ⟨x, g1, g2, -⟩
      · rw [g1, g2]
      · rw [g1, g2]
    refine JT_icmp_eq (tgt := 484) dL_law_479 (by decide) (fun _ => ?_) (fun hne => absurd e5 hne)
    refine JT_iload (q := 1) dL_law_484 rfl ?_
    refine JT_if_ne (tgt := 501) dL_law_486 (by decide) (fun _ => ?_) (fun hk0 => ?_)
    · refine JT_goto (tgt := 1740) dL_law_501 (by decide) ?_
      refine JT_sub [2, 3, 4, 5, 6] (lv' := [(4, .int i), (3, .ref 278), (2, .ref 248), (1, .ref 2), (0, .ref 0)]) rfl ?_
      rw [← e2]
      exact k _ hI
    · obtain ⟨x, g1, g3⟩ : ∃ x, vX11_kind s (X.2 (i + (1 : Int32)).toNatClampNeg) (X.2 (i + (2 : Int32)).toNatClampNeg) = some x ∧ t = pL s 278 0 x.toInt64 := by
        rcases hkk with ⟨g1, g2⟩ | ⟨x, g1, g2, g3⟩
        · rw [hk0] at g2; exact absurd g2 (by decide)
        · exact ⟨x, g1, g3⟩
      refine JT_aload_n (q := 3) dL_law_489 rfl rfl ?_
      refine JT_iconst (v := 0) dL_law_490 (by decide) ?_
      refine JT_lald dL_law_491 BS_278 (Nat.le_of_ble_eq_true rfl) (Nat.le_of_ble_eq_true rfl) (by unfold vp_in; decide) ?_
      refine JT_iload (q := 0) dL_law_492 rfl ?_
      refine JT_i2l dL_law_494 ?_
      refine JT_lcmp dL_law_495 ?_
      have e6 : mL (std w) 278 ((0 : Int32)).toNatClampNeg = bb.toInt64 := by
        show gL w 278 0 = _
        rw [← e2, hL9, g3, gL_pL, if_pos ⟨rfl, rfl⟩, ← e1, hval x g1]
      refine JT_if_eq (tgt := 501) dL_law_496 (by decide) (fun _ => ?_) (fun hne => absurd (by rw [e6]; unfold lg_cmp; simp) hne)
      refine JT_goto (tgt := 1740) dL_law_501 (by decide) ?_
      refine JT_sub [2, 3, 4, 5, 6] (lv' := [(4, .int i), (3, .ref 278), (2, .ref 248), (1, .ref 2), (0, .ref 0)]) rfl ?_
      rw [← e2]
      exact k _ hI
  refine JT_callSW (mc1 := 1) (ms1 := 6) (mc := mc) (ms := ms) (d := 420) (M' := ML_kind) (As := [.ref 2, .int (X.2 (i + (1 : Int32)).toNatClampNeg), .int (X.2 (i + (2 : Int32)).toNatClampNeg), .ref 278]) (rest := []) dL_law_450 cvL9_53 (hh := [(0, 10, 13, 13)]) ⟨by decide, rfl, cwL_kind, by decide +kernel, ⟨by decide, by decide, by show (parseMethodDescriptor yL_kind.desc).map (fun d => d.parameters.length) = some 4; decide +kernel⟩, by decide⟩ rfl (Nat.le_of_ble_eq_true rfl) (Nat.le_of_ble_eq_true rfl) (JT_room (d2 := 20) (pL_kind (X.2 (i + (1 : Int32)).toNatClampNeg) (X.2 (i + (2 : Int32)).toNatClampNeg) (h s s (X.2 (i + (1 : Int32)).toNatClampNeg) (X.2 (i + (2 : Int32)).toNatClampNeg) hs hs (Or.inl rfl)).1) (Nat.le_of_ble_eq_true rfl) (Nat.le_refl _) (Nat.le_refl _)) (fun v m1 hq => ?_)
  rcases hq with ⟨x, g1, rfl, rfl⟩ | ⟨g1, rfl, rfl⟩
  · exact hstep 0 _ (hO s _ hs) (Or.inr ⟨_, rfl⟩) (Or.inr ⟨x, g1, rfl, rfl⟩)
  · exact hstep 1 s hs (Or.inl rfl) (Or.inl ⟨g1, rfl⟩)
set_option maxRecDepth 1000000 in
theorem cvL9_56 : jCS RL 56 ML_deal := ⟨by decide +kernel, by decide +kernel⟩
set_option maxRecDepth 1000000 in
theorem law_deal {X : Nat × (Nat → Int32)} {INV INV2 : SM → Prop} (hX : ∀ s, INV s → s.2.2.2 = X) (hO : S_out INV) (h : S_deal INV INV2) {mc ms : Nat} {s : SM} (hs : INV s) {i : Int32} (hin1 : vp_in (i + (1 : Int32)) X.1) (hin2 : vp_in (i + (2 : Int32)) X.1) (hin3 : vp_in (i + (3 : Int32)) X.1) (hin4 : vp_in (i + (4 : Int32)) X.1) (hin5 : vp_in (i + (5 : Int32)) X.1) {QL : Option Value → JMem → Prop} (k : ∀ s', INV2 s' → JT ML_law 421 mc ms 1740 [(4, .int i), (3, .ref 278), (2, .ref 248), (1, .ref 2), (0, .ref 0)] [] (std s') QL) : JT ML_law 421 (1 + mc) (6 + ms) 504 [(4, .int i), (3, .ref 278), (2, .ref 248), (1, .ref 2), (0, .ref 0)] [] (std s) QL := by
  have hXs : mS (std s) = X := hX s hs
  refine JT_aload_n (q := 3) dL_law_504 rfl rfl ?_
  refine JT_aload_n (q := 4) dL_law_505 rfl rfl ?_
  refine JT_iload (q := 0) dL_law_506 rfl ?_
  refine JT_iconst (v := 1) dL_law_508 (by decide) ?_
  refine JT_iadd dL_law_509 ?_
  refine JT_sld dL_law_510 (by rw [hXs]; exact hin1) ?_
  rw [hXs]
  refine JT_aload_n (q := 4) dL_law_511 rfl rfl ?_
  refine JT_iload (q := 0) dL_law_512 rfl ?_
  refine JT_iconst (v := 2) dL_law_514 (by decide) ?_
  refine JT_iadd dL_law_515 ?_
  refine JT_sld dL_law_516 (by rw [hXs]; exact hin2) ?_
  rw [hXs]
  refine JT_aload_n (q := 1) dL_law_517 rfl rfl ?_
  have hstep : ∀ (kk : Int32) (t : SM), INV t → (t = s ∨ ∃ x, t = pL s 278 0 x) → (vX11_deal s (X.2 (i + (1 : Int32)).toNatClampNeg) (X.2 (i + (2 : Int32)).toNatClampNeg) = none ∧ kk = 1 ∨ ∃ x, vX11_deal s (X.2 (i + (1 : Int32)).toNatClampNeg) (X.2 (i + (2 : Int32)).toNatClampNeg) = some x ∧ kk = 0 ∧ t = pL s 278 0 x.toInt64) → JT ML_law 421 mc ms 521 [(4, .int i), (3, .ref 278), (2, .ref 248), (1, .ref 2), (0, .ref 0)] [.int kk] (std t) QL := by
    intro kk t ht hts hkk
    have hXt : mS (std t) = X := hX t ht
    obtain ⟨hr1, hr2, hI, hL9, hth, hval⟩ := h s t (X.2 (i + (1 : Int32)).toNatClampNeg) (X.2 (i + (2 : Int32)).toNatClampNeg) hs ht hts
    refine JT_istore (lv' := [(5, .int kk), (4, .int i), (3, .ref 278), (2, .ref 248), (1, .ref 2), (0, .ref 0)]) dL_law_521 (Nat.le_of_ble_eq_true rfl) rfl ?_
    refine JT_aload_n (q := 3) dL_law_523 rfl rfl ?_
    refine JT_aload_n (q := 5) dL_law_524 rfl rfl ?_
    refine JT_iload (q := 1) dL_law_525 rfl ?_
    refine JT_iconst (v := 1) dL_law_527 (by decide) ?_
    refine JT_iadd dL_law_528 ?_
    refine JT_sld dL_law_529 (by rw [hXt]; exact hin1) ?_
    rw [hXt]
    refine JT_aload_n (q := 5) dL_law_530 rfl rfl ?_
    refine JT_iload (q := 1) dL_law_531 rfl ?_
    refine JT_iconst (v := 2) dL_law_533 (by decide) ?_
    refine JT_iadd dL_law_534 ?_
    refine JT_sld dL_law_535 (by rw [hXt]; exact hin2) ?_
    rw [hXt]
    refine JS_callVIm (M' := MX12_deal) (d' := 3) (As := [.int (X.2 (i + (1 : Int32)).toNatClampNeg), .int (X.2 (i + (2 : Int32)).toNatClampNeg)]) (rest := []) (P := fun z w => vX12_deal t (X.2 (i + (1 : Int32)).toNatClampNeg) (X.2 (i + (2 : Int32)).toNatClampNeg) = z ∧ mX12_deal t (X.2 (i + (1 : Int32)).toNatClampNeg) (X.2 (i + (2 : Int32)).toNatClampNeg) = w) dL_law_536 cvL_58 okX12_deal rfl (Nat.le_of_ble_eq_true rfl) BS_248 (Nat.le_of_ble_eq_true rfl) (Nat.le_of_ble_eq_true rfl) hci_12 (Nat.le_of_ble_eq_true rfl) (Nat.le_of_ble_eq_true rfl) (pX12_deal (X.2 (i + (1 : Int32)).toNatClampNeg) (X.2 (i + (2 : Int32)).toNatClampNeg) hr2 ⟨rfl, rfl⟩) (fun bb w hq => ?_)
    obtain ⟨e1, e2⟩ := hq
    refine JT_istore (lv' := [(6, .int bb), (5, .int kk), (4, .int i), (3, .ref 278), (2, .ref 248), (1, .ref 2), (0, .ref 0)]) dL_law_539 (Nat.le_of_ble_eq_true rfl) rfl ?_
    refine JT_aload_n (q := 4) dL_law_541 rfl rfl ?_
    refine JS_callVIm (M' := MX12_thrown) (d' := 0) (As := []) (rest := []) (P := fun z w2 => vX12_thrown w = z ∧ w = w2) dL_law_542 cvL_50 okX12_thrown rfl (Nat.le_of_ble_eq_true rfl) BS_248 (Nat.le_of_ble_eq_true rfl) (Nat.le_of_ble_eq_true rfl) hci_12 (Nat.le_of_ble_eq_true rfl) (Nat.le_of_ble_eq_true rfl) (pX12_thrown ⟨rfl, rfl⟩) (fun th w2 hq => ?_)
    obtain ⟨e3, e4⟩ := hq
    rw [← e4]
    refine JT_iload (q := 1) dL_law_545 rfl ?_
    have e5 : th = kk := by
      rw [← e3, ← e2, hth]
      rcases hkk with ⟨g1, g2⟩ | ⟨x, g1, g2, -⟩
      · rw [g1, g2]
      · rw [g1, g2]
    refine JT_icmp_eq (tgt := 552) dL_law_547 (by decide) (fun _ => ?_) (fun hne => absurd e5 hne)
    refine JT_iload (q := 1) dL_law_552 rfl ?_
    refine JT_if_ne (tgt := 569) dL_law_554 (by decide) (fun _ => ?_) (fun hk0 => ?_)
    · refine JT_goto (tgt := 1740) dL_law_569 (by decide) ?_
      refine JT_sub [2, 3, 4, 5, 6] (lv' := [(4, .int i), (3, .ref 278), (2, .ref 248), (1, .ref 2), (0, .ref 0)]) rfl ?_
      rw [← e2]
      exact k _ hI
    · obtain ⟨x, g1, g3⟩ : ∃ x, vX11_deal s (X.2 (i + (1 : Int32)).toNatClampNeg) (X.2 (i + (2 : Int32)).toNatClampNeg) = some x ∧ t = pL s 278 0 x.toInt64 := by
        rcases hkk with ⟨g1, g2⟩ | ⟨x, g1, g2, g3⟩
        · rw [hk0] at g2; exact absurd g2 (by decide)
        · exact ⟨x, g1, g3⟩
      refine JT_aload_n (q := 3) dL_law_557 rfl rfl ?_
      refine JT_iconst (v := 0) dL_law_558 (by decide) ?_
      refine JT_lald dL_law_559 BS_278 (Nat.le_of_ble_eq_true rfl) (Nat.le_of_ble_eq_true rfl) (by unfold vp_in; decide) ?_
      refine JT_iload (q := 0) dL_law_560 rfl ?_
      refine JT_i2l dL_law_562 ?_
      refine JT_lcmp dL_law_563 ?_
      have e6 : mL (std w) 278 ((0 : Int32)).toNatClampNeg = bb.toInt64 := by
        show gL w 278 0 = _
        rw [← e2, hL9, g3, gL_pL, if_pos ⟨rfl, rfl⟩, ← e1, hval x g1]
      refine JT_if_eq (tgt := 569) dL_law_564 (by decide) (fun _ => ?_) (fun hne => absurd (by rw [e6]; unfold lg_cmp; simp) hne)
      refine JT_goto (tgt := 1740) dL_law_569 (by decide) ?_
      refine JT_sub [2, 3, 4, 5, 6] (lv' := [(4, .int i), (3, .ref 278), (2, .ref 248), (1, .ref 2), (0, .ref 0)]) rfl ?_
      rw [← e2]
      exact k _ hI
  refine JT_callSW (mc1 := 1) (ms1 := 6) (mc := mc) (ms := ms) (d := 420) (M' := ML_deal) (As := [.ref 2, .int (X.2 (i + (1 : Int32)).toNatClampNeg), .int (X.2 (i + (2 : Int32)).toNatClampNeg), .ref 278]) (rest := []) dL_law_518 cvL9_56 (hh := [(0, 10, 13, 13)]) ⟨by decide, rfl, cwL_deal, by decide +kernel, ⟨by decide, by decide, by show (parseMethodDescriptor yL_deal.desc).map (fun d => d.parameters.length) = some 4; decide +kernel⟩, by decide⟩ rfl (Nat.le_of_ble_eq_true rfl) (Nat.le_of_ble_eq_true rfl) (JT_room (d2 := 20) (pL_deal (X.2 (i + (1 : Int32)).toNatClampNeg) (X.2 (i + (2 : Int32)).toNatClampNeg) (h s s (X.2 (i + (1 : Int32)).toNatClampNeg) (X.2 (i + (2 : Int32)).toNatClampNeg) hs hs (Or.inl rfl)).1) (Nat.le_of_ble_eq_true rfl) (Nat.le_refl _) (Nat.le_refl _)) (fun v m1 hq => ?_)
  rcases hq with ⟨x, g1, rfl, rfl⟩ | ⟨g1, rfl, rfl⟩
  · exact hstep 0 _ (hO s _ hs) (Or.inr ⟨_, rfl⟩) (Or.inr ⟨x, g1, rfl, rfl⟩)
  · exact hstep 1 s hs (Or.inl rfl) (Or.inl ⟨g1, rfl⟩)
