def NSE : String := "java/util/NoSuchElementException"
def NSEup : List String := ["java/lang/RuntimeException", "java/lang/Exception"]
theorem x_at0 : ∀ w ∈ vx_at0 RX11 178 NSE NSEup, w ∈ TS := by decide +kernel
theorem x_ot : ∀ w ∈ Cond.classLink RX11 176 NSE :: Cond.initialized NSE :: vx_at0 RX11 178 NSE NSEup, vx_ot w = true := by decide +kernel
theorem x_cl : Cond.classLink RX11 176 NSE ∈ TS := by decide +kernel
theorem x_in : Cond.initialized NSE ∈ TS := by decide +kernel
theorem x_cast : Cond.castable NSE NSE ∈ TS := by decide +kernel
theorem x_clL : Cond.classLink RL 13 NSE ∈ TS := by decide +kernel
theorem jM_kept {D : va_G} {a0 : Nat} {bw : Nat × Nat} {m : JMem} {U : State} {H H1 : Heap} {ws : va_W} (hM : jM D a0 bw m U H ws) (h : ∀ q : Nat, q < H.size → H1[q]? = H[q]?) : jM D a0 bw m U H1 ws := by
  obtain ⟨tys, h1, h2, h3⟩ := hM
  exact ⟨tys, h1, fun k q hk => (h2 k q hk).kept (h q.1 (h2 k q hk).lt), h3⟩
/-- what is so where NoSuchElementException has been thrown -/
def xXC (D : va_G) (a0 : Nat) (bw : Nat × Nat) (X : Nat × (Nat → Int32)) (ad0 : List Nat) (P : Option Int32 → SM → Prop) : String → State → State → Prop := fun E st t =>
  E = NSE ∧ ∃ (s1 : SM) (ws1 : va_W), P none s1 ∧ mS (std s1) = X ∧ jM D a0 bw (std s1) t t.heap ws1 ∧ ad0 <+: jad bw ws1 ∧ va_F (fun q : Nat => a0 ≤ q) st t
/-- the answer of one that may throw -/
def xQ (P : Option Int32 → SM → Prop) : Option Value → JMem → Prop := fun v m1 => ∃ x s1, v = some (.int x) ∧ m1 = std s1 ∧ P (some x) s1
theorem xMet (l : Launch) (hlf : l.stackTraces = false) {M : MT} {d : Nat} {as : List Value} {s0 : SM} {P : Option Int32 → SM → Prop} (hy : plainName M.2.1.cls = true) (hown1 : M.2.1.cls = M.1) (hMR : M.1 = RX11) (hlen : (lg_sl as).length ≤ M.2.2.2.1) (hC : KX M d as s0 P) (D : va_G) (a0 : Nat) (bw : Nat × Nat) (X : Nat × (Nat → Int32)) (ws : va_W) :
    vx_Met l M.2.1 (jW M :: TS) { frames := d + 8, cells := 1, slots := 6, locals := 64 * (d + 8) } (jPc D a0 bw X ws as (std s0)) (jQc D a0 bw X (jad bw ws) (xQ P)) (xXC D a0 bw X (jad bw ws) P) 1 6 (fun q : Nat => a0 ≤ q) := by
  refine vx_ofW (cc := M.2.2.1) (maxL := M.2.2.2.1) (ret := M.2.2.2.2) hy rfl ?_
  intro p e s mid args below meth c s₁ B hml hnt hv
  obtain ⟨rfl, hX, hRO, hM, hws⟩ := hv
  have hx := B.exec
  have hbz := B.bytes
  have hr := B.returns
  have hts := atoms_spec (ws := jW M :: TS) B.pre
  have hown : s.vm.findClass M.1 = some mid.cls := by rw [← hown1]; exact findClass_of_methodNamed B.named
  have hlocks := B.notSynchronized
  have hnm := (name_of_methodNamed B.named B.method).1
  have htab : ∀ hh, Cond.codeWith M.2.1 M.2.2.1 M.2.2.2.1 M.2.2.2.2 hh ∈ TS → c.exceptionTable.toList = tableOf hh := fun hh hm => vx_table B (hts _ (List.mem_cons_of_mem _ hm))
  have hl := lv_entry (as.map (jv (jad bw ws))) (n := M.2.2.2.1) (by rw [lg_len]; exact hlen)
  rw [lg_entry_eq]
  generalize (lg_sl (as.map (jv (jad bw ws))) ++ List.replicate (M.2.2.2.1 - (lg_sl (as.map (jv (jad bw ws)))).length) Slot.unset).toArray = ls at hl ⊢
  rw [lv_args_map] at hl
  refine hC p l e _ s mid _ below meth c s.heap [] 0 0 0 0 D a0 bw X (jad bw ws) ws ls _ ⟨hx, hbz, hml, hown, fun w hw => hts w (List.mem_cons_of_mem _ hw), hr, hlocks, hnm, htab⟩ hX hRO ⟨Nat.le_add_right _ _, by show 64 * d ≤ 64 * (d + 8); omega, by omega, by omega, by show 0 ≤ 1; omega, by show 0 ≤ 6; omega⟩ hM (List.prefix_refl _) va_S.rf hl (lv_args_wf _ _ hws) (fun v hv => by cases hv) ?_
  intro v m1 pc H locs cells slots ws1 ls1 cst hQ hE hX1 hc1 hs1 hM1 had hS hls
  rcases hQ with ⟨x, s1, rfl, rfl, hp⟩ | ⟨pc', s1, rfl, ht, rfl, hp⟩
  · obtain ⟨rfl, hdg, ty, hr0, hn⟩ := hE
    refine vx_ret (W.widen (k := 1) (n := 6) (by omega) (by omega) ?_)
    exact W.zret hx hbz (by rw [hr]; exact hr0) hn (fun t ht hW => ⟨_, std s1, ws1, rfl, Or.inr ⟨x, rfl⟩, ⟨x, s1, rfl, rfl, hp⟩, hX1, by rw [ht]; exact jMoved hW.alike hM1, had, hS.F ht⟩) hS.2.2 hdg
  · obtain ⟨rfl, rfl⟩ := hE
    obtain ⟨d0, d3, d4, d7⟩ := ht
    refine vx_throw0 (own := RX11) (cls := NSE) (names := NSEup) (A := fun q : Nat => a0 ≤ q) hx hbz hlf (by rw [← hMR]; exact hown) (by decide) (by decide) (hts _ (List.mem_cons_of_mem _ x_cl)) (hts _ (List.mem_cons_of_mem _ x_in)) (fun w hw => hts w (List.mem_cons_of_mem _ (x_at0 w hw))) x_ot hRO.2.2.2.2.2.2.1 hRO.2.2.2.2.2.2.2 hS (by rw [hls, hml]) d0 d3 d4 d7 (fun x hx => (hnt x hx).elim) (by show 2 + 3 < d + 8; omega) ?_ (by show cells + 1 ≤ 1; omega) (by show slots + 6 ≤ 6; omega) hlocks (fun t hal hz hk => ⟨rfl, s1, ws1, hp, hX1, jMoved hal (jM_kept hM1 hk), had, ?_⟩) hS.2.2 (by omega) (by omega)
    · show 0 + (13 * (2 + 1) + 42) ≤ 64 * (d + 8)
      omega
    · exact ⟨Nat.le_trans hS.1 hz, fun q h1 h2 => by rw [hk q (Nat.lt_of_lt_of_le h1 hS.1)]; exact hS.2.1 q h1 h2⟩
