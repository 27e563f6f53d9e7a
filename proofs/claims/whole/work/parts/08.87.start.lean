/-! THE CLAIM OUT OF ONE WALK OF THE LAW'S BODY. Your part is whole_start (and what it stands on); all else here is the same for every law, but numbers. -/
def R_law : String := "SkinLedgerLaw"
def lw_P (b : Addr) (xs : List Int32) (args : Array Value) (s : State) : Prop := args = #[.ref b] ∧ s.IntsAt b xs ∧ xs.length ≤ 3072 ∧ (Jvm.Cond.and given_1 narrow_1).before args s = true
def lw_Q (_ : Array Value) (s : State) (o : Outcome) (t : State) : Prop := o = .returned (some (.int 1)) ∧ Framed s o t [] 601024 7293034
def lw_Z (below : List Frame) (a : Array Value) (s : State) : State → Prop := fun t => ∃ o, t.status = .running ∧ Ended t below o ∧ lw_Q a s o t
/-- the law's own end, with 1 on the stack, nothing written that was there before, its room as the claim has it -/
theorem lw_ret {p : Program} {l : Launch} {e : Env} {s : State} {m : MethodId} {below : List Frame} {meth : Method} {c : Code} {b : Nat} (hx : p.tables.exec = Jvm.exec) (hb : c.code = code) (hr : meth.sig.returnType = ret) (hlocks : meth.locks = false) {pc : Nat} {H : Heap} {ls : Array Slot} (hdg : decode code pc = .ok (.ireturn, 1)) : W p l e room_1 s m #[Value.ref b] below meth c H [] 601024 7293034 (lw_Z below #[Value.ref b] s) (F0 m pc ls [.int 1]) := by
  intro T hT X
  obtain ⟨fs, hret, hrun, hended, hW, hframe⟩ := X.leave (v := some (.int 1)) (hlocks := hlocks) (fun h => by rw [hr] at h; cases h)
  have hmeth' : T.vm.method? m = some meth := X.method'
  refine ⟨T.setFrames fs, ?_, .returned (some (.int 1)), hrun, hended, rfl, ⟨_, rfl⟩, hW, hframe⟩
  jvm_step X.here [X.here.top, hx, hb, hdg, hmeth', hr, ret, narrow_b1]
  (try refine ⟨rfl, ?_⟩); (try refine ⟨rfl, ?_⟩)
  first | (intro acts; rw [hret _ acts rfl rfl rfl]) | rw [hret _ _ rfl rfl rfl]
  exact Steps.refl _
/-- what holds at the law's entry: the machine, the code, the tables' words (any of lw_tbl by 'hts w (by decide +kernel)'), the script of L ints xs at the cell b, what the Statement gives of the start (any of its parts by flat_of_before) -/
def lw_At (p : Program) (s : State) (m : MethodId) (meth : Method) (c : Code) (b L : Nat) (xs : Nat → Int32) : Prop :=
  p.tables.exec = Jvm.exec ∧ c.code = code ∧ meth.sig.returnType = ret ∧ c.maxLocals = 7 ∧ s.vm.findClass R_law = some m.cls ∧ (∀ w ∈ lw_tbl, w.before #[Value.ref b] s = true) ∧ va_X b L xs s s.heap ∧ b < s.heap.size ∧ meth.locks = false ∧ (Jvm.Cond.and given_1 narrow_1).before #[Value.ref b] s = true
def m00 (X : Nat × (Nat → Int32)) : JMem := (fun _ _ => 0, fun _ _ => 0, fun _ _ => none, 2, X)
def opsA : List OpT := (0, 0, 0, 0) :: (kX11_init_2o ++ ((0, 0, 0, 0) :: (kX12_init_248o ++ [(0, 0, 0, 0)])))
def opI (f : Nat → Nat → Int32) (o : OpT) : Nat → Nat → Int32 := if o.1 = 2 then rw1 f o.2.1 (upd (f o.2.1) o.2.2.1 (Int32.ofInt o.2.2.2)) else f
def opL (f : Nat → Nat → Int64) (o : OpT) : Nat → Nat → Int64 := if o.1 = 3 then rw1 f o.2.1 (vp_updL (f o.2.1) o.2.2.1 (Int64.ofInt o.2.2.2)) else f
def opR (a j : Nat) (f : Option Nat) (o : OpT) : Option Nat := if o.1 = 1 ∧ o.2.1 = a ∧ o.2.2.1 = j then some o.2.2.2.toNat else f
theorem opk_le (ops : List OpT) (h : ops.all (fun o => decide (o.1 ≤ 3)) = true) (m : JMem) : mI (List.foldl op1 m ops) = List.foldl opI (mI m) ops ∧ mL (List.foldl op1 m ops) = List.foldl opL (mL m) ops ∧ mS (List.foldl op1 m ops) = mS m ∧ ∀ a j, mR (List.foldl op1 m ops) a j = List.foldl (opR a j) (mR m a j) ops := by
  induction ops generalizing m with
  | nil => exact ⟨rfl, rfl, rfl, fun _ _ => rfl⟩
  | cons o t ih =>
    rw [List.all_cons, Bool.and_eq_true, decide_eq_true_eq] at h
    obtain ⟨k, c, i, v⟩ := o
    have h1 := ih h.2 (op1 m (k, c, i, v))
    simp only [List.foldl_cons]
    have hk : k = 0 ∨ k = 1 ∨ k = 2 ∨ k = 3 := by have := h.1; dsimp only at this; omega
    refine ⟨h1.1.trans ?_, h1.2.1.trans ?_, h1.2.2.1.trans ?_, fun a j => (h1.2.2.2 a j).trans ?_⟩
    · rcases hk with rfl | rfl | rfl | rfl <;> rfl
    · rcases hk with rfl | rfl | rfl | rfl <;> rfl
    · rcases hk with rfl | rfl | rfl | rfl <;> rfl
    · rcases hk with rfl | rfl | rfl | rfl
      · rfl
      · show List.foldl (opR a j) (mR (wR m c i v.toNat) a j) t = List.foldl (opR a j) (opR a j (mR m a j) (1, c, i, v)) t
        rw [mR_wR]
        unfold opR
        by_cases hc : a = c ∧ j = i
        · rw [if_pos hc, if_pos ⟨rfl, hc.1.symm, hc.2.symm⟩]
        · rw [if_neg hc, if_neg (fun h => hc ⟨h.2.1.symm, h.2.2.symm⟩)]
      · rfl
      · rfl
theorem opI_f (ops : List OpT) (f : Nat → Nat → Int32) : List.foldl opI f ops = List.foldl opI f (ops.filter (fun o => o.1 == 2)) := by
  induction ops generalizing f with
  | nil => rfl
  | cons o t ih =>
    rw [List.foldl_cons, List.filter_cons]
    by_cases h : o.1 = 2
    · rw [if_pos (by simp [h]), List.foldl_cons, ih]
    · rw [if_neg (by simp [h]), ← ih, opI, if_neg h]
theorem opL_f (ops : List OpT) (f : Nat → Nat → Int64) : List.foldl opL f ops = List.foldl opL f (ops.filter (fun o => o.1 == 3)) := by
  induction ops generalizing f with
  | nil => rfl
  | cons o t ih =>
    rw [List.foldl_cons, List.filter_cons]
    by_cases h : o.1 = 3
    · rw [if_pos (by simp [h]), List.foldl_cons, ih]
    · rw [if_neg (by simp [h]), ← ih, opL, if_neg h]
theorem opsA_k : opsA.all (fun o => decide (o.1 ≤ 3)) = true := by decide +kernel
theorem opsA_I : opsA.filter (fun o => o.1 == 2) = [(2, 5, 8, 1), (2, 12, 8, 1), (2, 167, 8, 1), (2, 193, 8, 1), (2, 248, 46, -1), (2, 248, 47, -1), (2, 250, 2, 1)] := by decide +kernel
theorem opsA_L : opsA.filter (fun o => o.1 == 3) = [(3, 254, 0, 1651467385), (3, 254, 1, 7039342), (3, 254, 2, 1802071652), (3, 254, 3, 28270047624193380), (3, 254, 4, 114767640814948), (3, 254, 5, 439721161573), (3, 254, 6, 457135713908), (3, 254, 7, 1818848869), (3, 254, 8, 6582132), (3, 254, 9, 1684365676), (3, 254, 10, 126943972911973), (3, 254, 11, 1935892850), (3, 254, 12, 109342978500980), (3, 254, 13, 1684365940), (3, 254, 14, 1919512167), (3, 254, 15, 1684628851), (3, 254, 16, 2036687218)] := by decide +kernel
theorem opsA_N : (opsA.map opN).sum = 277 := by decide +kernel
theorem opsA_R1 : opsA.all (fun o => o.1 != 1 || RFd (fun _ => none) o.2.1 o.2.2.1 == some o.2.2.2.toNat) = true := by decide +kernel
theorem opsA_R2 : (List.range 279).all (fun a => (List.range (RFL.getD a []).length).all (fun j => match RFd (fun _ => none) a j with | none => true | some v => opsA.any (fun o => o.1 == 1 && (o.2.1 == a && (o.2.2.1 == j && o.2.2.2.toNat == v))))) = true := by decide +kernel
theorem RFL_l : RFL.length = 279 := by decide +kernel
theorem fold_R (a j : Nat) (F : Option Nat) : ∀ (ops : List OpT) (_ : ∀ o ∈ ops, o.1 = 1 → o.2.1 = a → o.2.2.1 = j → F = some o.2.2.2.toNat) (f0 : Option Nat) (_ : f0 = F ∨ ∃ o ∈ ops, o.1 = 1 ∧ o.2.1 = a ∧ o.2.2.1 = j), List.foldl (opR a j) f0 ops = F := by
  intro ops
  induction ops with
  | nil => intro _ f0 hf; rcases hf with h | ⟨o, ho, -⟩
           · exact h
           · cases ho
  | cons o t ih =>
    intro h f0 hf
    rw [List.foldl_cons]
    apply ih (fun x hx => h x (List.mem_cons_of_mem _ hx))
    unfold opR
    by_cases hc : o.1 = 1 ∧ o.2.1 = a ∧ o.2.2.1 = j
    · rw [if_pos hc]
      exact Or.inl (h o List.mem_cons_self hc.1 hc.2.1 hc.2.2).symm
    · rw [if_neg hc]
      rcases hf with hf | ⟨x, hx, hx2⟩
      · exact Or.inl hf
      · rcases List.mem_cons.mp hx with rfl | hx
        · exact absurd hx2 hc
        · exact Or.inr ⟨x, hx, hx2⟩
theorem RF_row {a j v : Nat} (h : RF a j = some v) : a < 279 ∧ j < (RFL.getD a []).length := by
  unfold RF at h
  have hj : j < (RFL.getD a []).length := by
    rcases Nat.lt_or_ge j (RFL.getD a []).length with hj | hj
    · exact hj
    · rw [List.getD_eq_getElem?_getD, List.getElem?_eq_none hj] at h
      cases h
  refine ⟨?_, hj⟩
  rcases Nat.lt_or_ge a 279 with ha | ha
  · exact ha
  · rw [List.getD_eq_getElem?_getD, List.getElem?_eq_none (by rw [RFL_l]; exact ha)] at hj
    exact absurd hj (by simp)
theorem opsA_R (a j : Nat) : List.foldl (opR a j) none opsA = RFd (fun _ => none) a j := by
  refine fold_R a j _ opsA (fun o ho h1 h2 h3 => ?_) none ?_
  · have h := List.all_eq_true.mp opsA_R1 o ho
    rw [h1, h2, h3] at h
    simpa using h
  · rcases hF : RFd (fun _ => none) a j with _ | v
    · exact Or.inl rfl
    · right
      have hR : RF a j = some v := by
        unfold RFd at hF
        split at hF
        · cases hF
        · split at hF
          · cases hF
          · split at hF
            · cases hF
            · exact hF
      obtain ⟨ha, hj⟩ := RF_row hR
      have h5 := List.all_eq_true.mp (List.all_eq_true.mp opsA_R2 a (List.mem_range.mpr ha)) j (List.mem_range.mpr hj)
      rw [hF] at h5
      obtain ⟨o, ho, h6⟩ := List.any_eq_true.mp h5
      simp only [Bool.and_eq_true, beq_iff_eq] at h6
      exact ⟨o, ho, h6.1, h6.2.1, h6.2.2.1⟩
theorem m_std (X : Nat × (Nat → Int32)) : List.foldl op1 (m00 X) opsA = std (s00 X) := by
  obtain ⟨h1, h2, h3, h4⟩ := opk_le opsA opsA_k (m00 X)
  have hN : mN (List.foldl op1 (m00 X) opsA) = 279 := by rw [mN_fold, opsA_N]; rfl
  have hI : mI (List.foldl op1 (m00 X) opsA) = gI (s00 X) := by rw [h1, opI_f, opsA_I]; rfl
  have hL : mL (List.foldl op1 (m00 X) opsA) = gL (s00 X) := by rw [h2, opL_f, opsA_L]; rfl
  have hR : mR (List.foldl op1 (m00 X) opsA) = RFd (fun _ => none) := by
    funext a j
    rw [h4 a j]
    exact opsA_R a j
  generalize List.foldl op1 (m00 X) opsA = M at hN hI hL hR h3
  obtain ⟨a, b, c, d, e⟩ := M
  show (a, b, c, d, e) = (gI (s00 X), gL (s00 X), RFd (s00 X).2.2.1, 279, (s00 X).2.2.2)
  rw [show a = gI (s00 X) from hI, show b = gL (s00 X) from hL, show c = RFd (fun _ => none) from hR, show d = 279 from hN, show e = X from h3]
  rfl
set_option maxRecDepth 1000000 in
theorem law_pre {X : Nat × (Nat → Int32)} {INV : Nat → SM → Prop} (hX : ∀ n s, INV n s → s.2.2.2 = X) (hS : ∀ n, S_all (INV (n + 1)) (INV n)) (hM : ∀ n s, INV (n + 1) s → INV n s) (hL : X.1 ≤ 3072) (h0 : INV 512 (s00 X)) : JT ML_law 421 789 28801 0 [(0, .ref 0)] [] (m00 X) QLaw := by
  refine JT_new (mc := 788) (ms := 28781) (N := 20) dL_law_0 clL_8 (by show BS 2 = _; exact BS_2) ?_
  obtain ⟨m1, e1⟩ : ∃ z, z = wN (m00 X) := ⟨_, rfl⟩
  rw [show mN (m00 X) = 2 from rfl, ← e1]
  have hN1 : mN m1 = 3 := by rw [e1]; rfl
  refine JT_dup dL_law_3 rfl ?_
  refine JT_callI (d := 420) (mc1 := 245) (ms1 := 13131) (mc := 543) (ms := 15650) (As := []) (rest := [.ref 2]) dL_law_4 cvL_21 okX11_init rfl (Nat.le_of_ble_eq_true rfl) BS_2 (Nat.le_of_ble_eq_true rfl) (by rw [hN1]; decide) hci_11 rfl (Nat.le_of_ble_eq_true rfl) (JT_room (d2 := 3) (kX11_init_2 m1 hN1) (Nat.le_of_ble_eq_true rfl) (Nat.le_refl _) (Nat.le_refl _)) (fun v mz hq => ?_)
  obtain ⟨rfl, rfl⟩ := hq
  show JT _ _ _ _ _ _ [.ref 2] _ _
  obtain ⟨m2, e2⟩ : ∃ z, z = List.foldl op1 m1 kX11_init_2o := ⟨_, rfl⟩
  rw [← e2]
  have hN2 : mN m2 = 248 := by rw [e2, mN_fold, hN1]; rfl
  refine JT_astore_n (lv' := [(1, .ref 2), (0, .ref 0)]) dL_law_7 rfl (Nat.le_of_ble_eq_true rfl) rfl ?_
  refine JT_new (mc := 542) (ms := 15592) (N := 58) dL_law_8 clL_22 (by rw [hN2]; exact BS_248) ?_
  obtain ⟨m3, e3⟩ : ∃ z, z = wN m2 := ⟨_, rfl⟩
  rw [hN2, ← e3]
  have hN3 : mN m3 = 249 := by rw [e3, mN_wN, hN2]
  refine JT_dup dL_law_11 rfl ?_
  refine JT_callI (d := 420) (mc1 := 29) (ms1 := 12519) (mc := 513) (ms := 3073) (As := []) (rest := [.ref 248]) dL_law_12 cvL_24 okX12_init rfl (Nat.le_of_ble_eq_true rfl) BS_248 (Nat.le_of_ble_eq_true rfl) (by rw [hN3]; decide) hci_12 rfl (Nat.le_of_ble_eq_true rfl) (JT_room (d2 := 1) (kX12_init_248 m3 hN3) (Nat.le_of_ble_eq_true rfl) (Nat.le_refl _) (Nat.le_refl _)) (fun v mz hq => ?_)
  obtain ⟨rfl, rfl⟩ := hq
  show JT _ _ _ _ _ _ [.ref 248] _ _
  obtain ⟨m4, e4⟩ : ∃ z, z = List.foldl op1 m3 kX12_init_248o := ⟨_, rfl⟩
  rw [← e4]
  have hN4 : mN m4 = 278 := by rw [e4, mN_fold, hN3]; rfl
  refine JT_astore_n (lv' := [(2, .ref 248), (1, .ref 2), (0, .ref 0)]) dL_law_15 rfl (Nat.le_of_ble_eq_true rfl) rfl ?_
  refine JT_iconst (v := 1) dL_law_16 (by decide) ?_
  refine JT_newa_long (mc := 512) (ms := 3072) (N := 1) dL_law_17 aw_long (by rw [hN4]; exact BS_278) (by decide) (by decide) (by decide) ?_
  rw [hN4]
  refine JT_astore_n (lv' := [(3, .ref 278), (2, .ref 248), (1, .ref 2), (0, .ref 0)]) dL_law_19 rfl (Nat.le_of_ble_eq_true rfl) rfl ?_
  refine JT_iconst (v := 0) dL_law_20 (by decide) ?_
  refine JT_istore (lv' := [(4, .int 0), (3, .ref 278), (2, .ref 248), (1, .ref 2), (0, .ref 0)]) dL_law_21 (Nat.le_of_ble_eq_true rfl) rfl ?_
  have hm : wN m4 = std (s00 X) := by
    rw [← m_std, e4, e3, e2, e1]
    simp only [opsA, List.foldl_cons, List.foldl_append]
    rfl
  rw [hm]
  exact law_loop hX hS hM hL 512 (s00 X) 0 h0 (by decide) (by decide) (by show (X.1 : Int) - 5 - 0 ≤ 6 * 512; omega)
set_option maxRecDepth 1000000 in
theorem nocw : TS.all (fun w => match w with | .codeWith y _ _ _ _ => decide (y ≠ yL_law) | _ => true) = true := by decide +kernel
theorem whole_of {INV : Nat × (Nat → Int32) → Nat → SM → Prop} (hXI : ∀ X n s, INV X n s → s.2.2.2 = X) (hSI : ∀ X n, S_all (INV X (n + 1)) (INV X n)) (hMI : ∀ X n s, INV X (n + 1) s → INV X n s) (h0I : ∀ X, INV X 512 (s00 X)) {p : Program} {e : Env} {s : State} {m : MethodId} {below : List Frame} {meth : Method} {c : Code} (l : Launch) (hflags : l.flags = flags0) {b L : Nat} {xs : Nat → Int32} (hL : L ≤ 3072) (C0 : lw_At p s m meth c b L xs) : W p l e room_1 s m #[Value.ref b] below meth c s.heap [] 0 0 (lw_Z below #[Value.ref b] s) (entryFrame m ([Value.ref b] : List Value).toArray 7) := by
  obtain ⟨hx, hb, hr, hml, hown, hts, hX, hbl, hlocks, hgv⟩ := id C0
  have hnA : ∀ a : Nat, a < s.heap.size → ¬ (fun q : Nat => s.heap.size ≤ q) a := fun a h => Nat.not_le.mpr h
  have hf := flat_of_before _ hgv
  have hW1 : (Cond.arrayOf (.static "SkinLedger$Tape" "WORDS" "[J") .long).before #[Value.ref b] s = true := hf _ (by decide +kernel)
  have hW2 : (Cond.eq (.length (.static "SkinLedger$Tape" "WORDS" "[J")) (.int 17)).before #[Value.ref b] s = true := hf _ (by decide +kernel)
  obtain ⟨t, ht1, ht2⟩ := va_Tof (N := 17) (f := fun j => .long (WV j)) (A := fun q : Nat => s.heap.size ≤ q) (by decide) hW1 (va_eqt hW2) (fun j hj => by
    rcases (show j = 0 ∨ j = 1 ∨ j = 2 ∨ j = 3 ∨ j = 4 ∨ j = 5 ∨ j = 6 ∨ j = 7 ∨ j = 8 ∨ j = 9 ∨ j = 10 ∨ j = 11 ∨ j = 12 ∨ j = 13 ∨ j = 14 ∨ j = 15 ∨ j = 16 by omega) with rfl | rfl | rfl | rfl | rfl | rfl | rfl | rfl | rfl | rfl | rfl | rfl | rfl | rfl | rfl | rfl | rfl
    · exact va_eqtl (z := 1651467385) (hf (Cond.eq (.elem (.static "SkinLedger$Tape" "WORDS" "[J") (.int 0)) (.long 1651467385)) (by decide +kernel))
    · exact va_eqtl (z := 7039342) (hf (Cond.eq (.elem (.static "SkinLedger$Tape" "WORDS" "[J") (.int 1)) (.long 7039342)) (by decide +kernel))
    · exact va_eqtl (z := 1802071652) (hf (Cond.eq (.elem (.static "SkinLedger$Tape" "WORDS" "[J") (.int 2)) (.long 1802071652)) (by decide +kernel))
    · exact va_eqtl (z := 28270047624193380) (hf (Cond.eq (.elem (.static "SkinLedger$Tape" "WORDS" "[J") (.int 3)) (.long 28270047624193380)) (by decide +kernel))
    · exact va_eqtl (z := 114767640814948) (hf (Cond.eq (.elem (.static "SkinLedger$Tape" "WORDS" "[J") (.int 4)) (.long 114767640814948)) (by decide +kernel))
    · exact va_eqtl (z := 439721161573) (hf (Cond.eq (.elem (.static "SkinLedger$Tape" "WORDS" "[J") (.int 5)) (.long 439721161573)) (by decide +kernel))
    · exact va_eqtl (z := 457135713908) (hf (Cond.eq (.elem (.static "SkinLedger$Tape" "WORDS" "[J") (.int 6)) (.long 457135713908)) (by decide +kernel))
    · exact va_eqtl (z := 1818848869) (hf (Cond.eq (.elem (.static "SkinLedger$Tape" "WORDS" "[J") (.int 7)) (.long 1818848869)) (by decide +kernel))
    · exact va_eqtl (z := 6582132) (hf (Cond.eq (.elem (.static "SkinLedger$Tape" "WORDS" "[J") (.int 8)) (.long 6582132)) (by decide +kernel))
    · exact va_eqtl (z := 1684365676) (hf (Cond.eq (.elem (.static "SkinLedger$Tape" "WORDS" "[J") (.int 9)) (.long 1684365676)) (by decide +kernel))
    · exact va_eqtl (z := 126943972911973) (hf (Cond.eq (.elem (.static "SkinLedger$Tape" "WORDS" "[J") (.int 10)) (.long 126943972911973)) (by decide +kernel))
    · exact va_eqtl (z := 1935892850) (hf (Cond.eq (.elem (.static "SkinLedger$Tape" "WORDS" "[J") (.int 11)) (.long 1935892850)) (by decide +kernel))
    · exact va_eqtl (z := 109342978500980) (hf (Cond.eq (.elem (.static "SkinLedger$Tape" "WORDS" "[J") (.int 12)) (.long 109342978500980)) (by decide +kernel))
    · exact va_eqtl (z := 1684365940) (hf (Cond.eq (.elem (.static "SkinLedger$Tape" "WORDS" "[J") (.int 13)) (.long 1684365940)) (by decide +kernel))
    · exact va_eqtl (z := 1919512167) (hf (Cond.eq (.elem (.static "SkinLedger$Tape" "WORDS" "[J") (.int 14)) (.long 1919512167)) (by decide +kernel))
    · exact va_eqtl (z := 1684628851) (hf (Cond.eq (.elem (.static "SkinLedger$Tape" "WORDS" "[J") (.int 15)) (.long 1684628851)) (by decide +kernel))
    · exact va_eqtl (z := 2036687218) (hf (Cond.eq (.elem (.static "SkinLedger$Tape" "WORDS" "[J") (.int 16)) (.long 2036687218)) (by decide +kernel))
    ) hnA
  have hZ : va_Z "SkinLedger$Tape" "WORDS" "[J" (.ref t) (fun q : Nat => s.heap.size ≤ q) s s.heap := va_Zof (hts _ (by decide +kernel)) (hts _ (by decide +kernel)) ht1 hnA
  have hU : vx_Zq Bundle.tN "UNASSIGNED_STACK" Bundle.steD (fun q : Nat => s.heap.size ≤ q) s s.heap := vx_Zqof (hts _ (by decide +kernel)) (hts _ (by decide +kernel)) (hf _ (by decide +kernel)) hnA
  have hV : vx_Zq Bundle.tN "SUPPRESSED_SENTINEL" Bundle.listD (fun q : Nat => s.heap.size ≤ q) s s.heap := vx_Zqof (hts _ (by decide +kernel)) (hts _ (by decide +kernel)) (hf _ (by decide +kernel)) hnA
  obtain ⟨c0, i0, k0⟩ := u_known (C := RX0) (T := TX0) (N := 6) (n := 6) hts (by decide +kernel) (hts (.instantiable RX0 6) (by decide +kernel))
  obtain ⟨c1, i1, k1⟩ := u_known (C := RX1) (T := TX1) (N := 12) (n := 12) hts (by decide +kernel) (hts (.instantiable RX1 12) (by decide +kernel))
  obtain ⟨c2, i2, k2⟩ := u_known (C := RX2) (T := TX2) (N := 3) (n := 3) hts (by decide +kernel) (hts (.instantiable RX2 3) (by decide +kernel))
  obtain ⟨c3, i3, k3⟩ := u_known (C := RX3) (T := TX3) (N := 4) (n := 4) hts (by decide +kernel) (hts (.instantiable RX3 4) (by decide +kernel))
  obtain ⟨c4, i4, k4⟩ := u_known (C := RX4) (T := TX4) (N := 15) (n := 15) hts (by decide +kernel) (hts (.instantiable RX4 15) (by decide +kernel))
  obtain ⟨c5, i5, k5⟩ := u_known (C := RX5) (T := TX5) (N := 11) (n := 11) hts (by decide +kernel) (hts (.instantiable RX5 11) (by decide +kernel))
  obtain ⟨c6, i6, k6⟩ := u_known (C := RX6) (T := TX6) (N := 14) (n := 14) hts (by decide +kernel) (hts (.instantiable RX6 14) (by decide +kernel))
  obtain ⟨c7, i7, k7⟩ := u_known (C := RX7) (T := TX7) (N := 12) (n := 12) hts (by decide +kernel) (hts (.instantiable RX7 12) (by decide +kernel))
  obtain ⟨c8, i8, k8⟩ := u_known (C := RX8) (T := TX8) (N := 3) (n := 3) hts (by decide +kernel) (hts (.instantiable RX8 3) (by decide +kernel))
  obtain ⟨c9, i9, k9⟩ := u_known (C := RX9) (T := TX9) (N := 10) (n := 10) hts (by decide +kernel) (hts (.instantiable RX9 10) (by decide +kernel))
  obtain ⟨c10, i10, k10⟩ := u_known (C := RX10) (T := TX10) (N := 2) (n := 2) hts (by decide +kernel) (hts (.instantiable RX10 2) (by decide +kernel))
  obtain ⟨c11, i11, k11⟩ := u_known (C := RX11) (T := TX11) (N := 20) (n := 20) hts (by decide +kernel) (hts (.instantiable RX11 20) (by decide +kernel))
  obtain ⟨c12, i12, k12⟩ := u_known (C := RX12) (T := TX12) (N := 58) (n := 58) hts (by decide +kernel) (hts (.instantiable RX12 58) (by decide +kernel))
  obtain ⟨dC, dI, hKc⟩ : ∃ (dC : Nat → ClassId) (dI : Nat → Nat → Nat), ∀ (k : Nat) (q : vw_C), vwCl[k]? = some q → u_Kn s q.1 q.2.1 q.2.2 (dC k) (dI k) := by
    refine ⟨fun k => match k with | 0 => c0 | 1 => c1 | 2 => c2 | 3 => c3 | 4 => c4 | 5 => c5 | 6 => c6 | 7 => c7 | 8 => c8 | 9 => c9 | 10 => c10 | 11 => c11 | _ => c12, fun k => match k with | 0 => i0 | 1 => i1 | 2 => i2 | 3 => i3 | 4 => i4 | 5 => i5 | 6 => i6 | 7 => i7 | 8 => i8 | 9 => i9 | 10 => i10 | 11 => i11 | _ => i12, ?_⟩
    intro k q hq
    match k, hq with
    | 0, hq => cases hq; exact k0
    | 1, hq => cases hq; exact k1
    | 2, hq => cases hq; exact k2
    | 3, hq => cases hq; exact k3
    | 4, hq => cases hq; exact k4
    | 5, hq => cases hq; exact k5
    | 6, hq => cases hq; exact k6
    | 7, hq => cases hq; exact k7
    | 8, hq => cases hq; exact k8
    | 9, hq => cases hq; exact k9
    | 10, hq => cases hq; exact k10
    | 11, hq => cases hq; exact k11
    | 12, hq => cases hq; exact k12
    | k + 13, hq => simp [vwCl] at hq
  have hK : va_K (dC, dI) vwCl [] s := ⟨hKc, fun k q h => by simp at h⟩
  have hl := lv_entry ([.ref b]) (n := 7) (Nat.le_of_ble_eq_true rfl)
  rw [lg_entry_eq]
  generalize (lg_sl ([.ref b]) ++ List.replicate (7 - (lg_sl ([.ref b])).length) Slot.unset).toArray = ls at hl ⊢
  have hl : lv_has ls 7 [(0, .ref b)] := hl
  have hnt := nt_id hflags
  have J := law_pre (X := (L, xs)) (hXI _) (hSI _) (hMI _) hL (h0I _)
  have J2 := J p l e room_1 s m #[Value.ref b] below meth c s.heap [] 0 0 789 28801 (dC, dI) s.heap.size (b, t) (L, xs) [b, t] [] ls (lw_Z below #[Value.ref b] s) ⟨hx, hb, hml, hown, fun w hw => hts w (List.mem_filter.mp hw).1, hr, hlocks, fun h => absurd h (by decide), fun hh hm => ?_⟩ rfl ⟨hX, hbl, ht2, hZ, Nat.le_refl _, ⟨fun a9 i9 x9 h9 hm9 => ?_, fun C9 hC9 => ?_, fun w hw => va_Nw.of (XW_t w hw) (hts _ (XW_in w hw))⟩, hU, hV⟩ ⟨(Nat.le_of_ble_eq_true rfl), (Nat.le_of_ble_eq_true rfl), by omega, by omega, (Nat.le_of_ble_eq_true rfl), (Nat.le_of_ble_eq_true rfl)⟩ ⟨[], hK, fun k q h => by simp at h, ⟨fun i j p q h => by simp at h, fun k q h => by simp at h⟩, rfl, fun k q h => by simp at h, fun _ _ => ⟨rfl, rfl, rfl⟩⟩ (List.prefix_refl _) va_S.rf hl (fun q hq => by rcases List.mem_singleton.mp hq with rfl; exact Nat.zero_lt_succ 1) (fun v hv => by cases hv) ?_
  · rw [hnt] at J2
    exact J2
  · exact absurd (List.all_eq_true.mp nocw _ hm) (by simp)
  · exact va_Nw.of rfl (hts _ hm9)
  · exact va_AO.of (hts _ hC9)
  · rw [hnt]
    intro v m1 pc H locs cells slots ws1 ls1 cst hQ hE hX1 hc1 hs1 hM1 had hS hls
    obtain rfl : v = some (.int 1) := hQ
    obtain ⟨rfl, hdg, ty, hr0, hn⟩ := hE
    refine va_forget (fun q hq => hS.2.2 q hq) ?_
    refine W.widen (k := 601024) (n := 7293034) (by omega) (by omega) ?_
    exact lw_ret hx hb hr hlocks hdg
