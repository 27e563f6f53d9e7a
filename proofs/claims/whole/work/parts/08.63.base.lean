def BSL : List (Option FieldType × Nat) := [(some .int, 0), (some .long, 17), (none, 11), (none, 9), (some .int, 640), (none, 6), (some .long, 9), (some .int, 9), (some .int, 9), (some .long, 6), (some .int, 6), (some .int, 6), (none, 6), (some .long, 9), (some .int, 9), (some .int, 9), (some .long, 6), (some .int, 6), (some .int, 6), (none, 0), (some .int, 40), (some .int, 40), (some .int, 40), (some .int, 40), (some .int, 40), (none, 0), (some .int, 40), (some .int, 40), (some .int, 40), (some .int, 40), (some .int, 40), (none, 4), (some .int, 60), (some .int, 60), (some .int, 60), (some .int, 60), (some .int, 60), (some .int, 60), (some .int, 9), (some .int, 9), (some .int, 60), (some .int, 60), (some .int, 60), (none, 4), (some .int, 60), (some .int, 60), (some .int, 60), (some .int, 60), (some .int, 60), (some .int, 60), (some .int, 9), (some .int, 9), (some .int, 60), (some .int, 60), (some .int, 60), (none, 2), (some (.object "SkinLedger$Ledger"), 9), (none, 4), (some .int, 60), (some .int, 60), (some .int, 60), (some .int, 60), (some .int, 60), (some .int, 60), (some .int, 9), (some .int, 9), (some .int, 60), (some .int, 60), (some .int, 60), (none, 4), (some .int, 60), (some .int, 60), (some .int, 60), (some .int, 60), (some .int, 60), (some .int, 60), (some .int, 9), (some .int, 9), (some .int, 60), (some .int, 60), (some .int, 60), (none, 4), (some .int, 60), (some .int, 60), (some .int, 60), (some .int, 60), (some .int, 60), (some .int, 60), (some .int, 9), (some .int, 9), (some .int, 60), (some .int, 60), (some .int, 60), (none, 4), (some .int, 60), (some .int, 60), (some .int, 60), (some .int, 60), (some .int, 60), (some .int, 60), (some .int, 9), (some .int, 9), (some .int, 60), (some .int, 60), (some .int, 60), (none, 4), (some .int, 60), (some .int, 60), (some .int, 60), (some .int, 60), (some .int, 60), (some .int, 60), (some .int, 9), (some .int, 9), (some .int, 60), (some .int, 60), (some .int, 60), (none, 4), (some .int, 60), (some .int, 60), (some .int, 60), (some .int, 60), (some .int, 60), (some .int, 60), (some .int, 9), (some .int, 9), (some .int, 60), (some .int, 60), (some .int, 60), (none, 4), (some .int, 60), (some .int, 60), (some .int, 60), (some .int, 60), (some .int, 60), (some .int, 60), (some .int, 9), (some .int, 9), (some .int, 60), (some .int, 60), (some .int, 60), (none, 4), (some .int, 60), (some .int, 60), (some .int, 60), (some .int, 60), (some .int, 60), (some .int, 60), (some .int, 9), (some .int, 9), (some .int, 60), (some .int, 60), (some .int, 60), (none, 4), (some .int, 60), (some .int, 60), (some .int, 60), (some .int, 60), (some .int, 60), (some .int, 60), (some .int, 9), (some .int, 9), (some .int, 60), (some .int, 60), (some .int, 60), (some (.object "SkinLedger$Image"), 2), (none, 3), (none, 6), (some .long, 9), (some .int, 9), (some .int, 9), (some .long, 6), (some .int, 6), (some .int, 6), (none, 4), (some .int, 60), (some .int, 60), (some .int, 60), (some .int, 60), (some .int, 60), (some .int, 60), (some .int, 9), (some .int, 9), (some .int, 60), (some .int, 60), (some .int, 60), (none, 0), (some .int, 40), (some .int, 40), (some .int, 40), (some .int, 40), (some .int, 40), (none, 3), (none, 6), (some .long, 9), (some .int, 9), (some .int, 9), (some .long, 6), (some .int, 6), (some .int, 6), (none, 4), (some .int, 60), (some .int, 60), (some .int, 60), (some .int, 60), (some .int, 60), (some .int, 60), (some .int, 9), (some .int, 9), (some .int, 60), (some .int, 60), (some .int, 60), (none, 0), (some .int, 40), (some .int, 40), (some .int, 40), (some .int, 40), (some .int, 40), (none, 7), (some .int, 5), (some .int, 5), (some .int, 60), (some .int, 60), (some .int, 9), (some .int, 9), (none, 5), (some .int, 6), (some .int, 6), (some .int, 6), (some .int, 6), (some .int, 6), (some .int, 6), (some .int, 9), (none, 1), (some .int, 4), (some .int, 4), (some .int, 4), (some .int, 4), (some .int, 9), (some .int, 9), (none, 8), (some .int, 9), (some .int, 512), (some .int, 512), (none, 10), (some .int, 2640), (some .int, 5), (some .int, 5), (none, 12), (some .byte, 640), (some .int, 787), (some .int, 34), (some .int, 201), (some .long, 30), (some .long, 17), (some .int, 4416), (some .int, 5), (some .int, 5), (some .int, 5), (some .int, 552), (some .int, 512), (some .int, 9), (some .byte, 3600), (some .int, 5), (some .int, 18), (some .int, 18), (some .int, 6), (some .int, 6), (some .int, 6), (some .int, 9), (some .int, 4), (some .int, 4), (some .int, 4), (some .int, 9), (some .int, 9), (some .int, 1576), (some .long, 30), (some .boolean, 2), (some .long, 1)]
def BS (k : Nat) : Option FieldType × Nat := BSL.getD k (none, 99)
def CFT (ci : Nat) : Nat → FieldType := match ci with
  | 0 => tyX0
  | 1 => tyX1
  | 2 => tyX2
  | 3 => tyX3
  | 4 => tyX4
  | 5 => tyX5
  | 6 => tyX6
  | 7 => tyX7
  | 8 => tyX8
  | 9 => tyX9
  | 10 => tyX10
  | 11 => tyX11
  | _ => tyX12

abbrev JMem : Type := (Nat → Nat → Int32) × (Nat → Nat → Int64) × (Nat → Nat → Option Nat) × Nat × (Nat × (Nat → Int32))
def mI (m : JMem) : Nat → Nat → Int32 := m.1
def mL (m : JMem) : Nat → Nat → Int64 := m.2.1
def mR (m : JMem) : Nat → Nat → Option Nat := m.2.2.1
def mN (m : JMem) : Nat := m.2.2.2.1
def mS (m : JMem) : Nat × (Nat → Int32) := m.2.2.2.2
def aI (m : JMem) (c : Nat) (f : Nat → Int32) : JMem := (rw1 (mI m) c f, m.2)
def aL (m : JMem) (c : Nat) (f : Nat → Int64) : JMem := (m.1, rw1 (mL m) c f, m.2.2)
def aR (m : JMem) (c : Nat) (f : Nat → Option Nat) : JMem := (m.1, m.2.1, rw1 (mR m) c f, m.2.2.2)
def wI (m : JMem) (c i : Nat) (v : Int32) : JMem := aI m c (upd (mI m c) i v)
def wL (m : JMem) (c i : Nat) (v : Int64) : JMem := aL m c (vp_updL (mL m c) i v)
def wR (m : JMem) (c i : Nat) (v : Nat) : JMem := aR m c (va_up (mR m c) i (some v))
def wN (m : JMem) : JMem := (m.1, m.2.1, m.2.2.1, mN m + 1, m.2.2.2.2)
def jv (ad : List Nat) (v : Value) : Value := match v with
  | .ref k => (match ad[k]? with | some a => .ref a | none => .null)
  | v => v
def jw (ad : List Nat) (v : Value) : Prop := match v with
  | .ref k => k < ad.length
  | _ => True
def jr (ad : List Nat) (o : Option Nat) (r : Option Nat) : Prop := match o with
  | none => r = none
  | some k => ∃ a, ad[k]? = some a ∧ r = some a
def jad (bw : Nat × Nat) (ws : va_W) : List Nat := bw.1 :: bw.2 :: ws.map (fun q => q.1)
def jA (ad : List Nat) (m : JMem) (k : Nat) (ty : FieldType) (x : (Nat → Int32) ⊕ (Nat → Int64) ⊕ (Nat → UInt32) ⊕ (Nat → UInt64) ⊕ (Nat → Option Nat)) : Prop := match ty with
  | .int => x = .inl (mI m k)
  | .byte => x = .inl (mI m k)
  | .boolean => x = .inl (mI m k)
  | .long => x = .inr (.inl (mL m k))
  | .object _ => ∃ f, x = .inr (.inr (.inr (.inr f))) ∧ ∀ i, jr ad (mR m k i) (f i)
  | _ => False
def jf (ad : List Nat) (m : JMem) (k j : Nat) (ty : FieldType) (v : Value) : Prop := match ty with
  | .int => v = .int (mI m k j)
  | .boolean => v = .int (mI m k j)
  | .long => v = .long (mL m k j)
  | .object _ => ∃ r, v = va_rf r ∧ jr ad (mR m k j) r
  | .array _ => ∃ r, v = va_rf r ∧ jr ad (mR m k j) r
  | _ => False
def jEa (ad : List Nat) (m : JMem) (tys : List (ClassId × FieldType)) (k : Nat) (ty : FieldType) (n : Nat) (e : va_E) : Prop := ∃ (cA : ClassId) (x : (Nat → Int32) ⊕ (Nat → Int64) ⊕ (Nat → UInt32) ⊕ (Nat → UInt64) ⊕ (Nat → Option Nat)) (t0 : Nat), e = .inl (cA, n, x) ∧ tys[t0]? = some (cA, ty) ∧ jA ad m k ty x
def jEo (ad : List Nat) (m : JMem) (k : Nat) (ci : Nat) (e : va_E) : Prop := ∃ (fs : List Value) (r : vw_C), e = .inr (ci, fs) ∧ vwCl[ci]? = some r ∧ fs.length = r.2.2 ∧ ∀ j v, fs[j]? = some v → jf ad m k j (CFT ci j) v
def jE (ad : List Nat) (m : JMem) (tys : List (ClassId × FieldType)) (k : Nat) (e : va_E) : Prop := match (BS k).1 with
  | some ty => jEa ad m tys k ty (BS k).2 e
  | none => jEo ad m k (BS k).2 e
/-- the memory m lies in the heap -/
def jM (D : va_G) (a0 : Nat) (bw : Nat × Nat) (m : JMem) (U : State) (H : Heap) (ws : va_W) : Prop :=
  ∃ tys, va_K D vwCl tys U ∧ va_P D vwCl ws H ∧ va_D (fun q : Nat => a0 ≤ q) ws ∧ ws.length + 2 = mN m ∧ (∀ k q, ws[k]? = some q → jE (jad bw ws) m tys (k + 2) q.2) ∧ ∀ c, mN m ≤ c → mI m c = (fun _ => 0) ∧ mL m c = (fun _ => 0) ∧ mR m c = (fun _ => none)
/-- words that hold on, though they aren't 'good' ones -/
def XW : List Cond := [.castable "java/util/NoSuchElementException" "java/util/NoSuchElementException", .declares ⟨"java/lang/RuntimeException", "<init>", "()V"⟩, .declares ⟨"java/lang/Exception", "<init>", "()V"⟩, .declares ⟨"java/lang/Throwable", "<init>", "()V"⟩]
theorem XW_t : ∀ w ∈ XW, w.onTables = true := by decide +kernel
theorem XW_in : ∀ w ∈ XW, w ∈ lw_tbl := by decide +kernel
theorem XW_w {s U : State} (hW : s.WarmedH U.vm) (h : ∀ w ∈ XW, va_Nw w s) : ∀ w ∈ XW, va_Nw w U := by
  intro w hw
  have h1 := h w hw
  simp only [XW, List.mem_cons, List.not_mem_nil, or_false] at hw
  rcases hw with rfl | rfl | rfl | rfl
  · exact va_Nw.warmC hW h1
  · exact va_Nw.warmD hW h1
  · exact va_Nw.warmD hW h1
  · exact va_Nw.warmD hW h1
def jNW (U : State) : Prop := (∀ a i x h, Cond.methodLinkNest a i x h ∈ lw_tbl → va_Nw (.methodLinkNest a i x h) U) ∧ (∀ C, Cond.arrayOver (.object C) ∈ lw_tbl → va_AO C U) ∧ ∀ w ∈ XW, va_Nw w U
/-- two statics of Throwable, which a throw reads -/
def jZQ (a0 : Nat) (U : State) (H : Heap) : Prop := vx_Zq Bundle.tN "UNASSIGNED_STACK" Bundle.steD (fun q : Nat => a0 ≤ q) U H ∧ vx_Zq Bundle.tN "SUPPRESSED_SENTINEL" Bundle.listD (fun q : Nat => a0 ≤ q) U H
/-- what is only read: the script, the class's own row of words -/
def jRO (a0 : Nat) (bw : Nat × Nat) (X : Nat × (Nat → Int32)) (U : State) (H : Heap) : Prop :=
  va_X bw.1 X.1 X.2 U H ∧ bw.1 < a0 ∧ va_T .long bw.2 17 (fun j => .long (WV j)) (fun q : Nat => a0 ≤ q) U H ∧ va_Z "SkinLedger$Tape" "WORDS" "[J" (.ref bw.2) (fun q : Nat => a0 ≤ q) U H ∧ a0 ≤ H.size ∧ jNW U ∧ jZQ a0 U H
def TS : List Cond := lw_tbl.filter goodWord
theorem ts_mem {w : Cond} {i : Nat} (h : lw_tbl[i]? = some w) (g : goodWord w = true) : w ∈ TS := List.mem_filter.mpr ⟨List.mem_of_getElem? h, g⟩
theorem ts_good : GoodIn TS TS := fun w h => ⟨h, good_of_word (List.mem_filter.mp h).2⟩
/-- a method: its class, its name, its code, how many locals, what it answers -/
abbrev MT : Type := String × MethodName × ByteArray × Nat × Option FieldType
def jctx (M : MT) (p : Program) (s : State) (mid : MethodId) (meth : Method) (c : Code) (args : Array Value) : Prop :=
  p.tables.exec = Jvm.exec ∧ c.code = M.2.2.1 ∧ c.maxLocals = M.2.2.2.1 ∧ s.vm.findClass M.1 = some mid.cls ∧ (∀ w ∈ TS, w.before args s = true) ∧ meth.sig.returnType = M.2.2.2.2 ∧ meth.locks = false ∧ (M.2.1.name = "<init>" → meth.name = M.2.1.name) ∧ ∀ hh, Cond.codeWith M.2.1 M.2.2.1 M.2.2.2.1 M.2.2.2.2 hh ∈ TS → c.exceptionTable.toList = tableOf hh
def jRm (d mc ms : Nat) (R : Room) (cells slots MC MS : Nat) : Prop := d ≤ R.frames ∧ 64 * d ≤ R.locals ∧ cells + mc ≤ MC ∧ slots + ms ≤ MS ∧ MC ≤ R.cells ∧ MS ≤ R.slots
def jEv (M : MT) (v : Option Value) (pc : Nat) (cst : List Value) : Prop := match v with
  | none => cst = [] ∧ decode M.2.2.1 pc = .ok (.return_, 1) ∧ M.2.2.2.2 = none
  | some (.int x) => cst = [.int x] ∧ decode M.2.2.1 pc = .ok (.ireturn, 1) ∧ ∃ ty, M.2.2.2.2 = some ty ∧ narrow ty (.int x) = .int x
  | some (.retAddr q) => pc = q ∧ cst = []
  | _ => False
abbrev jlv (ad : List Nat) (lv : List (Nat × Value)) : List (Nat × Value) := lv.map (fun q => (q.1, jv ad q.2))
abbrev jwl (ad : List Nat) (lv : List (Nat × Value)) : Prop := ∀ q ∈ lv, jw ad q.2
abbrev jws (ad : List Nat) (st : List Value) : Prop := ∀ v ∈ st, jw ad v
def jEnd (M : MT) (p : Program) (l : Launch) (e : Env) (R : Room) (s : State) (mid : MethodId) (args : Array Value) (below : List Frame) (meth : Method) (c : Code) (MC MS : Nat) (D : va_G) (a0 : Nat) (bw : Nat × Nat) (X : Nat × (Nat → Int32)) (ad0 : List Nat) (Q : Option Value → JMem → Prop) (Qf : State → Prop) : Prop :=
  ∀ (v : Option Value) (m : JMem) (pc : Nat) (H : Heap) (locs : List Loc) (cells slots : Nat) (ws : va_W) (ls : Array Slot) (cst : List Value), Q v m → jEv M v pc cst → mS m = X → cells ≤ MC → slots ≤ MS → jM D a0 bw m s H ws → ad0 <+: jad bw ws → va_S (fun q : Nat => a0 ≤ q) s.heap H locs → ls.size = M.2.2.2.1 →
    W p l e R s mid args below meth c H locs cells slots Qf (F0 mid pc ls cst)
/-- the launch, with the flags of this claim -/
def nt (l : Launch) : Launch := { l with flags := flags0 }
theorem nt_id {l : Launch} (h : l.flags = flags0) : nt l = l := by cases l; simp only [nt] at *; rw [h]
theorem nt_st (l : Launch) : (nt l).stackTraces = false := by
  show Launch.stackTraces _ = false
  unfold Launch.stackTraces
  rw [show (nt l).flags = flags0 from rfl]; decide
/-- from pc on, with the locals lv and the stack st (cells by number), in the memory m, with d frames left, at most mc cells of ms slots made: the method ends with Q -/
def JT (M : MT) (d mc ms pc : Nat) (lv : List (Nat × Value)) (st : List Value) (m : JMem) (Q : Option Value → JMem → Prop) : Prop :=
  ∀ (p : Program) (l : Launch) (e : Env) (R : Room) (s : State) (mid : MethodId) (args : Array Value) (below : List Frame) (meth : Method) (c : Code) (H : Heap) (locs : List Loc) (cells slots MC MS : Nat) (D : va_G) (a0 : Nat) (bw : Nat × Nat) (X : Nat × (Nat → Int32)) (ad0 : List Nat) (ws : va_W) (ls : Array Slot) (Qf : State → Prop),
    jctx M p s mid meth c args → mS m = X → jRO a0 bw X s s.heap → jRm d mc ms R cells slots MC MS → jM D a0 bw m s H ws → ad0 <+: jad bw ws → va_S (fun q : Nat => a0 ≤ q) s.heap H locs → lv_has ls M.2.2.2.1 (jlv (jad bw ws) lv) → jwl (jad bw ws) lv → jws (jad bw ws) st →
    jEnd M p (nt l) e R s mid args below meth c MC MS D a0 bw X ad0 Q Qf →
    W p (nt l) e R s mid args below meth c H locs cells slots Qf (F0 mid pc ls (st.map (jv (jad bw ws))))
def nrm (v : Option Value) : Prop := match v with
  | some (.retAddr _) => False
  | _ => True
/-- a call of M -/
def JC (M : MT) (d mc ms : Nat) (as : List Value) (m : JMem) (Q : Option Value → JMem → Prop) : Prop := JT M d mc ms 0 (lv_args 0 as) [] m (fun v m1 => nrm v ∧ Q v m1)


theorem jws_c {ad : List Nat} {v : Value} {st : List Value} (h1 : jw ad v) (h : jws ad st) : jws ad (v :: st) := List.forall_mem_cons.mpr ⟨h1, h⟩
theorem jws_t {ad : List Nat} {v : Value} {st : List Value} (h : jws ad (v :: st)) : jws ad st := (List.forall_mem_cons.mp h).2
theorem jws_h {ad : List Nat} {v : Value} {st : List Value} (h : jws ad (v :: st)) : jw ad v := (List.forall_mem_cons.mp h).1
theorem jv_ref {ad : List Nat} {k : Nat} (h : k < ad.length) : ∃ a, ad[k]? = some a ∧ jv ad (.ref k) = .ref a := by
  refine ⟨ad[k], by simp [h], ?_⟩
  simp [jv, h]
theorem jv_cat (ad : List Nat) (v : Value) : (jv ad v).category = v.category := by
  cases v <;> simp only [jv]
  split <;> rfl
theorem jlv_get {ad : List Nat} {lv : List (Nat × Value)} {ls : Array Slot} {nL : Nat} (h : lv_has ls nL (jlv ad lv)) {k i : Nat} {v : Value} (hk : lv[k]? = some (i, v)) : ls[i]? = some (.val (jv ad v)) :=
  lv_at h k (by simp [jlv, hk])
theorem jlv_f (ad : List Nat) (lv : List (Nat × Value)) (i : Nat) : (jlv ad lv).filter (fun q => !(q.1 == i) && !(q.1 + 1 == i && q.2.category == 2)) = jlv ad (lv.filter (fun q => !(q.1 == i) && !(q.1 + 1 == i && q.2.category == 2))) := by
  simp only [jlv, List.filter_map, Function.comp_def, jv_cat]
theorem jwl_f {ad : List Nat} {lv : List (Nat × Value)} {i : Nat} {v : Value} (h : jwl ad lv) (hv : jw ad v) : jwl ad ((i, v) :: lv.filter (fun q => !(q.1 == i) && !(q.1 + 1 == i && q.2.category == 2))) :=
  List.forall_mem_cons.mpr ⟨hv, fun q hq => h q (List.mem_filter.mp hq).1⟩
theorem jlv_at {ad : List Nat} {lv : List (Nat × Value)} (h : jwl ad lv) {k i : Nat} {v : Value} (hk : lv[k]? = some (i, v)) : jw ad v := h _ (List.mem_of_getElem? hk)

theorem JT_iconst {M : MT} {d mc ms pc : Nat} {lv : List (Nat × Value)} {st : List Value} {m : JMem} {Q : Option Value → JMem → Prop} {n : Int} {v : Int32} (hd : decode M.2.2.1 pc = .ok (.iconst n, 1)) (hv : Int32.ofInt n = v) (k : JT M d mc ms (pc + 1) lv (.int v :: st) m Q) : JT M d mc ms pc lv (st) m Q := by
  intro p l e R s mid args below meth c H locs cells slots MC MS D a0 bw X ad0 ws ls Qf hc hX hRO hRm hM had hS hl hwl hws hend
  obtain ⟨hx, hb, hml, hown, hts, hr, hlk, hnm⟩ := id hc
  refine lv_iconst hx hb hd hv ?_
  exact k p l e R s mid args below meth c H locs cells slots MC MS D a0 bw X ad0 ws ls Qf hc hX hRO hRm hM had hS hl hwl (jws_c trivial hws) hend
theorem JT_bipush {M : MT} {d mc ms pc : Nat} {lv : List (Nat × Value)} {st : List Value} {m : JMem} {Q : Option Value → JMem → Prop} {n : Int} {v : Int32} (hd : decode M.2.2.1 pc = .ok (.bipush n, 2)) (hv : (Int8.ofInt n).toInt32 = v) (k : JT M d mc ms (pc + 2) lv (.int v :: st) m Q) : JT M d mc ms pc lv (st) m Q := by
  intro p l e R s mid args below meth c H locs cells slots MC MS D a0 bw X ad0 ws ls Qf hc hX hRO hRm hM had hS hl hwl hws hend
  obtain ⟨hx, hb, hml, hown, hts, hr, hlk, hnm⟩ := id hc
  refine lv_bipush hx hb hd hv ?_
  exact k p l e R s mid args below meth c H locs cells slots MC MS D a0 bw X ad0 ws ls Qf hc hX hRO hRm hM had hS hl hwl (jws_c trivial hws) hend
theorem JT_sipush {M : MT} {d mc ms pc : Nat} {lv : List (Nat × Value)} {st : List Value} {m : JMem} {Q : Option Value → JMem → Prop} {n : Int} {v : Int32} (hd : decode M.2.2.1 pc = .ok (.sipush n, 3)) (hv : (Int16.ofInt n).toInt32 = v) (k : JT M d mc ms (pc + 3) lv (.int v :: st) m Q) : JT M d mc ms pc lv (st) m Q := by
  intro p l e R s mid args below meth c H locs cells slots MC MS D a0 bw X ad0 ws ls Qf hc hX hRO hRm hM had hS hl hwl hws hend
  obtain ⟨hx, hb, hml, hown, hts, hr, hlk, hnm⟩ := id hc
  refine lv_sipush hx hb hd hv ?_
  exact k p l e R s mid args below meth c H locs cells slots MC MS D a0 bw X ad0 ws ls Qf hc hX hRO hRm hM had hS hl hwl (jws_c trivial hws) hend
theorem JT_lconst {M : MT} {d mc ms pc : Nat} {lv : List (Nat × Value)} {st : List Value} {m : JMem} {Q : Option Value → JMem → Prop} {n : Fin 2} {v : Int64} (hd : decode M.2.2.1 pc = .ok (.lconst n, 1)) (hv : Int64.ofNat (n : Nat) = v) (k : JT M d mc ms (pc + 1) lv (.long v :: st) m Q) : JT M d mc ms pc lv (st) m Q := by
  intro p l e R s mid args below meth c H locs cells slots MC MS D a0 bw X ad0 ws ls Qf hc hX hRO hRm hM had hS hl hwl hws hend
  obtain ⟨hx, hb, hml, hown, hts, hr, hlk, hnm⟩ := id hc
  refine lv_lconst hx hb hd hv ?_
  exact k p l e R s mid args below meth c H locs cells slots MC MS D a0 bw X ad0 ws ls Qf hc hX hRO hRm hM had hS hl hwl (jws_c trivial hws) hend
theorem JT_ldcw {M : MT} {d mc ms pc : Nat} {lv : List (Nat × Value)} {st : List Value} {m : JMem} {Q : Option Value → JMem → Prop} {i : Nat} {v : Int32} (hd : decode M.2.2.1 pc = .ok (.ldc_w i, 3)) (hw : Cond.constant M.1 i v ∈ TS) (k : JT M d mc ms (pc + 3) lv (.int v :: st) m Q) : JT M d mc ms pc lv (st) m Q := by
  intro p l e R s mid args below meth c H locs cells slots MC MS D a0 bw X ad0 ws ls Qf hc hX hRO hRm hM had hS hl hwl hws hend
  obtain ⟨hx, hb, hml, hown, hts, hr, hlk, hnm⟩ := id hc
  refine lv_ldcw hx hb hown (hts _ hw) hd ?_
  exact k p l e R s mid args below meth c H locs cells slots MC MS D a0 bw X ad0 ws ls Qf hc hX hRO hRm hM had hS hl hwl (jws_c trivial hws) hend
theorem JT_ldc2 {M : MT} {d mc ms pc : Nat} {lv : List (Nat × Value)} {st : List Value} {m : JMem} {Q : Option Value → JMem → Prop} {i : Nat} {v : Int64} (hd : decode M.2.2.1 pc = .ok (.ldc2_w i, 3)) (hw : Cond.constantLong M.1 i v ∈ TS) (k : JT M d mc ms (pc + 3) lv (.long v :: st) m Q) : JT M d mc ms pc lv (st) m Q := by
  intro p l e R s mid args below meth c H locs cells slots MC MS D a0 bw X ad0 ws ls Qf hc hX hRO hRm hM had hS hl hwl hws hend
  obtain ⟨hx, hb, hml, hown, hts, hr, hlk, hnm⟩ := id hc
  refine lv_ldc2 hx hb hown (hts _ hw) hd ?_
  exact k p l e R s mid args below meth c H locs cells slots MC MS D a0 bw X ad0 ws ls Qf hc hX hRO hRm hM had hS hl hwl (jws_c trivial hws) hend
theorem JT_iadd {M : MT} {d mc ms pc : Nat} {lv : List (Nat × Value)} {st : List Value} {m : JMem} {Q : Option Value → JMem → Prop} {x y : Int32} (hd : decode M.2.2.1 pc = .ok (.iadd, 1))  (k : JT M d mc ms (pc + 1) lv (.int (x + y) :: st) m Q) : JT M d mc ms pc lv (.int y :: .int x :: st) m Q := by
  intro p l e R s mid args below meth c H locs cells slots MC MS D a0 bw X ad0 ws ls Qf hc hX hRO hRm hM had hS hl hwl hws hend
  obtain ⟨hx, hb, hml, hown, hts, hr, hlk, hnm⟩ := id hc
  refine lv_iadd hx hb hd  ?_
  exact k p l e R s mid args below meth c H locs cells slots MC MS D a0 bw X ad0 ws ls Qf hc hX hRO hRm hM had hS hl hwl (jws_c trivial (jws_t (jws_t hws))) hend
theorem JT_isub {M : MT} {d mc ms pc : Nat} {lv : List (Nat × Value)} {st : List Value} {m : JMem} {Q : Option Value → JMem → Prop} {x y : Int32} (hd : decode M.2.2.1 pc = .ok (.isub, 1))  (k : JT M d mc ms (pc + 1) lv (.int (x - y) :: st) m Q) : JT M d mc ms pc lv (.int y :: .int x :: st) m Q := by
  intro p l e R s mid args below meth c H locs cells slots MC MS D a0 bw X ad0 ws ls Qf hc hX hRO hRm hM had hS hl hwl hws hend
  obtain ⟨hx, hb, hml, hown, hts, hr, hlk, hnm⟩ := id hc
  refine lv_isub hx hb hd  ?_
  exact k p l e R s mid args below meth c H locs cells slots MC MS D a0 bw X ad0 ws ls Qf hc hX hRO hRm hM had hS hl hwl (jws_c trivial (jws_t (jws_t hws))) hend
theorem JT_imul {M : MT} {d mc ms pc : Nat} {lv : List (Nat × Value)} {st : List Value} {m : JMem} {Q : Option Value → JMem → Prop} {x y : Int32} (hd : decode M.2.2.1 pc = .ok (.imul, 1))  (k : JT M d mc ms (pc + 1) lv (.int (x * y) :: st) m Q) : JT M d mc ms pc lv (.int y :: .int x :: st) m Q := by
  intro p l e R s mid args below meth c H locs cells slots MC MS D a0 bw X ad0 ws ls Qf hc hX hRO hRm hM had hS hl hwl hws hend
  obtain ⟨hx, hb, hml, hown, hts, hr, hlk, hnm⟩ := id hc
  refine lv_imul hx hb hd  ?_
  exact k p l e R s mid args below meth c H locs cells slots MC MS D a0 bw X ad0 ws ls Qf hc hX hRO hRm hM had hS hl hwl (jws_c trivial (jws_t (jws_t hws))) hend
theorem JT_iand {M : MT} {d mc ms pc : Nat} {lv : List (Nat × Value)} {st : List Value} {m : JMem} {Q : Option Value → JMem → Prop} {x y : Int32} (hd : decode M.2.2.1 pc = .ok (.iand, 1))  (k : JT M d mc ms (pc + 1) lv (.int (x &&& y) :: st) m Q) : JT M d mc ms pc lv (.int y :: .int x :: st) m Q := by
  intro p l e R s mid args below meth c H locs cells slots MC MS D a0 bw X ad0 ws ls Qf hc hX hRO hRm hM had hS hl hwl hws hend
  obtain ⟨hx, hb, hml, hown, hts, hr, hlk, hnm⟩ := id hc
  refine lv_iand hx hb hd  ?_
  exact k p l e R s mid args below meth c H locs cells slots MC MS D a0 bw X ad0 ws ls Qf hc hX hRO hRm hM had hS hl hwl (jws_c trivial (jws_t (jws_t hws))) hend
theorem JT_ior {M : MT} {d mc ms pc : Nat} {lv : List (Nat × Value)} {st : List Value} {m : JMem} {Q : Option Value → JMem → Prop} {x y : Int32} (hd : decode M.2.2.1 pc = .ok (.ior, 1))  (k : JT M d mc ms (pc + 1) lv (.int (x ||| y) :: st) m Q) : JT M d mc ms pc lv (.int y :: .int x :: st) m Q := by
  intro p l e R s mid args below meth c H locs cells slots MC MS D a0 bw X ad0 ws ls Qf hc hX hRO hRm hM had hS hl hwl hws hend
  obtain ⟨hx, hb, hml, hown, hts, hr, hlk, hnm⟩ := id hc
  refine lv_ior hx hb hd  ?_
  exact k p l e R s mid args below meth c H locs cells slots MC MS D a0 bw X ad0 ws ls Qf hc hX hRO hRm hM had hS hl hwl (jws_c trivial (jws_t (jws_t hws))) hend
theorem JT_ixor {M : MT} {d mc ms pc : Nat} {lv : List (Nat × Value)} {st : List Value} {m : JMem} {Q : Option Value → JMem → Prop} {x y : Int32} (hd : decode M.2.2.1 pc = .ok (.ixor, 1))  (k : JT M d mc ms (pc + 1) lv (.int (x ^^^ y) :: st) m Q) : JT M d mc ms pc lv (.int y :: .int x :: st) m Q := by
  intro p l e R s mid args below meth c H locs cells slots MC MS D a0 bw X ad0 ws ls Qf hc hX hRO hRm hM had hS hl hwl hws hend
  obtain ⟨hx, hb, hml, hown, hts, hr, hlk, hnm⟩ := id hc
  refine lv_ixor hx hb hd  ?_
  exact k p l e R s mid args below meth c H locs cells slots MC MS D a0 bw X ad0 ws ls Qf hc hX hRO hRm hM had hS hl hwl (jws_c trivial (jws_t (jws_t hws))) hend
theorem JT_ishl {M : MT} {d mc ms pc : Nat} {lv : List (Nat × Value)} {st : List Value} {m : JMem} {Q : Option Value → JMem → Prop} {x y : Int32} (hd : decode M.2.2.1 pc = .ok (.ishl, 1))  (k : JT M d mc ms (pc + 1) lv (.int (x <<< (y &&& 31)) :: st) m Q) : JT M d mc ms pc lv (.int y :: .int x :: st) m Q := by
  intro p l e R s mid args below meth c H locs cells slots MC MS D a0 bw X ad0 ws ls Qf hc hX hRO hRm hM had hS hl hwl hws hend
  obtain ⟨hx, hb, hml, hown, hts, hr, hlk, hnm⟩ := id hc
  refine lv_ishl hx hb hd  ?_
  exact k p l e R s mid args below meth c H locs cells slots MC MS D a0 bw X ad0 ws ls Qf hc hX hRO hRm hM had hS hl hwl (jws_c trivial (jws_t (jws_t hws))) hend
theorem JT_ishr {M : MT} {d mc ms pc : Nat} {lv : List (Nat × Value)} {st : List Value} {m : JMem} {Q : Option Value → JMem → Prop} {x y : Int32} (hd : decode M.2.2.1 pc = .ok (.ishr, 1))  (k : JT M d mc ms (pc + 1) lv (.int (x >>> (y &&& 31)) :: st) m Q) : JT M d mc ms pc lv (.int y :: .int x :: st) m Q := by
  intro p l e R s mid args below meth c H locs cells slots MC MS D a0 bw X ad0 ws ls Qf hc hX hRO hRm hM had hS hl hwl hws hend
  obtain ⟨hx, hb, hml, hown, hts, hr, hlk, hnm⟩ := id hc
  refine lv_ishr hx hb hd  ?_
  exact k p l e R s mid args below meth c H locs cells slots MC MS D a0 bw X ad0 ws ls Qf hc hX hRO hRm hM had hS hl hwl (jws_c trivial (jws_t (jws_t hws))) hend
theorem JT_idiv {M : MT} {d mc ms pc : Nat} {lv : List (Nat × Value)} {st : List Value} {m : JMem} {Q : Option Value → JMem → Prop} {x y : Int32} (hd : decode M.2.2.1 pc = .ok (.idiv, 1)) (hn : ¬ y = 0) (k : JT M d mc ms (pc + 1) lv (.int (x / y) :: st) m Q) : JT M d mc ms pc lv (.int y :: .int x :: st) m Q := by
  intro p l e R s mid args below meth c H locs cells slots MC MS D a0 bw X ad0 ws ls Qf hc hX hRO hRm hM had hS hl hwl hws hend
  obtain ⟨hx, hb, hml, hown, hts, hr, hlk, hnm⟩ := id hc
  refine lv_idiv hx hb hd hn ?_
  exact k p l e R s mid args below meth c H locs cells slots MC MS D a0 bw X ad0 ws ls Qf hc hX hRO hRm hM had hS hl hwl (jws_c trivial (jws_t (jws_t hws))) hend
theorem JT_irem {M : MT} {d mc ms pc : Nat} {lv : List (Nat × Value)} {st : List Value} {m : JMem} {Q : Option Value → JMem → Prop} {x y : Int32} (hd : decode M.2.2.1 pc = .ok (.irem, 1)) (hn : ¬ y = 0) (k : JT M d mc ms (pc + 1) lv (.int (x - x / y * y) :: st) m Q) : JT M d mc ms pc lv (.int y :: .int x :: st) m Q := by
  intro p l e R s mid args below meth c H locs cells slots MC MS D a0 bw X ad0 ws ls Qf hc hX hRO hRm hM had hS hl hwl hws hend
  obtain ⟨hx, hb, hml, hown, hts, hr, hlk, hnm⟩ := id hc
  refine lv_irem hx hb hd hn ?_
  exact k p l e R s mid args below meth c H locs cells slots MC MS D a0 bw X ad0 ws ls Qf hc hX hRO hRm hM had hS hl hwl (jws_c trivial (jws_t (jws_t hws))) hend
theorem JT_iushr {M : MT} {d mc ms pc : Nat} {lv : List (Nat × Value)} {st : List Value} {m : JMem} {Q : Option Value → JMem → Prop} {x y : Int32} (hd : decode M.2.2.1 pc = .ok (.iushr, 1))  (k : JT M d mc ms (pc + 1) lv (.int ((x.toUInt32 >>> (y.toUInt32 &&& Int32.toUInt32 31)).toInt32) :: st) m Q) : JT M d mc ms pc lv (.int y :: .int x :: st) m Q := by
  intro p l e R s mid args below meth c H locs cells slots MC MS D a0 bw X ad0 ws ls Qf hc hX hRO hRm hM had hS hl hwl hws hend
  obtain ⟨hx, hb, hml, hown, hts, hr, hlk, hnm⟩ := id hc
  refine lv_iushr hx hb hd rfl ?_
  exact k p l e R s mid args below meth c H locs cells slots MC MS D a0 bw X ad0 ws ls Qf hc hX hRO hRm hM had hS hl hwl (jws_c trivial (jws_t (jws_t hws))) hend
theorem JT_ineg {M : MT} {d mc ms pc : Nat} {lv : List (Nat × Value)} {st : List Value} {m : JMem} {Q : Option Value → JMem → Prop} {x : Int32} (hd : decode M.2.2.1 pc = .ok (.ineg, 1))  (k : JT M d mc ms (pc + 1) lv (.int (-x) :: st) m Q) : JT M d mc ms pc lv (.int x :: st) m Q := by
  intro p l e R s mid args below meth c H locs cells slots MC MS D a0 bw X ad0 ws ls Qf hc hX hRO hRm hM had hS hl hwl hws hend
  obtain ⟨hx, hb, hml, hown, hts, hr, hlk, hnm⟩ := id hc
  refine lv_ineg hx hb hd  ?_
  exact k p l e R s mid args below meth c H locs cells slots MC MS D a0 bw X ad0 ws ls Qf hc hX hRO hRm hM had hS hl hwl (jws_c trivial (jws_t hws)) hend
theorem JT_i2l {M : MT} {d mc ms pc : Nat} {lv : List (Nat × Value)} {st : List Value} {m : JMem} {Q : Option Value → JMem → Prop} {x : Int32} (hd : decode M.2.2.1 pc = .ok (.i2l, 1))  (k : JT M d mc ms (pc + 1) lv (.long x.toInt64 :: st) m Q) : JT M d mc ms pc lv (.int x :: st) m Q := by
  intro p l e R s mid args below meth c H locs cells slots MC MS D a0 bw X ad0 ws ls Qf hc hX hRO hRm hM had hS hl hwl hws hend
  obtain ⟨hx, hb, hml, hown, hts, hr, hlk, hnm⟩ := id hc
  refine lv_i2l hx hb hd rfl ?_
  exact k p l e R s mid args below meth c H locs cells slots MC MS D a0 bw X ad0 ws ls Qf hc hX hRO hRm hM had hS hl hwl (jws_c trivial (jws_t hws)) hend
theorem JT_l2i {M : MT} {d mc ms pc : Nat} {lv : List (Nat × Value)} {st : List Value} {m : JMem} {Q : Option Value → JMem → Prop} {x : Int64} (hd : decode M.2.2.1 pc = .ok (.l2i, 1))  (k : JT M d mc ms (pc + 1) lv (.int x.toInt32 :: st) m Q) : JT M d mc ms pc lv (.long x :: st) m Q := by
  intro p l e R s mid args below meth c H locs cells slots MC MS D a0 bw X ad0 ws ls Qf hc hX hRO hRm hM had hS hl hwl hws hend
  obtain ⟨hx, hb, hml, hown, hts, hr, hlk, hnm⟩ := id hc
  refine lv_l2i hx hb hd rfl ?_
  exact k p l e R s mid args below meth c H locs cells slots MC MS D a0 bw X ad0 ws ls Qf hc hX hRO hRm hM had hS hl hwl (jws_c trivial (jws_t hws)) hend
theorem JT_i2b {M : MT} {d mc ms pc : Nat} {lv : List (Nat × Value)} {st : List Value} {m : JMem} {Q : Option Value → JMem → Prop} {x : Int32} (hd : decode M.2.2.1 pc = .ok (.i2b, 1))  (k : JT M d mc ms (pc + 1) lv (.int x.toInt8.toInt32 :: st) m Q) : JT M d mc ms pc lv (.int x :: st) m Q := by
  intro p l e R s mid args below meth c H locs cells slots MC MS D a0 bw X ad0 ws ls Qf hc hX hRO hRm hM had hS hl hwl hws hend
  obtain ⟨hx, hb, hml, hown, hts, hr, hlk, hnm⟩ := id hc
  refine lv_i2b hx hb hd rfl ?_
  exact k p l e R s mid args below meth c H locs cells slots MC MS D a0 bw X ad0 ws ls Qf hc hX hRO hRm hM had hS hl hwl (jws_c trivial (jws_t hws)) hend
theorem JT_land {M : MT} {d mc ms pc : Nat} {lv : List (Nat × Value)} {st : List Value} {m : JMem} {Q : Option Value → JMem → Prop} {x y : Int64} (hd : decode M.2.2.1 pc = .ok (.land, 1))  (k : JT M d mc ms (pc + 1) lv (.long (x &&& y) :: st) m Q) : JT M d mc ms pc lv (.long y :: .long x :: st) m Q := by
  intro p l e R s mid args below meth c H locs cells slots MC MS D a0 bw X ad0 ws ls Qf hc hX hRO hRm hM had hS hl hwl hws hend
  obtain ⟨hx, hb, hml, hown, hts, hr, hlk, hnm⟩ := id hc
  refine lv_land hx hb hd  ?_
  exact k p l e R s mid args below meth c H locs cells slots MC MS D a0 bw X ad0 ws ls Qf hc hX hRO hRm hM had hS hl hwl (jws_c trivial (jws_t (jws_t hws))) hend
theorem JT_lor {M : MT} {d mc ms pc : Nat} {lv : List (Nat × Value)} {st : List Value} {m : JMem} {Q : Option Value → JMem → Prop} {x y : Int64} (hd : decode M.2.2.1 pc = .ok (.lor, 1))  (k : JT M d mc ms (pc + 1) lv (.long (x ||| y) :: st) m Q) : JT M d mc ms pc lv (.long y :: .long x :: st) m Q := by
  intro p l e R s mid args below meth c H locs cells slots MC MS D a0 bw X ad0 ws ls Qf hc hX hRO hRm hM had hS hl hwl hws hend
  obtain ⟨hx, hb, hml, hown, hts, hr, hlk, hnm⟩ := id hc
  refine lv_lor hx hb hd  ?_
  exact k p l e R s mid args below meth c H locs cells slots MC MS D a0 bw X ad0 ws ls Qf hc hX hRO hRm hM had hS hl hwl (jws_c trivial (jws_t (jws_t hws))) hend
theorem JT_lcmp {M : MT} {d mc ms pc : Nat} {lv : List (Nat × Value)} {st : List Value} {m : JMem} {Q : Option Value → JMem → Prop} {x y : Int64} (hd : decode M.2.2.1 pc = .ok (.lcmp, 1))  (k : JT M d mc ms (pc + 1) lv (.int (lg_cmp x y) :: st) m Q) : JT M d mc ms pc lv (.long y :: .long x :: st) m Q := by
  intro p l e R s mid args below meth c H locs cells slots MC MS D a0 bw X ad0 ws ls Qf hc hX hRO hRm hM had hS hl hwl hws hend
  obtain ⟨hx, hb, hml, hown, hts, hr, hlk, hnm⟩ := id hc
  refine W.lcmp hx hb hd  ?_
  exact k p l e R s mid args below meth c H locs cells slots MC MS D a0 bw X ad0 ws ls Qf hc hX hRO hRm hM had hS hl hwl (jws_c trivial (jws_t (jws_t hws))) hend
theorem JT_lshl {M : MT} {d mc ms pc : Nat} {lv : List (Nat × Value)} {st : List Value} {m : JMem} {Q : Option Value → JMem → Prop} {x : Int64} {y : Int32} (hd : decode M.2.2.1 pc = .ok (.lshl, 1))  (k : JT M d mc ms (pc + 1) lv (.long (x <<< (y.toInt64 &&& 63)) :: st) m Q) : JT M d mc ms pc lv (.int y :: .long x :: st) m Q := by
  intro p l e R s mid args below meth c H locs cells slots MC MS D a0 bw X ad0 ws ls Qf hc hX hRO hRm hM had hS hl hwl hws hend
  obtain ⟨hx, hb, hml, hown, hts, hr, hlk, hnm⟩ := id hc
  refine lv_lshl hx hb hd rfl ?_
  exact k p l e R s mid args below meth c H locs cells slots MC MS D a0 bw X ad0 ws ls Qf hc hX hRO hRm hM had hS hl hwl (jws_c trivial (jws_t (jws_t hws))) hend
theorem JT_lshr {M : MT} {d mc ms pc : Nat} {lv : List (Nat × Value)} {st : List Value} {m : JMem} {Q : Option Value → JMem → Prop} {x : Int64} {y : Int32} (hd : decode M.2.2.1 pc = .ok (.lshr, 1))  (k : JT M d mc ms (pc + 1) lv (.long (x >>> (y.toInt64 &&& 63)) :: st) m Q) : JT M d mc ms pc lv (.int y :: .long x :: st) m Q := by
  intro p l e R s mid args below meth c H locs cells slots MC MS D a0 bw X ad0 ws ls Qf hc hX hRO hRm hM had hS hl hwl hws hend
  obtain ⟨hx, hb, hml, hown, hts, hr, hlk, hnm⟩ := id hc
  refine lv_lshr hx hb hd rfl ?_
  exact k p l e R s mid args below meth c H locs cells slots MC MS D a0 bw X ad0 ws ls Qf hc hX hRO hRm hM had hS hl hwl (jws_c trivial (jws_t (jws_t hws))) hend
theorem JT_dup {M : MT} {d mc ms pc : Nat} {lv : List (Nat × Value)} {st : List Value} {m : JMem} {Q : Option Value → JMem → Prop} {v : Value} (hd : decode M.2.2.1 pc = .ok (.dup, 1)) (hv : v.category = 1) (k : JT M d mc ms (pc + 1) lv (v :: v :: st) m Q) : JT M d mc ms pc lv (v :: st) m Q := by
  intro p l e R s mid args below meth c H locs cells slots MC MS D a0 bw X ad0 ws ls Qf hc hX hRO hRm hM had hS hl hwl hws hend
  obtain ⟨hx, hb, hml, hown, hts, hr, hlk, hnm⟩ := id hc
  refine lv_dup hx hb hd ((jv_cat _ _).trans hv) ?_
  exact k p l e R s mid args below meth c H locs cells slots MC MS D a0 bw X ad0 ws ls Qf hc hX hRO hRm hM had hS hl hwl (jws_c (jws_h hws) hws) hend
theorem JT_pop {M : MT} {d mc ms pc : Nat} {lv : List (Nat × Value)} {st : List Value} {m : JMem} {Q : Option Value → JMem → Prop} {v : Value} (hd : decode M.2.2.1 pc = .ok (.pop, 1)) (hv : v.category = 1) (k : JT M d mc ms (pc + 1) lv st m Q) : JT M d mc ms pc lv (v :: st) m Q := by
  intro p l e R s mid args below meth c H locs cells slots MC MS D a0 bw X ad0 ws ls Qf hc hX hRO hRm hM had hS hl hwl hws hend
  obtain ⟨hx, hb, hml, hown, hts, hr, hlk, hnm⟩ := id hc
  refine lv_pop hx hb hd ((jv_cat _ _).trans hv) ?_
  exact k p l e R s mid args below meth c H locs cells slots MC MS D a0 bw X ad0 ws ls Qf hc hX hRO hRm hM had hS hl hwl (jws_t hws) hend
theorem JT_dup2 {M : MT} {d mc ms pc : Nat} {lv : List (Nat × Value)} {st : List Value} {m : JMem} {Q : Option Value → JMem → Prop} {v u : Value} (hd : decode M.2.2.1 pc = .ok (.dup2, 1)) (hv : v.category = 1) (hu : u.category = 1) (k : JT M d mc ms (pc + 1) lv (v :: u :: v :: u :: st) m Q) : JT M d mc ms pc lv (v :: u :: st) m Q := by
  intro p l e R s mid args below meth c H locs cells slots MC MS D a0 bw X ad0 ws ls Qf hc hX hRO hRm hM had hS hl hwl hws hend
  obtain ⟨hx, hb, hml, hown, hts, hr, hlk, hnm⟩ := id hc
  refine lv_dup2_11 hx hb hd ((jv_cat _ _).trans hv) ((jv_cat _ _).trans hu) ?_
  exact k p l e R s mid args below meth c H locs cells slots MC MS D a0 bw X ad0 ws ls Qf hc hX hRO hRm hM had hS hl hwl (jws_c (jws_h hws) (jws_c (jws_h (jws_t hws)) hws)) hend
theorem JT_dup2l {M : MT} {d mc ms pc : Nat} {lv : List (Nat × Value)} {st : List Value} {m : JMem} {Q : Option Value → JMem → Prop} {x : Int64} (hd : decode M.2.2.1 pc = .ok (.dup2, 1)) (k : JT M d mc ms (pc + 1) lv (.long x :: .long x :: st) m Q) : JT M d mc ms pc lv (.long x :: st) m Q := by
  intro p l e R s mid args below meth c H locs cells slots MC MS D a0 bw X ad0 ws ls Qf hc hX hRO hRm hM had hS hl hwl hws hend
  obtain ⟨hx, hb, hml, hown, hts, hr, hlk, hnm⟩ := id hc
  refine lv_dup2_2 hx hb hd rfl ?_
  exact k p l e R s mid args below meth c H locs cells slots MC MS D a0 bw X ad0 ws ls Qf hc hX hRO hRm hM had hS hl hwl (jws_c trivial hws) hend
theorem JT_iload_n {M : MT} {d mc ms pc : Nat} {lv : List (Nat × Value)} {st : List Value} {m : JMem} {Q : Option Value → JMem → Prop} {n : Fin 4} {i q : Nat} {x : Int32} (hd : decode M.2.2.1 pc = .ok (.iload_n n, 1)) (hi : (n : Nat) = i) (hq : lv[q]? = some (i, .int x)) (k : JT M d mc ms (pc + 1) lv (.int x :: st) m Q) : JT M d mc ms pc lv st m Q := by
  intro p l e R s mid args below meth c H locs cells slots MC MS D a0 bw X ad0 ws ls Qf hc hX hRO hRm hM had hS hl hwl hws hend
  obtain ⟨hx, hb, hml, hown, hts, hr, hlk, hnm⟩ := id hc
  refine lv_iload_n hx hb hd hi (jlv_get hl hq) ?_
  exact k p l e R s mid args below meth c H locs cells slots MC MS D a0 bw X ad0 ws ls Qf hc hX hRO hRm hM had hS hl hwl (jws_c trivial hws) hend
theorem JT_iload {M : MT} {d mc ms pc : Nat} {lv : List (Nat × Value)} {st : List Value} {m : JMem} {Q : Option Value → JMem → Prop} {i q : Nat} {x : Int32} (hd : decode M.2.2.1 pc = .ok (.iload i, 2)) (hq : lv[q]? = some (i, .int x)) (k : JT M d mc ms (pc + 2) lv (.int x :: st) m Q) : JT M d mc ms pc lv st m Q := by
  intro p l e R s mid args below meth c H locs cells slots MC MS D a0 bw X ad0 ws ls Qf hc hX hRO hRm hM had hS hl hwl hws hend
  obtain ⟨hx, hb, hml, hown, hts, hr, hlk, hnm⟩ := id hc
  refine lv_iload hx hb hd (jlv_get hl hq) ?_
  exact k p l e R s mid args below meth c H locs cells slots MC MS D a0 bw X ad0 ws ls Qf hc hX hRO hRm hM had hS hl hwl (jws_c trivial hws) hend
theorem JT_lload_n {M : MT} {d mc ms pc : Nat} {lv : List (Nat × Value)} {st : List Value} {m : JMem} {Q : Option Value → JMem → Prop} {n : Fin 4} {i q : Nat} {x : Int64} (hd : decode M.2.2.1 pc = .ok (.lload_n n, 1)) (hi : (n : Nat) = i) (hq : lv[q]? = some (i, .long x)) (k : JT M d mc ms (pc + 1) lv (.long x :: st) m Q) : JT M d mc ms pc lv st m Q := by
  intro p l e R s mid args below meth c H locs cells slots MC MS D a0 bw X ad0 ws ls Qf hc hX hRO hRm hM had hS hl hwl hws hend
  obtain ⟨hx, hb, hml, hown, hts, hr, hlk, hnm⟩ := id hc
  refine lv_lload_n hx hb hd hi (jlv_get hl hq) ?_
  exact k p l e R s mid args below meth c H locs cells slots MC MS D a0 bw X ad0 ws ls Qf hc hX hRO hRm hM had hS hl hwl (jws_c trivial hws) hend
theorem JT_lload {M : MT} {d mc ms pc : Nat} {lv : List (Nat × Value)} {st : List Value} {m : JMem} {Q : Option Value → JMem → Prop} {i q : Nat} {x : Int64} (hd : decode M.2.2.1 pc = .ok (.lload i, 2)) (hq : lv[q]? = some (i, .long x)) (k : JT M d mc ms (pc + 2) lv (.long x :: st) m Q) : JT M d mc ms pc lv st m Q := by
  intro p l e R s mid args below meth c H locs cells slots MC MS D a0 bw X ad0 ws ls Qf hc hX hRO hRm hM had hS hl hwl hws hend
  obtain ⟨hx, hb, hml, hown, hts, hr, hlk, hnm⟩ := id hc
  refine lv_lload hx hb hd (jlv_get hl hq) ?_
  exact k p l e R s mid args below meth c H locs cells slots MC MS D a0 bw X ad0 ws ls Qf hc hX hRO hRm hM had hS hl hwl (jws_c trivial hws) hend
theorem JT_aload_n {M : MT} {d mc ms pc : Nat} {lv : List (Nat × Value)} {st : List Value} {m : JMem} {Q : Option Value → JMem → Prop} {n : Fin 4} {i q x : Nat} (hd : decode M.2.2.1 pc = .ok (.aload_n n, 1)) (hi : (n : Nat) = i) (hq : lv[q]? = some (i, .ref x)) (k : JT M d mc ms (pc + 1) lv (.ref x :: st) m Q) : JT M d mc ms pc lv st m Q := by
  intro p l e R s mid args below meth c H locs cells slots MC MS D a0 bw X ad0 ws ls Qf hc hX hRO hRm hM had hS hl hwl hws hend
  obtain ⟨hx, hb, hml, hown, hts, hr, hlk, hnm⟩ := id hc
  have hwf := jlv_at hwl hq
  obtain ⟨a, ha1, ha2⟩ := jv_ref hwf
  have hg := jlv_get hl hq
  rw [ha2] at hg
  have hk := k p l e R s mid args below meth c H locs cells slots MC MS D a0 bw X ad0 ws ls Qf hc hX hRO hRm hM had hS hl hwl (jws_c hwf hws) hend
  rw [List.map_cons, ha2] at hk
  exact lv_aload_n hx hb hd hi hg hk
theorem JT_aload {M : MT} {d mc ms pc : Nat} {lv : List (Nat × Value)} {st : List Value} {m : JMem} {Q : Option Value → JMem → Prop} {i q x : Nat} (hd : decode M.2.2.1 pc = .ok (.aload i, 2)) (hq : lv[q]? = some (i, .ref x)) (k : JT M d mc ms (pc + 2) lv (.ref x :: st) m Q) : JT M d mc ms pc lv st m Q := by
  intro p l e R s mid args below meth c H locs cells slots MC MS D a0 bw X ad0 ws ls Qf hc hX hRO hRm hM had hS hl hwl hws hend
  obtain ⟨hx, hb, hml, hown, hts, hr, hlk, hnm⟩ := id hc
  have hwf := jlv_at hwl hq
  obtain ⟨a, ha1, ha2⟩ := jv_ref hwf
  have hg := jlv_get hl hq
  rw [ha2] at hg
  have hk := k p l e R s mid args below meth c H locs cells slots MC MS D a0 bw X ad0 ws ls Qf hc hX hRO hRm hM had hS hl hwl (jws_c hwf hws) hend
  rw [List.map_cons, ha2] at hk
  exact lv_aload hx hb hd hg hk
theorem JT_istore_n {M : MT} {d mc ms pc : Nat} {lv : List (Nat × Value)} {st : List Value} {m : JMem} {Q : Option Value → JMem → Prop} {n : Fin 4} {i : Nat} {x : Int32} {lv' : List (Nat × Value)} (hd : decode M.2.2.1 pc = .ok (.istore_n n, 1)) (hi : (n : Nat) = i) (hn : i < M.2.2.2.1) (hlv : (i, .int x) :: lv.filter (fun q => !(q.1 == i) && !(q.1 + 1 == i && q.2.category == 2)) = lv') (k : JT M d mc ms (pc + 1) lv' st m Q) : JT M d mc ms pc lv (.int x :: st) m Q := by
  intro p l e R s mid args below meth c H locs cells slots MC MS D a0 bw X ad0 ws ls Qf hc hX hRO hRm hM had hS hl hwl hws hend
  obtain ⟨hx, hb, hml, hown, hts, hr, hlk, hnm⟩ := id hc
  subst hlv
  refine lv_istore_n (lv' := jlv (jad bw ws) ((i, .int x) :: lv.filter (fun q => !(q.1 == i) && !(q.1 + 1 == i && q.2.category == 2)))) hx hb hd hi hl hn (by rw [jlv_f]; rfl) (fun ls' hl' => ?_)
  exact k p l e R s mid args below meth c H locs cells slots MC MS D a0 bw X ad0 ws ls' Qf hc hX hRO hRm hM had hS hl' (jwl_f hwl trivial) (jws_t hws) hend
theorem JT_istore {M : MT} {d mc ms pc : Nat} {lv : List (Nat × Value)} {st : List Value} {m : JMem} {Q : Option Value → JMem → Prop} {i : Nat} {x : Int32} {lv' : List (Nat × Value)} (hd : decode M.2.2.1 pc = .ok (.istore i, 2)) (hn : i < M.2.2.2.1) (hlv : (i, .int x) :: lv.filter (fun q => !(q.1 == i) && !(q.1 + 1 == i && q.2.category == 2)) = lv') (k : JT M d mc ms (pc + 2) lv' st m Q) : JT M d mc ms pc lv (.int x :: st) m Q := by
  intro p l e R s mid args below meth c H locs cells slots MC MS D a0 bw X ad0 ws ls Qf hc hX hRO hRm hM had hS hl hwl hws hend
  obtain ⟨hx, hb, hml, hown, hts, hr, hlk, hnm⟩ := id hc
  subst hlv
  refine lv_istore (lv' := jlv (jad bw ws) ((i, .int x) :: lv.filter (fun q => !(q.1 == i) && !(q.1 + 1 == i && q.2.category == 2)))) hx hb hd hl hn (by rw [jlv_f]; rfl) (fun ls' hl' => ?_)
  exact k p l e R s mid args below meth c H locs cells slots MC MS D a0 bw X ad0 ws ls' Qf hc hX hRO hRm hM had hS hl' (jwl_f hwl trivial) (jws_t hws) hend
theorem JT_astore_n {M : MT} {d mc ms pc : Nat} {lv : List (Nat × Value)} {st : List Value} {m : JMem} {Q : Option Value → JMem → Prop} {n : Fin 4} {i x : Nat} {lv' : List (Nat × Value)} (hd : decode M.2.2.1 pc = .ok (.astore_n n, 1)) (hi : (n : Nat) = i) (hn : i < M.2.2.2.1) (hlv : (i, .ref x) :: lv.filter (fun q => !(q.1 == i) && !(q.1 + 1 == i && q.2.category == 2)) = lv') (k : JT M d mc ms (pc + 1) lv' st m Q) : JT M d mc ms pc lv (.ref x :: st) m Q := by
  intro p l e R s mid args below meth c H locs cells slots MC MS D a0 bw X ad0 ws ls Qf hc hX hRO hRm hM had hS hl hwl hws hend
  obtain ⟨hx, hb, hml, hown, hts, hr, hlk, hnm⟩ := id hc
  subst hlv
  have hwf : x < (jad bw ws).length := jws_h hws
  obtain ⟨a, ha1, ha2⟩ := jv_ref hwf
  rw [List.map_cons, ha2]
  refine lv_astore_n (lv' := jlv (jad bw ws) ((i, .ref x) :: lv.filter (fun q => !(q.1 == i) && !(q.1 + 1 == i && q.2.category == 2)))) hx hb hd hi hl hn (by rw [jlv_f, jlv, jlv, List.map_cons]; simp only [ha2]) (fun ls' hl' => ?_)
  exact k p l e R s mid args below meth c H locs cells slots MC MS D a0 bw X ad0 ws ls' Qf hc hX hRO hRm hM had hS hl' (jwl_f hwl hwf) (jws_t hws) hend
theorem JT_astore {M : MT} {d mc ms pc : Nat} {lv : List (Nat × Value)} {st : List Value} {m : JMem} {Q : Option Value → JMem → Prop} {i x : Nat} {lv' : List (Nat × Value)} (hd : decode M.2.2.1 pc = .ok (.astore i, 2)) (hn : i < M.2.2.2.1) (hlv : (i, .ref x) :: lv.filter (fun q => !(q.1 == i) && !(q.1 + 1 == i && q.2.category == 2)) = lv') (k : JT M d mc ms (pc + 2) lv' st m Q) : JT M d mc ms pc lv (.ref x :: st) m Q := by
  intro p l e R s mid args below meth c H locs cells slots MC MS D a0 bw X ad0 ws ls Qf hc hX hRO hRm hM had hS hl hwl hws hend
  obtain ⟨hx, hb, hml, hown, hts, hr, hlk, hnm⟩ := id hc
  subst hlv
  have hwf : x < (jad bw ws).length := jws_h hws
  obtain ⟨a, ha1, ha2⟩ := jv_ref hwf
  rw [List.map_cons, ha2]
  refine lv_astore (lv' := jlv (jad bw ws) ((i, .ref x) :: lv.filter (fun q => !(q.1 == i) && !(q.1 + 1 == i && q.2.category == 2)))) hx hb hd hl hn (by rw [jlv_f, jlv, jlv, List.map_cons]; simp only [ha2]) (fun ls' hl' => ?_)
  exact k p l e R s mid args below meth c H locs cells slots MC MS D a0 bw X ad0 ws ls' Qf hc hX hRO hRm hM had hS hl' (jwl_f hwl hwf) (jws_t hws) hend
theorem JT_iinc {M : MT} {d mc ms pc : Nat} {lv : List (Nat × Value)} {st : List Value} {m : JMem} {Q : Option Value → JMem → Prop} {i q : Nat} {n : Int} {x v : Int32} {lv' : List (Nat × Value)} (hd : decode M.2.2.1 pc = .ok (.iinc i n, 3)) (hq : lv[q]? = some (i, .int x)) (hv : x + Int32.ofInt n = v) (hn : i < M.2.2.2.1) (hlv : (i, .int v) :: lv.filter (fun q => !(q.1 == i) && !(q.1 + 1 == i && q.2.category == 2)) = lv') (k : JT M d mc ms (pc + 3) lv' st m Q) : JT M d mc ms pc lv st m Q := by
  intro p l e R s mid args below meth c H locs cells slots MC MS D a0 bw X ad0 ws ls Qf hc hX hRO hRm hM had hS hl hwl hws hend
  obtain ⟨hx, hb, hml, hown, hts, hr, hlk, hnm⟩ := id hc
  subst hlv
  refine lv_iinc (k := q) (v := v) (lv' := jlv (jad bw ws) ((i, .int v) :: lv.filter (fun q => !(q.1 == i) && !(q.1 + 1 == i && q.2.category == 2)))) hx hb hd hl (by simp [jlv, hq, jv]) hv hn (by rw [jlv_f]; rfl) (fun ls' hl' => ?_)
  exact k p l e R s mid args below meth c H locs cells slots MC MS D a0 bw X ad0 ws ls' Qf hc hX hRO hRm hM had hS hl' (jwl_f hwl trivial) hws hend
theorem JT_sub {M : MT} {d mc ms pc : Nat} {lv : List (Nat × Value)} {st : List Value} {m : JMem} {Q : Option Value → JMem → Prop} {lv' : List (Nat × Value)} (ks : List Nat) (hlv : lv_pick lv ks = lv') (k : JT M d mc ms pc lv' st m Q) : JT M d mc ms pc lv st m Q := by
  intro p l e R s mid args below meth c H locs cells slots MC MS D a0 bw X ad0 ws ls Qf hc hX hRO hRm hM had hS hl hwl hws hend
  obtain ⟨hx, hb, hml, hown, hts, hr, hlk, hnm⟩ := id hc
  subst hlv
  refine k p l e R s mid args below meth c H locs cells slots MC MS D a0 bw X ad0 ws ls Qf hc hX hRO hRm hM had hS (lv_sub hl ks ?_) (fun q hq => ?_) hws hend
  · simp only [lv_pick, jlv, List.getElem?_map, List.map_filterMap]
  · obtain ⟨i, -, hi⟩ := List.mem_filterMap.mp hq
    exact hwl q (List.mem_of_getElem? hi)
theorem JT_if_eq {M : MT} {d mc ms pc : Nat} {lv : List (Nat × Value)} {st : List Value} {m : JMem} {Q : Option Value → JMem → Prop} {x : Int32} {off : Int} {tgt : Nat} (hd : decode M.2.2.1 pc = .ok (.ifCond .eq off, 3)) (ht : (pc : Int) + off = (tgt : Int)) (kt : x = 0 → JT M d mc ms tgt lv st m Q) (kf : ¬ x = 0 → JT M d mc ms (pc + 3) lv st m Q) : JT M d mc ms pc lv (.int x :: st) m Q := by
  intro p l e R s mid args below meth c H locs cells slots MC MS D a0 bw X ad0 ws ls Qf hc hX hRO hRm hM had hS hl hwl hws hend
  obtain ⟨hx, hb, hml, hown, hts, hr, hlk, hnm⟩ := id hc
  refine lv_if_eq hx hb hd ht (fun hh => ?_) (fun hh => ?_)
  · exact (kt hh) p l e R s mid args below meth c H locs cells slots MC MS D a0 bw X ad0 ws ls Qf hc hX hRO hRm hM had hS hl hwl (jws_t hws) hend
  · exact (kf hh) p l e R s mid args below meth c H locs cells slots MC MS D a0 bw X ad0 ws ls Qf hc hX hRO hRm hM had hS hl hwl (jws_t hws) hend
theorem JT_if_ne {M : MT} {d mc ms pc : Nat} {lv : List (Nat × Value)} {st : List Value} {m : JMem} {Q : Option Value → JMem → Prop} {x : Int32} {off : Int} {tgt : Nat} (hd : decode M.2.2.1 pc = .ok (.ifCond .ne off, 3)) (ht : (pc : Int) + off = (tgt : Int)) (kt : ¬ x = 0 → JT M d mc ms tgt lv st m Q) (kf : x = 0 → JT M d mc ms (pc + 3) lv st m Q) : JT M d mc ms pc lv (.int x :: st) m Q := by
  intro p l e R s mid args below meth c H locs cells slots MC MS D a0 bw X ad0 ws ls Qf hc hX hRO hRm hM had hS hl hwl hws hend
  obtain ⟨hx, hb, hml, hown, hts, hr, hlk, hnm⟩ := id hc
  refine lv_if_ne hx hb hd ht (fun hh => ?_) (fun hh => ?_)
  · exact (kt hh) p l e R s mid args below meth c H locs cells slots MC MS D a0 bw X ad0 ws ls Qf hc hX hRO hRm hM had hS hl hwl (jws_t hws) hend
  · exact (kf hh) p l e R s mid args below meth c H locs cells slots MC MS D a0 bw X ad0 ws ls Qf hc hX hRO hRm hM had hS hl hwl (jws_t hws) hend
theorem JT_if_lt {M : MT} {d mc ms pc : Nat} {lv : List (Nat × Value)} {st : List Value} {m : JMem} {Q : Option Value → JMem → Prop} {x : Int32} {off : Int} {tgt : Nat} (hd : decode M.2.2.1 pc = .ok (.ifCond .lt off, 3)) (ht : (pc : Int) + off = (tgt : Int)) (kt : x < 0 → JT M d mc ms tgt lv st m Q) (kf : ¬ x < 0 → JT M d mc ms (pc + 3) lv st m Q) : JT M d mc ms pc lv (.int x :: st) m Q := by
  intro p l e R s mid args below meth c H locs cells slots MC MS D a0 bw X ad0 ws ls Qf hc hX hRO hRm hM had hS hl hwl hws hend
  obtain ⟨hx, hb, hml, hown, hts, hr, hlk, hnm⟩ := id hc
  refine lv_if_lt hx hb hd ht (fun hh => ?_) (fun hh => ?_)
  · exact (kt hh) p l e R s mid args below meth c H locs cells slots MC MS D a0 bw X ad0 ws ls Qf hc hX hRO hRm hM had hS hl hwl (jws_t hws) hend
  · exact (kf hh) p l e R s mid args below meth c H locs cells slots MC MS D a0 bw X ad0 ws ls Qf hc hX hRO hRm hM had hS hl hwl (jws_t hws) hend
theorem JT_if_ge {M : MT} {d mc ms pc : Nat} {lv : List (Nat × Value)} {st : List Value} {m : JMem} {Q : Option Value → JMem → Prop} {x : Int32} {off : Int} {tgt : Nat} (hd : decode M.2.2.1 pc = .ok (.ifCond .ge off, 3)) (ht : (pc : Int) + off = (tgt : Int)) (kt : 0 ≤ x → JT M d mc ms tgt lv st m Q) (kf : ¬ 0 ≤ x → JT M d mc ms (pc + 3) lv st m Q) : JT M d mc ms pc lv (.int x :: st) m Q := by
  intro p l e R s mid args below meth c H locs cells slots MC MS D a0 bw X ad0 ws ls Qf hc hX hRO hRm hM had hS hl hwl hws hend
  obtain ⟨hx, hb, hml, hown, hts, hr, hlk, hnm⟩ := id hc
  refine lv_if_ge hx hb hd ht (fun hh => ?_) (fun hh => ?_)
  · exact (kt hh) p l e R s mid args below meth c H locs cells slots MC MS D a0 bw X ad0 ws ls Qf hc hX hRO hRm hM had hS hl hwl (jws_t hws) hend
  · exact (kf hh) p l e R s mid args below meth c H locs cells slots MC MS D a0 bw X ad0 ws ls Qf hc hX hRO hRm hM had hS hl hwl (jws_t hws) hend
theorem JT_if_gt {M : MT} {d mc ms pc : Nat} {lv : List (Nat × Value)} {st : List Value} {m : JMem} {Q : Option Value → JMem → Prop} {x : Int32} {off : Int} {tgt : Nat} (hd : decode M.2.2.1 pc = .ok (.ifCond .gt off, 3)) (ht : (pc : Int) + off = (tgt : Int)) (kt : 0 < x → JT M d mc ms tgt lv st m Q) (kf : ¬ 0 < x → JT M d mc ms (pc + 3) lv st m Q) : JT M d mc ms pc lv (.int x :: st) m Q := by
  intro p l e R s mid args below meth c H locs cells slots MC MS D a0 bw X ad0 ws ls Qf hc hX hRO hRm hM had hS hl hwl hws hend
  obtain ⟨hx, hb, hml, hown, hts, hr, hlk, hnm⟩ := id hc
  refine lv_if_gt hx hb hd ht (fun hh => ?_) (fun hh => ?_)
  · exact (kt hh) p l e R s mid args below meth c H locs cells slots MC MS D a0 bw X ad0 ws ls Qf hc hX hRO hRm hM had hS hl hwl (jws_t hws) hend
  · exact (kf hh) p l e R s mid args below meth c H locs cells slots MC MS D a0 bw X ad0 ws ls Qf hc hX hRO hRm hM had hS hl hwl (jws_t hws) hend
theorem JT_if_le {M : MT} {d mc ms pc : Nat} {lv : List (Nat × Value)} {st : List Value} {m : JMem} {Q : Option Value → JMem → Prop} {x : Int32} {off : Int} {tgt : Nat} (hd : decode M.2.2.1 pc = .ok (.ifCond .le off, 3)) (ht : (pc : Int) + off = (tgt : Int)) (kt : x ≤ 0 → JT M d mc ms tgt lv st m Q) (kf : ¬ x ≤ 0 → JT M d mc ms (pc + 3) lv st m Q) : JT M d mc ms pc lv (.int x :: st) m Q := by
  intro p l e R s mid args below meth c H locs cells slots MC MS D a0 bw X ad0 ws ls Qf hc hX hRO hRm hM had hS hl hwl hws hend
  obtain ⟨hx, hb, hml, hown, hts, hr, hlk, hnm⟩ := id hc
  refine lv_if_le hx hb hd ht (fun hh => ?_) (fun hh => ?_)
  · exact (kt hh) p l e R s mid args below meth c H locs cells slots MC MS D a0 bw X ad0 ws ls Qf hc hX hRO hRm hM had hS hl hwl (jws_t hws) hend
  · exact (kf hh) p l e R s mid args below meth c H locs cells slots MC MS D a0 bw X ad0 ws ls Qf hc hX hRO hRm hM had hS hl hwl (jws_t hws) hend
theorem JT_icmp_eq {M : MT} {d mc ms pc : Nat} {lv : List (Nat × Value)} {st : List Value} {m : JMem} {Q : Option Value → JMem → Prop} {x y : Int32} {off : Int} {tgt : Nat} (hd : decode M.2.2.1 pc = .ok (.if_icmp .eq off, 3)) (ht : (pc : Int) + off = (tgt : Int)) (kt : x = y → JT M d mc ms tgt lv st m Q) (kf : ¬ x = y → JT M d mc ms (pc + 3) lv st m Q) : JT M d mc ms pc lv (.int y :: .int x :: st) m Q := by
  intro p l e R s mid args below meth c H locs cells slots MC MS D a0 bw X ad0 ws ls Qf hc hX hRO hRm hM had hS hl hwl hws hend
  obtain ⟨hx, hb, hml, hown, hts, hr, hlk, hnm⟩ := id hc
  refine lv_icmp_eq hx hb hd ht (fun hh => ?_) (fun hh => ?_)
  · exact (kt hh) p l e R s mid args below meth c H locs cells slots MC MS D a0 bw X ad0 ws ls Qf hc hX hRO hRm hM had hS hl hwl (jws_t (jws_t hws)) hend
  · exact (kf hh) p l e R s mid args below meth c H locs cells slots MC MS D a0 bw X ad0 ws ls Qf hc hX hRO hRm hM had hS hl hwl (jws_t (jws_t hws)) hend
theorem JT_icmp_ne {M : MT} {d mc ms pc : Nat} {lv : List (Nat × Value)} {st : List Value} {m : JMem} {Q : Option Value → JMem → Prop} {x y : Int32} {off : Int} {tgt : Nat} (hd : decode M.2.2.1 pc = .ok (.if_icmp .ne off, 3)) (ht : (pc : Int) + off = (tgt : Int)) (kt : ¬ x = y → JT M d mc ms tgt lv st m Q) (kf : x = y → JT M d mc ms (pc + 3) lv st m Q) : JT M d mc ms pc lv (.int y :: .int x :: st) m Q := by
  intro p l e R s mid args below meth c H locs cells slots MC MS D a0 bw X ad0 ws ls Qf hc hX hRO hRm hM had hS hl hwl hws hend
  obtain ⟨hx, hb, hml, hown, hts, hr, hlk, hnm⟩ := id hc
  refine lv_icmp_ne hx hb hd ht (fun hh => ?_) (fun hh => ?_)
  · exact (kt hh) p l e R s mid args below meth c H locs cells slots MC MS D a0 bw X ad0 ws ls Qf hc hX hRO hRm hM had hS hl hwl (jws_t (jws_t hws)) hend
  · exact (kf hh) p l e R s mid args below meth c H locs cells slots MC MS D a0 bw X ad0 ws ls Qf hc hX hRO hRm hM had hS hl hwl (jws_t (jws_t hws)) hend
theorem JT_icmp_lt {M : MT} {d mc ms pc : Nat} {lv : List (Nat × Value)} {st : List Value} {m : JMem} {Q : Option Value → JMem → Prop} {x y : Int32} {off : Int} {tgt : Nat} (hd : decode M.2.2.1 pc = .ok (.if_icmp .lt off, 3)) (ht : (pc : Int) + off = (tgt : Int)) (kt : x < y → JT M d mc ms tgt lv st m Q) (kf : ¬ x < y → JT M d mc ms (pc + 3) lv st m Q) : JT M d mc ms pc lv (.int y :: .int x :: st) m Q := by
  intro p l e R s mid args below meth c H locs cells slots MC MS D a0 bw X ad0 ws ls Qf hc hX hRO hRm hM had hS hl hwl hws hend
  obtain ⟨hx, hb, hml, hown, hts, hr, hlk, hnm⟩ := id hc
  refine lv_icmp_lt hx hb hd ht (fun hh => ?_) (fun hh => ?_)
  · exact (kt hh) p l e R s mid args below meth c H locs cells slots MC MS D a0 bw X ad0 ws ls Qf hc hX hRO hRm hM had hS hl hwl (jws_t (jws_t hws)) hend
  · exact (kf hh) p l e R s mid args below meth c H locs cells slots MC MS D a0 bw X ad0 ws ls Qf hc hX hRO hRm hM had hS hl hwl (jws_t (jws_t hws)) hend
theorem JT_icmp_ge {M : MT} {d mc ms pc : Nat} {lv : List (Nat × Value)} {st : List Value} {m : JMem} {Q : Option Value → JMem → Prop} {x y : Int32} {off : Int} {tgt : Nat} (hd : decode M.2.2.1 pc = .ok (.if_icmp .ge off, 3)) (ht : (pc : Int) + off = (tgt : Int)) (kt : y ≤ x → JT M d mc ms tgt lv st m Q) (kf : ¬ y ≤ x → JT M d mc ms (pc + 3) lv st m Q) : JT M d mc ms pc lv (.int y :: .int x :: st) m Q := by
  intro p l e R s mid args below meth c H locs cells slots MC MS D a0 bw X ad0 ws ls Qf hc hX hRO hRm hM had hS hl hwl hws hend
  obtain ⟨hx, hb, hml, hown, hts, hr, hlk, hnm⟩ := id hc
  refine lv_icmp_ge hx hb hd ht (fun hh => ?_) (fun hh => ?_)
  · exact (kt hh) p l e R s mid args below meth c H locs cells slots MC MS D a0 bw X ad0 ws ls Qf hc hX hRO hRm hM had hS hl hwl (jws_t (jws_t hws)) hend
  · exact (kf hh) p l e R s mid args below meth c H locs cells slots MC MS D a0 bw X ad0 ws ls Qf hc hX hRO hRm hM had hS hl hwl (jws_t (jws_t hws)) hend
theorem JT_icmp_gt {M : MT} {d mc ms pc : Nat} {lv : List (Nat × Value)} {st : List Value} {m : JMem} {Q : Option Value → JMem → Prop} {x y : Int32} {off : Int} {tgt : Nat} (hd : decode M.2.2.1 pc = .ok (.if_icmp .gt off, 3)) (ht : (pc : Int) + off = (tgt : Int)) (kt : y < x → JT M d mc ms tgt lv st m Q) (kf : ¬ y < x → JT M d mc ms (pc + 3) lv st m Q) : JT M d mc ms pc lv (.int y :: .int x :: st) m Q := by
  intro p l e R s mid args below meth c H locs cells slots MC MS D a0 bw X ad0 ws ls Qf hc hX hRO hRm hM had hS hl hwl hws hend
  obtain ⟨hx, hb, hml, hown, hts, hr, hlk, hnm⟩ := id hc
  refine lv_icmp_gt hx hb hd ht (fun hh => ?_) (fun hh => ?_)
  · exact (kt hh) p l e R s mid args below meth c H locs cells slots MC MS D a0 bw X ad0 ws ls Qf hc hX hRO hRm hM had hS hl hwl (jws_t (jws_t hws)) hend
  · exact (kf hh) p l e R s mid args below meth c H locs cells slots MC MS D a0 bw X ad0 ws ls Qf hc hX hRO hRm hM had hS hl hwl (jws_t (jws_t hws)) hend
theorem JT_icmp_le {M : MT} {d mc ms pc : Nat} {lv : List (Nat × Value)} {st : List Value} {m : JMem} {Q : Option Value → JMem → Prop} {x y : Int32} {off : Int} {tgt : Nat} (hd : decode M.2.2.1 pc = .ok (.if_icmp .le off, 3)) (ht : (pc : Int) + off = (tgt : Int)) (kt : x ≤ y → JT M d mc ms tgt lv st m Q) (kf : ¬ x ≤ y → JT M d mc ms (pc + 3) lv st m Q) : JT M d mc ms pc lv (.int y :: .int x :: st) m Q := by
  intro p l e R s mid args below meth c H locs cells slots MC MS D a0 bw X ad0 ws ls Qf hc hX hRO hRm hM had hS hl hwl hws hend
  obtain ⟨hx, hb, hml, hown, hts, hr, hlk, hnm⟩ := id hc
  refine lv_icmp_le hx hb hd ht (fun hh => ?_) (fun hh => ?_)
  · exact (kt hh) p l e R s mid args below meth c H locs cells slots MC MS D a0 bw X ad0 ws ls Qf hc hX hRO hRm hM had hS hl hwl (jws_t (jws_t hws)) hend
  · exact (kf hh) p l e R s mid args below meth c H locs cells slots MC MS D a0 bw X ad0 ws ls Qf hc hX hRO hRm hM had hS hl hwl (jws_t (jws_t hws)) hend
theorem JT_goto {M : MT} {d mc ms pc : Nat} {lv : List (Nat × Value)} {st : List Value} {m : JMem} {Q : Option Value → JMem → Prop} {off : Int} {tgt : Nat} (hd : decode M.2.2.1 pc = .ok (.goto off, 3)) (ht : (pc : Int) + off = (tgt : Int)) (k : JT M d mc ms tgt lv st m Q) : JT M d mc ms pc lv st m Q := by
  intro p l e R s mid args below meth c H locs cells slots MC MS D a0 bw X ad0 ws ls Qf hc hX hRO hRm hM had hS hl hwl hws hend
  obtain ⟨hx, hb, hml, hown, hts, hr, hlk, hnm⟩ := id hc
  refine lv_goto hx hb hd ht ?_
  exact k p l e R s mid args below meth c H locs cells slots MC MS D a0 bw X ad0 ws ls Qf hc hX hRO hRm hM had hS hl hwl hws hend
theorem JT_tableIn {M : MT} {d mc ms pc : Nat} {lv : List (Nat × Value)} {st : List Value} {m : JMem} {Q : Option Value → JMem → Prop} {dflt lo hi : Int} {offs : Array Int} {len : Nat} {x : Int32} {off : Int} {tgt : Nat} (hd : decode M.2.2.1 pc = .ok (.tableswitch dflt lo hi offs, len)) (h1 : ¬ x.toInt < lo) (h2 : ¬ hi < x.toInt) (ho : offs[(x.toInt - lo).toNat]? = some off) (ht : (pc : Int) + off = (tgt : Int)) (k : JT M d mc ms tgt lv st m Q) : JT M d mc ms pc lv (.int x :: st) m Q := by
  intro p l e R s mid args below meth c H locs cells slots MC MS D a0 bw X ad0 ws ls Qf hc hX hRO hRm hM had hS hl hwl hws hend
  obtain ⟨hx, hb, hml, hown, hts, hr, hlk, hnm⟩ := id hc
  refine lv_tableIn hx hb hd h1 h2 ho ht ?_
  exact k p l e R s mid args below meth c H locs cells slots MC MS D a0 bw X ad0 ws ls Qf hc hX hRO hRm hM had hS hl hwl (jws_t hws) hend
theorem JT_tableOut {M : MT} {d mc ms pc : Nat} {lv : List (Nat × Value)} {st : List Value} {m : JMem} {Q : Option Value → JMem → Prop} {dflt lo hi : Int} {offs : Array Int} {len : Nat} {x : Int32} {tgt : Nat} (hd : decode M.2.2.1 pc = .ok (.tableswitch dflt lo hi offs, len)) (h : x.toInt < lo ∨ hi < x.toInt) (ht : (pc : Int) + dflt = (tgt : Int)) (k : JT M d mc ms tgt lv st m Q) : JT M d mc ms pc lv (.int x :: st) m Q := by
  intro p l e R s mid args below meth c H locs cells slots MC MS D a0 bw X ad0 ws ls Qf hc hX hRO hRm hM had hS hl hwl hws hend
  obtain ⟨hx, hb, hml, hown, hts, hr, hlk, hnm⟩ := id hc
  refine lv_tableOut hx hb hd h ht ?_
  exact k p l e R s mid args below meth c H locs cells slots MC MS D a0 bw X ad0 ws ls Qf hc hX hRO hRm hM had hS hl hwl (jws_t hws) hend
theorem JT_lookup {M : MT} {d mc ms pc : Nat} {lv : List (Nat × Value)} {st : List Value} {m : JMem} {Q : Option Value → JMem → Prop} {dflt : Int} {ps : Array (Int × Int)} {len : Nat} {x : Int32} {off : Int} {tgt : Nat} (hd : decode M.2.2.1 pc = .ok (.lookupswitch dflt ps, len)) (hp : (ps.toList.zip (ps.toList.drop 1)).all (fun (a, next) => a.1 < next.1) = true) (ho : Op.lookupswitch.offset ps.toList dflt x.toInt = off) (ht : (pc : Int) + off = (tgt : Int)) (k : JT M d mc ms tgt lv st m Q) : JT M d mc ms pc lv (.int x :: st) m Q := by
  intro p l e R s mid args below meth c H locs cells slots MC MS D a0 bw X ad0 ws ls Qf hc hX hRO hRm hM had hS hl hwl hws hend
  obtain ⟨hx, hb, hml, hown, hts, hr, hlk, hnm⟩ := id hc
  refine lv_lookup hx hb hd hp ho ht ?_
  exact k p l e R s mid args below meth c H locs cells slots MC MS D a0 bw X ad0 ws ls Qf hc hX hRO hRm hM had hS hl hwl (jws_t hws) hend
theorem JT_end {M : MT} {d mc ms pc : Nat} {lv : List (Nat × Value)} {st : List Value} {m : JMem} {Q : Option Value → JMem → Prop} {v : Option Value} (hv : ∀ ad : List Nat, jEv M v pc (st.map (jv ad))) (k : Q v m) : JT M d mc ms pc lv st m Q := by
  intro p l e R s mid args below meth c H locs cells slots MC MS D a0 bw X ad0 ws ls Qf hc hX hRO hRm hM had hS hl hwl hws hend
  obtain ⟨hx, hb, hml, hown, hts, hr, hlk, hnm⟩ := id hc
  obtain ⟨-, -, h1, h2, -, -⟩ := hRm
  exact hend v m pc H locs cells slots ws ls _ k (hv _) hX (by omega) (by omega) hM had hS hl.1
theorem JT_iret {M : MT} {d mc ms pc : Nat} {lv : List (Nat × Value)} {st : List Value} {m : JMem} {Q : Option Value → JMem → Prop} {x : Int32} {ty : FieldType} (hd : decode M.2.2.1 pc = .ok (.ireturn, 1)) (hr : M.2.2.2.2 = some ty) (hn : narrow ty (.int x) = .int x) (k : Q (some (.int x)) m) : JT M d mc ms pc lv [.int x] m Q := JT_end (v := some (.int x)) (fun ad => ⟨rfl, hd, ty, hr, hn⟩) k
theorem JT_vret {M : MT} {d mc ms pc : Nat} {lv : List (Nat × Value)} {st : List Value} {m : JMem} {Q : Option Value → JMem → Prop} (hd : decode M.2.2.1 pc = .ok (.return_, 1)) (hr : M.2.2.2.2 = none) (k : Q none m) : JT M d mc ms pc lv [] m Q := JT_end (v := none) (fun ad => ⟨rfl, hd, hr⟩) k
theorem JT_stop {M : MT} {d mc ms pc : Nat} {lv : List (Nat × Value)} {m : JMem} {Q : Option Value → JMem → Prop} (k : Q (some (.retAddr pc)) m) : JT M d mc ms pc lv [] m Q := JT_end (v := some (.retAddr pc)) (st := []) (fun ad => ⟨rfl, rfl⟩) k
theorem JT_mono {M : MT} {d mc ms pc : Nat} {lv : List (Nat × Value)} {st : List Value} {m : JMem} {Q : Option Value → JMem → Prop} {Q2 : Option Value → JMem → Prop} (k : JT M d mc ms pc lv st m Q) (h : ∀ v m1, Q v m1 → Q2 v m1) : JT M d mc ms pc lv st m Q2 := by
  intro p l e R s mid args below meth c H locs cells slots MC MS D a0 bw X ad0 ws ls Qf hc hX hRO hRm hM had hS hl hwl hws hend
  obtain ⟨hx, hb, hml, hown, hts, hr, hlk, hnm⟩ := id hc
  exact k p l e R s mid args below meth c H locs cells slots MC MS D a0 bw X ad0 ws ls Qf hc hX hRO hRm hM had hS hl hwl hws (fun v m1 pc1 H1 locs1 c1 s1 ws1 ls1 cst1 hq => hend v m1 pc1 H1 locs1 c1 s1 ws1 ls1 cst1 (h v m1 hq))
theorem JT_room {M : MT} {d mc ms pc : Nat} {lv : List (Nat × Value)} {st : List Value} {m : JMem} {Q : Option Value → JMem → Prop} {d2 mc2 ms2 : Nat} (k : JT M d2 mc2 ms2 pc lv st m Q) (h1 : d2 ≤ d) (h2 : mc2 ≤ mc) (h3 : ms2 ≤ ms) : JT M d mc ms pc lv st m Q := by
  intro p l e R s mid args below meth c H locs cells slots MC MS D a0 bw X ad0 ws ls Qf hc hX hRO hRm hM had hS hl hwl hws hend
  obtain ⟨hx, hb, hml, hown, hts, hr, hlk, hnm⟩ := id hc
  obtain ⟨g1, g2, g3, g4, g5, g6⟩ := hRm
  exact k p l e R s mid args below meth c H locs cells slots MC MS D a0 bw X ad0 ws ls Qf hc hX hRO ⟨by omega, by omega, by omega, by omega, g5, g6⟩ hM had hS hl hwl hws hend
