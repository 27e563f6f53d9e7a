
theorem jA_congr {ad : List Nat} {m m' : JMem} {k : Nat} {ty : FieldType} {x} (h1 : mI m' k = mI m k) (h2 : mL m' k = mL m k) (h3 : mR m' k = mR m k) (h : jA ad m k ty x) : jA ad m' k ty x := by
  unfold jA at h ⊢
  rw [h1, h2, h3]
  exact h
theorem jf_congr {ad : List Nat} {m m' : JMem} {k j : Nat} {ty : FieldType} {v : Value} (h1 : mI m' k j = mI m k j) (h2 : mL m' k j = mL m k j) (h3 : mR m' k j = mR m k j) (h : jf ad m k j ty v) : jf ad m' k j ty v := by
  unfold jf at h ⊢
  rw [h1, h2, h3]
  exact h
theorem jE_a {ad : List Nat} {m : JMem} {tys : List (ClassId × FieldType)} {k n : Nat} {ty : FieldType} {e : va_E} (hb : BS k = (some ty, n)) (h : jE ad m tys k e) : jEa ad m tys k ty n e := by
  unfold jE at h; rw [hb] at h; exact h
theorem jE_o {ad : List Nat} {m : JMem} {tys : List (ClassId × FieldType)} {k ci : Nat} {e : va_E} (hb : BS k = (none, ci)) (h : jE ad m tys k e) : jEo ad m k ci e := by
  unfold jE at h; rw [hb] at h; exact h
theorem jE_of_a {ad : List Nat} {m : JMem} {tys : List (ClassId × FieldType)} {k n : Nat} {ty : FieldType} {e : va_E} (hb : BS k = (some ty, n)) (h : jEa ad m tys k ty n e) : jE ad m tys k e := by
  unfold jE; rw [hb]; exact h
theorem jE_of_o {ad : List Nat} {m : JMem} {tys : List (ClassId × FieldType)} {k ci : Nat} {e : va_E} (hb : BS k = (none, ci)) (h : jEo ad m k ci e) : jE ad m tys k e := by
  unfold jE; rw [hb]; exact h
theorem jE_congr {ad : List Nat} {m m' : JMem} {tys : List (ClassId × FieldType)} {k : Nat} {e : va_E} (h1 : mI m' k = mI m k) (h2 : mL m' k = mL m k) (h3 : mR m' k = mR m k) (h : jE ad m tys k e) : jE ad m' tys k e := by
  unfold jE at h ⊢
  split at h
  · obtain ⟨cA, x, t0, e1, e2, e3⟩ := h
    exact ⟨cA, x, t0, e1, e2, jA_congr h1 h2 h3 e3⟩
  · obtain ⟨fs, r, e1, e2, e3, e4⟩ := h
    exact ⟨fs, r, e1, e2, e3, fun j v hj => jf_congr (by rw [h1]) (by rw [h2]) (by rw [h3]) (e4 j v hj)⟩
theorem pre_get {ad ad' : List Nat} (h : ad <+: ad') {k a : Nat} (hk : ad[k]? = some a) : ad'[k]? = some a := by
  obtain ⟨x, rfl⟩ := h
  rw [List.getElem?_append_left (List.getElem?_eq_some_iff.mp hk).1]; exact hk
theorem jr_mono {ad ad' : List Nat} (h : ad <+: ad') {o r : Option Nat} (hr : jr ad o r) : jr ad' o r := by
  unfold jr at hr ⊢
  split at hr
  · exact hr
  · obtain ⟨a, h1, h2⟩ := hr; exact ⟨a, pre_get h h1, h2⟩
theorem jA_mono {ad ad' : List Nat} (h : ad <+: ad') {m : JMem} {k : Nat} {ty : FieldType} {x} (hh : jA ad m k ty x) : jA ad' m k ty x := by
  unfold jA at hh ⊢
  split at hh <;> first | exact hh | (obtain ⟨f, h1, h2⟩ := hh; exact ⟨f, h1, fun i => jr_mono h (h2 i)⟩)
theorem jf_mono {ad ad' : List Nat} (h : ad <+: ad') {m : JMem} {k j : Nat} {ty : FieldType} {v : Value} (hh : jf ad m k j ty v) : jf ad' m k j ty v := by
  unfold jf at hh ⊢
  split at hh <;> first | exact hh | (obtain ⟨f, h1, h2⟩ := hh; exact ⟨f, h1, jr_mono h h2⟩)
theorem jE_mono {ad ad' : List Nat} (h : ad <+: ad') {m : JMem} {tys tys' : List (ClassId × FieldType)} (ht : ∀ (t : Nat) (q : ClassId × FieldType), tys[t]? = some q → tys'[t]? = some q) {k : Nat} {e : va_E} (hh : jE ad m tys k e) : jE ad' m tys' k e := by
  unfold jE at hh ⊢
  split at hh
  · obtain ⟨cA, x, t0, e1, e2, e3⟩ := hh
    exact ⟨cA, x, t0, e1, ht _ _ e2, jA_mono h e3⟩
  · obtain ⟨fs, r, e1, e2, e3, e4⟩ := hh
    exact ⟨fs, r, e1, e2, e3, fun j v hj => jf_mono h (e4 j v hj)⟩
theorem jad_len (bw : Nat × Nat) (ws : va_W) : (jad bw ws).length = ws.length + 2 := by simp [jad]
theorem jad_get {bw : Nat × Nat} {ws : va_W} {k : Nat} {q : Nat × va_E} (h : ws[k]? = some q) : (jad bw ws)[k + 2]? = some q.1 := by
  simp [jad, h]
theorem jad_app (bw : Nat × Nat) (ws : va_W) (q : Nat × va_E) : jad bw (ws ++ [q]) = jad bw ws ++ [q.1] := by simp [jad]
theorem jad_set {bw : Nat × Nat} {ws : va_W} {k : Nat} {q : Nat × va_E} {e : va_E} (h : ws[k]? = some q) : jad bw (ws.set k (q.1, e)) = jad bw ws := by
  simp only [jad, List.map_set]
  congr 2
  apply List.ext_getElem?
  intro i
  rw [List.getElem?_set]
  by_cases hki : k = i
  · subst hki
    have hk := (List.getElem?_eq_some_iff.mp h).1
    simp only [if_true, List.length_map, hk, List.getElem?_map, h, Option.map_some]
  · simp [hki]
theorem jv_at {ad : List Nat} {k a : Nat} (h : ad[k]? = some a) : jv ad (.ref k) = .ref a := by simp [jv, h]
theorem jv_mono {ad ad' : List Nat} (h : ad <+: ad') {v : Value} (hw : jw ad v) : jv ad' v = jv ad v := by
  cases v <;> try rfl
  rename_i k
  have hk : k < ad.length := hw
  have h1 : ad[k]? = some ad[k] := by simp [hk]
  rw [jv_at h1, jv_at (pre_get h h1)]
theorem jw_mono {ad ad' : List Nat} (h : ad <+: ad') {v : Value} (hw : jw ad v) : jw ad' v := by
  cases v <;> try trivial
  exact Nat.lt_of_lt_of_le hw h.length_le
theorem jws_mono {ad ad' : List Nat} (h : ad <+: ad') {st : List Value} (hw : jws ad st) : jws ad' st ∧ st.map (jv ad') = st.map (jv ad) :=
  ⟨fun v hv => jw_mono h (hw v hv), List.map_congr_left (fun v hv => jv_mono h (hw v hv))⟩
theorem jwl_mono {ad ad' : List Nat} (h : ad <+: ad') {lv : List (Nat × Value)} (hw : jwl ad lv) : jwl ad' lv ∧ jlv ad' lv = jlv ad lv :=
  ⟨fun v hv => jw_mono h (hw v hv), List.map_congr_left (fun q hq => by rw [jv_mono h (hw q hq)])⟩
theorem jM_open {D : va_G} {a0 : Nat} {bw : Nat × Nat} {m : JMem} {U : State} {H : Heap} {ws : va_W} (hM : jM D a0 bw m U H ws) {k : Nat} (h2 : 2 ≤ k) (hk : k < mN m) :
    ∃ tys q, va_K D vwCl tys U ∧ va_P D vwCl ws H ∧ va_D (fun q : Nat => a0 ≤ q) ws ∧ ws[k - 2]? = some q ∧ (jad bw ws)[k]? = some q.1 ∧ jE (jad bw ws) m tys k q.2 ∧
    (∀ (H1 : Heap) (e' : va_E) (m' : JMem), va_P D vwCl (ws.set (k - 2) (q.1, e')) H1 → va_D (fun q : Nat => a0 ≤ q) (ws.set (k - 2) (q.1, e')) → (∀ k', k' ≠ k → mI m' k' = mI m k' ∧ mL m' k' = mL m k' ∧ mR m' k' = mR m k') → mN m' = mN m → jE (jad bw ws) m' tys k e' → jM D a0 bw m' U H1 (ws.set (k - 2) (q.1, e')) ∧ jad bw (ws.set (k - 2) (q.1, e')) = jad bw ws) ∧ (∀ i z, ws[i]? = some z → jE (jad bw ws) m tys (i + 2) z.2) ∧ ws.length + 2 = mN m := by
  obtain ⟨tys, hK, hP, hD, hlen, hE, hfr⟩ := hM
  have hk2 : k - 2 < ws.length := by omega
  have hkk : k - 2 + 2 = k := by omega
  have hq : ws[k - 2]? = some ws[k - 2] := by simp [hk2]
  refine ⟨tys, ws[k - 2], hK, hP, hD, hq, ?_, ?_, ?_, hE, hlen⟩
  · have := jad_get (bw := bw) hq; rw [hkk] at this; exact this
  · have := hE _ _ hq; rw [hkk] at this; exact this
  · intro H1 e' m' hP1 hD1 hm hN hE1
    have hj := jad_set (bw := bw) (e := e') hq
    refine ⟨⟨tys, hK, hP1, hD1, by rw [List.length_set]; omega, ?_, ?_⟩, hj⟩
    · intro i q hi
      rw [hj]
      rw [List.getElem?_set] at hi
      by_cases h9 : k - 2 = i
      · rw [if_pos h9, if_pos hk2] at hi
        cases hi
        have : i + 2 = k := by omega
        rw [this]; exact hE1
      · rw [if_neg h9] at hi
        obtain ⟨g1, g2, g3⟩ := hm (i + 2) (by omega)
        exact jE_congr g1 g2 g3 (hE i q hi)
    · intro c hc
      rw [hN] at hc
      obtain ⟨g1, g2, g3⟩ := hm c (by omega)
      rw [g1, g2, g3]; exact hfr c hc
theorem wI_off (m : JMem) (c i : Nat) (v : Int32) : ∀ k', k' ≠ c → mI (wI m c i v) k' = mI m k' ∧ mL (wI m c i v) k' = mL m k' ∧ mR (wI m c i v) k' = mR m k' := fun k' h => ⟨rw1_n _ _ h, rfl, rfl⟩
theorem wL_off (m : JMem) (c i : Nat) (v : Int64) : ∀ k', k' ≠ c → mI (wL m c i v) k' = mI m k' ∧ mL (wL m c i v) k' = mL m k' ∧ mR (wL m c i v) k' = mR m k' := fun k' h => ⟨rfl, rw1_n _ _ h, rfl⟩
theorem wR_off (m : JMem) (c i v : Nat) : ∀ k', k' ≠ c → mI (wR m c i v) k' = mI m k' ∧ mL (wR m c i v) k' = mL m k' ∧ mR (wR m c i v) k' = mR m k' := fun k' h => ⟨rfl, rfl, rw1_n _ _ h⟩
theorem aI_off (m : JMem) (c : Nat) (f : Nat → Int32) : ∀ k', k' ≠ c → mI (aI m c f) k' = mI m k' ∧ mL (aI m c f) k' = mL m k' ∧ mR (aI m c f) k' = mR m k' := fun k' h => ⟨rw1_n _ _ h, rfl, rfl⟩
theorem aL_off (m : JMem) (c : Nat) (f : Nat → Int64) : ∀ k', k' ≠ c → mI (aL m c f) k' = mI m k' ∧ mL (aL m c f) k' = mL m k' ∧ mR (aL m c f) k' = mR m k' := fun k' h => ⟨rfl, rw1_n _ _ h, rfl⟩
theorem wI_s (m : JMem) (c i : Nat) (v : Int32) : mI (wI m c i v) c = upd (mI m c) i v := rw1_s _ _ _
theorem wL_s (m : JMem) (c i : Nat) (v : Int64) : mL (wL m c i v) c = vp_updL (mL m c) i v := rw1_s _ _ _
theorem wR_s (m : JMem) (c i v : Nat) : mR (wR m c i v) c = va_up (mR m c) i (some v) := rw1_s _ _ _
theorem aI_s (m : JMem) (c : Nat) (f : Nat → Int32) : mI (aI m c f) c = f := rw1_s _ _ _
theorem aL_s (m : JMem) (c : Nat) (f : Nat → Int64) : mL (aL m c f) c = f := rw1_s _ _ _
def jFL (own : String) (idx ci j : Nat) (fin : Bool) : Prop := ∃ C T N, vwCl[ci]? = some (C, T, N) ∧ j < N ∧ (T j).1 = C ∧ (T j).2.2.2 = fin ∧ Cond.fieldLink own idx C (T j).2.1 (T j).2.2.1 ∈ TS

theorem inTS0 : ∀ w ∈ u_ws RX0 TX0 6, w ∈ TS := by decide +kernel
theorem inTS1 : ∀ w ∈ u_ws RX1 TX1 12, w ∈ TS := by decide +kernel
theorem inTS2 : ∀ w ∈ u_ws RX2 TX2 3, w ∈ TS := by decide +kernel
theorem inTS3 : ∀ w ∈ u_ws RX3 TX3 4, w ∈ TS := by decide +kernel
theorem inTS4 : ∀ w ∈ u_ws RX4 TX4 15, w ∈ TS := by decide +kernel
theorem inTS5 : ∀ w ∈ u_ws RX5 TX5 11, w ∈ TS := by decide +kernel
theorem inTS6 : ∀ w ∈ u_ws RX6 TX6 14, w ∈ TS := by decide +kernel
theorem inTS7 : ∀ w ∈ u_ws RX7 TX7 12, w ∈ TS := by decide +kernel
theorem inTS8 : ∀ w ∈ u_ws RX8 TX8 3, w ∈ TS := by decide +kernel
theorem inTS9 : ∀ w ∈ u_ws RX9 TX9 10, w ∈ TS := by decide +kernel
theorem inTS10 : ∀ w ∈ u_ws RX10 TX10 2, w ∈ TS := by decide +kernel
theorem inTS11 : ∀ w ∈ u_ws RX11 TX11 20, w ∈ TS := by decide +kernel
theorem inTS12 : ∀ w ∈ u_ws RX12 TX12 58, w ∈ TS := by decide +kernel
theorem jcls (P : vw_C → Nat → Prop) (h0 : P (RX0, TX0, 6) 0) (h1 : P (RX1, TX1, 12) 1) (h2 : P (RX2, TX2, 3) 2) (h3 : P (RX3, TX3, 4) 3) (h4 : P (RX4, TX4, 15) 4) (h5 : P (RX5, TX5, 11) 5) (h6 : P (RX6, TX6, 14) 6) (h7 : P (RX7, TX7, 12) 7) (h8 : P (RX8, TX8, 3) 8) (h9 : P (RX9, TX9, 10) 9) (h10 : P (RX10, TX10, 2) 10) (h11 : P (RX11, TX11, 20) 11) (h12 : P (RX12, TX12, 58) 12) {ci : Nat} {r : vw_C} (h : vwCl[ci]? = some r) : P r ci := by
  match ci, h with
  | 0, h => cases h; exact h0
  | 1, h => cases h; exact h1
  | 2, h => cases h; exact h2
  | 3, h => cases h; exact h3
  | 4, h => cases h; exact h4
  | 5, h => cases h; exact h5
  | 6, h => cases h; exact h6
  | 7, h => cases h; exact h7
  | 8, h => cases h; exact h8
  | 9, h => cases h; exact h9
  | 10, h => cases h; exact h10
  | 11, h => cases h; exact h11
  | 12, h => cases h; exact h12
  | n + 13, h => simp [vwCl] at h
theorem jin {ci : Nat} {C : String} {T : u_T} {N : Nat} (h : vwCl[ci]? = some (C, T, N)) : ∀ w ∈ u_ws C T N, w ∈ TS := jcls (fun r _ => ∀ w ∈ u_ws r.1 r.2.1 r.2.2, w ∈ TS) inTS0 inTS1 inTS2 inTS3 inTS4 inTS5 inTS6 inTS7 inTS8 inTS9 inTS10 inTS11 inTS12 h
theorem jty {ci : Nat} {C : String} {T : u_T} {N : Nat} (h : vwCl[ci]? = some (C, T, N)) : ∀ k, k < N → parseFieldDescriptor (T k).2.2.1 = some (CFT ci k) := jcls (fun r ci => ∀ k, k < r.2.2 → parseFieldDescriptor (r.2.1 k).2.2.1 = some (CFT ci k)) tyX0_ok tyX1_ok tyX2_ok tyX3_ok tyX4_ok tyX5_ok tyX6_ok tyX7_ok tyX8_ok tyX9_ok tyX10_ok tyX11_ok tyX12_ok h
theorem jnm {ci : Nat} {C : String} {T : u_T} {N : Nat} (h : vwCl[ci]? = some (C, T, N)) : ∀ a, a < N → ∀ b, b < N → a ≠ b → (T a).2.1 ≠ (T b).2.1 := jcls (fun r _ => ∀ a, a < r.2.2 → ∀ b, b < r.2.2 → a ≠ b → (r.2.1 a).2.1 ≠ (r.2.1 b).2.1) nmX0 nmX1 nmX2 nmX3 nmX4 nmX5 nmX6 nmX7 nmX8 nmX9 nmX10 nmX11 nmX12 h
def okT (ty : FieldType) : Bool := match ty with
  | .int => true
  | .boolean => true
  | .long => true
  | .object _ => true
  | .array _ => true
  | _ => false
theorem jokT {ci : Nat} {C : String} {T : u_T} {N : Nat} (h : vwCl[ci]? = some (C, T, N)) : ∀ k, k < N → okT (CFT ci k) = true := jcls (fun r ci => ∀ k, k < r.2.2 → okT (CFT ci k) = true) (by decide +kernel) (by decide +kernel) (by decide +kernel) (by decide +kernel) (by decide +kernel) (by decide +kernel) (by decide +kernel) (by decide +kernel) (by decide +kernel) (by decide +kernel) (by decide +kernel) (by decide +kernel) (by decide +kernel) h
theorem JT_getI {M : MT} {d mc ms pc : Nat} {lv : List (Nat × Value)} {st : List Value} {m : JMem} {Q : Option Value → JMem → Prop} {idx ci j a : Nat} {fin : Bool} (hd : decode M.2.2.1 pc = .ok (.getfield idx, 3)) (hf : jFL M.1 idx ci j fin) (hb : BS a = (none, ci)) (h2 : 2 ≤ a) (hN : a < mN m) (ht : CFT ci j = .int ∨ CFT ci j = .boolean) (k : JT M d mc ms (pc + 3) lv (.int (mI m a j) :: st) m Q) : JT M d mc ms pc lv (.ref a :: st) m Q := by
  intro p l e R s mid args below meth c H locs cells slots MC MS D a0 bw X ad0 ws ls Qf hc hX hRO hRm hM had hS hl hwl hws hend
  obtain ⟨hx, hbz, hml, hown, hts, hrz, hlk, hnm⟩ := id hc
  obtain ⟨tys, q, hK, hP, hD, hq, hadq, hE, hset, hall, hlenw⟩ := jM_open hM h2 hN
  obtain ⟨qa, qe⟩ := q
  dsimp only at hadq hE hset
  have hv := jv_at hadq
  obtain ⟨C, T, N, hcl, hj, hC, hfin, hlink⟩ := hf
  obtain ⟨fs, r, e1, e2, e3, e4⟩ := jE_o hb hE
  rw [hcl] at e2; cases e2
  subst e1
  dsimp only at e3
  have hjl : j < fs.length := by omega
  have hfj : fs[j]? = some fs[j] := by simp [hjl]
  have hjf := e4 _ _ hfj
  have hval : fs[j] = .int (mI m a j) := by rcases ht with ht | ht <;> (rw [ht] at hjf; exact hjf)
  rw [hval] at hfj
  have hk := k p l e R s mid args below meth c H locs cells slots MC MS D a0 bw X ad0 ws ls Qf hc hX hRO hRm hM had hS hl hwl (jws_c trivial (jws_t hws)) hend
  simp only [List.map_cons, hv]
  exact va_get hx hbz hts (jin hcl) hown hK hP (a - 2) hq hcl j hj (hts _ hlink) (by rw [hC]; exact fun _ h => h) hfj hd hk
theorem JT_getL {M : MT} {d mc ms pc : Nat} {lv : List (Nat × Value)} {st : List Value} {m : JMem} {Q : Option Value → JMem → Prop} {idx ci j a : Nat} {fin : Bool} (hd : decode M.2.2.1 pc = .ok (.getfield idx, 3)) (hf : jFL M.1 idx ci j fin) (hb : BS a = (none, ci)) (h2 : 2 ≤ a) (hN : a < mN m) (ht : CFT ci j = .long) (k : JT M d mc ms (pc + 3) lv (.long (mL m a j) :: st) m Q) : JT M d mc ms pc lv (.ref a :: st) m Q := by
  intro p l e R s mid args below meth c H locs cells slots MC MS D a0 bw X ad0 ws ls Qf hc hX hRO hRm hM had hS hl hwl hws hend
  obtain ⟨hx, hbz, hml, hown, hts, hrz, hlk, hnm⟩ := id hc
  obtain ⟨tys, q, hK, hP, hD, hq, hadq, hE, hset, hall, hlenw⟩ := jM_open hM h2 hN
  obtain ⟨qa, qe⟩ := q
  dsimp only at hadq hE hset
  have hv := jv_at hadq
  obtain ⟨C, T, N, hcl, hj, hC, hfin, hlink⟩ := hf
  obtain ⟨fs, r, e1, e2, e3, e4⟩ := jE_o hb hE
  rw [hcl] at e2; cases e2
  subst e1
  dsimp only at e3
  have hjl : j < fs.length := by omega
  have hfj : fs[j]? = some fs[j] := by simp [hjl]
  have hjf := e4 _ _ hfj
  have hval : fs[j] = .long (mL m a j) := by rw [ht] at hjf; exact hjf
  rw [hval] at hfj
  have hk := k p l e R s mid args below meth c H locs cells slots MC MS D a0 bw X ad0 ws ls Qf hc hX hRO hRm hM had hS hl hwl (jws_c trivial (jws_t hws)) hend
  simp only [List.map_cons, hv]
  exact va_get hx hbz hts (jin hcl) hown hK hP (a - 2) hq hcl j hj (hts _ hlink) (by rw [hC]; exact fun _ h => h) hfj hd hk
theorem JT_getR {M : MT} {d mc ms pc : Nat} {lv : List (Nat × Value)} {st : List Value} {m : JMem} {Q : Option Value → JMem → Prop} {idx ci j a x : Nat} {fin : Bool} (hd : decode M.2.2.1 pc = .ok (.getfield idx, 3)) (hf : jFL M.1 idx ci j fin) (hb : BS a = (none, ci)) (h2 : 2 ≤ a) (hN : a < mN m) (ht : (∃ C, CFT ci j = .object C) ∨ ∃ t, CFT ci j = .array t) (hr : mR m a j = some x) (k : JT M d mc ms (pc + 3) lv (.ref x :: st) m Q) : JT M d mc ms pc lv (.ref a :: st) m Q := by
  intro p l e R s mid args below meth c H locs cells slots MC MS D a0 bw X ad0 ws ls Qf hc hX hRO hRm hM had hS hl hwl hws hend
  obtain ⟨hx, hbz, hml, hown, hts, hrz, hlk, hnm⟩ := id hc
  obtain ⟨tys, q, hK, hP, hD, hq, hadq, hE, hset, hall, hlenw⟩ := jM_open hM h2 hN
  obtain ⟨qa, qe⟩ := q
  dsimp only at hadq hE hset
  have hv := jv_at hadq
  obtain ⟨C, T, N, hcl, hj, hC, hfin, hlink⟩ := hf
  obtain ⟨fs, r, e1, e2, e3, e4⟩ := jE_o hb hE
  rw [hcl] at e2; cases e2
  subst e1
  dsimp only at e3
  have hjl : j < fs.length := by omega
  have hfj : fs[j]? = some fs[j] := by simp [hjl]
  have hjf := e4 _ _ hfj
  have hval : ∃ y, (jad bw ws)[x]? = some y ∧ fs[j] = .ref y := by
    have hjf : ∃ r, fs[j] = va_rf r ∧ jr (jad bw ws) (mR m a j) r := by
      rcases ht with ⟨C9, ht⟩ | ⟨C9, ht⟩ <;> (rw [ht] at hjf; exact hjf)
    obtain ⟨r9, g1, g2⟩ := hjf
    rw [hr] at g2
    obtain ⟨y, g3, g4⟩ := g2
    subst g4
    exact ⟨y, g3, g1⟩
  obtain ⟨y, hy1, hy2⟩ := hval
  rw [hy2] at hfj
  have hwx : jw (jad bw ws) (.ref x) := (List.getElem?_eq_some_iff.mp hy1).1
  have hk := k p l e R s mid args below meth c H locs cells slots MC MS D a0 bw X ad0 ws ls Qf hc hX hRO hRm hM had hS hl hwl (jws_c hwx (jws_t hws)) hend
  simp only [List.map_cons, jv_at hy1] at hk
  simp only [List.map_cons, hv]
  exact va_get hx hbz hts (jin hcl) hown hK hP (a - 2) hq hcl j hj (hts _ hlink) (by rw [hC]; exact fun _ h => h) hfj hd hk
theorem JT_putI {M : MT} {d mc ms pc : Nat} {lv : List (Nat × Value)} {st : List Value} {m : JMem} {Q : Option Value → JMem → Prop} {idx ci j a : Nat} {x : Int32} (hd : decode M.2.2.1 pc = .ok (.putfield idx, 3)) (hf : jFL M.1 idx ci j false) (hb : BS a = (none, ci)) (h2 : 2 ≤ a) (hN : a < mN m) (ht : CFT ci j = .int) (k : JT M d mc ms (pc + 3) lv st (wI m a j x) Q) : JT M d mc ms pc lv (.int x :: .ref a :: st) m Q := by
  intro p l e R s mid args below meth c H locs cells slots MC MS D a0 bw X ad0 ws ls Qf hc hX hRO hRm hM had hS hl hwl hws hend
  obtain ⟨hx, hbz, hml, hown, hts, hrz, hlk, hnm⟩ := id hc
  obtain ⟨tys, q, hK, hP, hD, hq, hadq, hE, hset, hall, hlenw⟩ := jM_open hM h2 hN
  obtain ⟨qa, qe⟩ := q
  dsimp only at hadq hE hset
  have hv := jv_at hadq
  obtain ⟨C, T, N, hcl, hj, hC, hfin, hlink⟩ := hf
  obtain ⟨fs, r, e1, e2, e3, e4⟩ := jE_o hb hE
  rw [hcl] at e2; cases e2
  subst e1
  dsimp only at e3
  have hjl : j < fs.length := by omega
  have hfj : fs[j]? = some fs[j] := by simp [hjl]
  have hjf := e4 _ _ hfj
  simp only [List.map_cons, hv]
  refine va_put (v := .int x) hx hbz hts (jin hcl) (CFT ci) (jty hcl) (jnm hcl) hown hK hP hD hS (a - 2) hq hcl j hj (hts _ hlink) (by rw [hC]; exact fun _ h => h) hfin (jty hcl j hj) (by rw [ht]; rfl) (by rw [ht]; rfl) hjl hd (fun H1 locs1 hP1 hD1 hS1 => ?_)
  obtain ⟨hM1, hj1⟩ := hset H1 _ (wI m a j x) hP1 hD1 (wI_off m a j x) rfl (jE_of_o hb ⟨_, _, rfl, hcl, by rw [List.length_set]; exact e3, fun j9 v9 h9 => by
    rw [List.getElem?_set] at h9
    by_cases h8 : j = j9
    · subst h8
      simp only [hjl, if_true] at h9
      cases h9
      rw [ht]; show Value.int x = .int (mI (wI m a j x) a j); rw [wI_s]; simp [upd]
    · rw [if_neg h8] at h9
      exact jf_congr (m := m) (by rw [wI_s]; simp only [upd, if_neg (Ne.symm h8)]) rfl rfl (e4 _ _ h9)⟩)
  have hk := k p l e R s mid args below meth c H1 locs1 cells slots MC MS D a0 bw X ad0 _ ls Qf hc hX hRO hRm hM1 (by rw [hj1]; exact had) hS1 (by rw [hj1]; exact hl) (by rw [hj1]; exact hwl) (by rw [hj1]; exact (jws_t (jws_t hws))) hend
  rw [hj1] at hk
  exact hk
theorem JT_putZ {M : MT} {d mc ms pc : Nat} {lv : List (Nat × Value)} {st : List Value} {m : JMem} {Q : Option Value → JMem → Prop} {idx ci j a : Nat} {x : Int32} (hd : decode M.2.2.1 pc = .ok (.putfield idx, 3)) (hf : jFL M.1 idx ci j false) (hb : BS a = (none, ci)) (h2 : 2 ≤ a) (hN : a < mN m) (ht : CFT ci j = .boolean) (h01 : x = 0 ∨ x = 1) (k : JT M d mc ms (pc + 3) lv st (wI m a j x) Q) : JT M d mc ms pc lv (.int x :: .ref a :: st) m Q := by
  intro p l e R s mid args below meth c H locs cells slots MC MS D a0 bw X ad0 ws ls Qf hc hX hRO hRm hM had hS hl hwl hws hend
  obtain ⟨hx, hbz, hml, hown, hts, hrz, hlk, hnm⟩ := id hc
  obtain ⟨tys, q, hK, hP, hD, hq, hadq, hE, hset, hall, hlenw⟩ := jM_open hM h2 hN
  obtain ⟨qa, qe⟩ := q
  dsimp only at hadq hE hset
  have hv := jv_at hadq
  obtain ⟨C, T, N, hcl, hj, hC, hfin, hlink⟩ := hf
  obtain ⟨fs, r, e1, e2, e3, e4⟩ := jE_o hb hE
  rw [hcl] at e2; cases e2
  subst e1
  dsimp only at e3
  have hjl : j < fs.length := by omega
  have hfj : fs[j]? = some fs[j] := by simp [hjl]
  have hjf := e4 _ _ hfj
  simp only [List.map_cons, hv]
  refine va_put (v := .int x) hx hbz hts (jin hcl) (CFT ci) (jty hcl) (jnm hcl) hown hK hP hD hS (a - 2) hq hcl j hj (hts _ hlink) (by rw [hC]; exact fun _ h => h) hfin (jty hcl j hj) (by rw [ht]; rcases h01 with rfl | rfl <;> rfl) (by rw [ht]; rcases h01 with rfl | rfl <;> rfl) hjl hd (fun H1 locs1 hP1 hD1 hS1 => ?_)
  obtain ⟨hM1, hj1⟩ := hset H1 _ (wI m a j x) hP1 hD1 (wI_off m a j x) rfl (jE_of_o hb ⟨_, _, rfl, hcl, by rw [List.length_set]; exact e3, fun j9 v9 h9 => by
    rw [List.getElem?_set] at h9
    by_cases h8 : j = j9
    · subst h8
      simp only [hjl, if_true] at h9
      cases h9
      rw [ht]; show Value.int x = .int (mI (wI m a j x) a j); rw [wI_s]; simp [upd]
    · rw [if_neg h8] at h9
      exact jf_congr (m := m) (by rw [wI_s]; simp only [upd, if_neg (Ne.symm h8)]) rfl rfl (e4 _ _ h9)⟩)
  have hk := k p l e R s mid args below meth c H1 locs1 cells slots MC MS D a0 bw X ad0 _ ls Qf hc hX hRO hRm hM1 (by rw [hj1]; exact had) hS1 (by rw [hj1]; exact hl) (by rw [hj1]; exact hwl) (by rw [hj1]; exact (jws_t (jws_t hws))) hend
  rw [hj1] at hk
  exact hk
theorem JT_putL {M : MT} {d mc ms pc : Nat} {lv : List (Nat × Value)} {st : List Value} {m : JMem} {Q : Option Value → JMem → Prop} {idx ci j a : Nat} {x : Int64} (hd : decode M.2.2.1 pc = .ok (.putfield idx, 3)) (hf : jFL M.1 idx ci j false) (hb : BS a = (none, ci)) (h2 : 2 ≤ a) (hN : a < mN m) (ht : CFT ci j = .long) (k : JT M d mc ms (pc + 3) lv st (wL m a j x) Q) : JT M d mc ms pc lv (.long x :: .ref a :: st) m Q := by
  intro p l e R s mid args below meth c H locs cells slots MC MS D a0 bw X ad0 ws ls Qf hc hX hRO hRm hM had hS hl hwl hws hend
  obtain ⟨hx, hbz, hml, hown, hts, hrz, hlk, hnm⟩ := id hc
  obtain ⟨tys, q, hK, hP, hD, hq, hadq, hE, hset, hall, hlenw⟩ := jM_open hM h2 hN
  obtain ⟨qa, qe⟩ := q
  dsimp only at hadq hE hset
  have hv := jv_at hadq
  obtain ⟨C, T, N, hcl, hj, hC, hfin, hlink⟩ := hf
  obtain ⟨fs, r, e1, e2, e3, e4⟩ := jE_o hb hE
  rw [hcl] at e2; cases e2
  subst e1
  dsimp only at e3
  have hjl : j < fs.length := by omega
  have hfj : fs[j]? = some fs[j] := by simp [hjl]
  have hjf := e4 _ _ hfj
  simp only [List.map_cons, hv]
  refine va_put (v := .long x) hx hbz hts (jin hcl) (CFT ci) (jty hcl) (jnm hcl) hown hK hP hD hS (a - 2) hq hcl j hj (hts _ hlink) (by rw [hC]; exact fun _ h => h) hfin (jty hcl j hj) (by rw [ht]; rfl) (by rw [ht]; rfl) hjl hd (fun H1 locs1 hP1 hD1 hS1 => ?_)
  obtain ⟨hM1, hj1⟩ := hset H1 _ (wL m a j x) hP1 hD1 (wL_off m a j x) rfl (jE_of_o hb ⟨_, _, rfl, hcl, by rw [List.length_set]; exact e3, fun j9 v9 h9 => by
    rw [List.getElem?_set] at h9
    by_cases h8 : j = j9
    · subst h8
      simp only [hjl, if_true] at h9
      cases h9
      rw [ht]; show Value.long x = .long (mL (wL m a j x) a j); rw [wL_s]; simp [vp_updL]
    · rw [if_neg h8] at h9
      exact jf_congr (m := m) rfl (by rw [wL_s]; simp only [vp_updL, if_neg (Ne.symm h8)]) rfl (e4 _ _ h9)⟩)
  have hk := k p l e R s mid args below meth c H1 locs1 cells slots MC MS D a0 bw X ad0 _ ls Qf hc hX hRO hRm hM1 (by rw [hj1]; exact had) hS1 (by rw [hj1]; exact hl) (by rw [hj1]; exact hwl) (by rw [hj1]; exact (jws_t (jws_t hws))) hend
  rw [hj1] at hk
  exact hk
theorem JT_putR {M : MT} {d mc ms pc : Nat} {lv : List (Nat × Value)} {st : List Value} {m : JMem} {Q : Option Value → JMem → Prop} {idx ci j a x : Nat} (hd : decode M.2.2.1 pc = .ok (.putfield idx, 3)) (hf : jFL M.1 idx ci j false) (hb : BS a = (none, ci)) (h2 : 2 ≤ a) (hN : a < mN m) (ht : (∃ C, CFT ci j = .object C) ∨ ∃ t, CFT ci j = .array t) (k : JT M d mc ms (pc + 3) lv st (wR m a j x) Q) : JT M d mc ms pc lv (.ref x :: .ref a :: st) m Q := by
  intro p l e R s mid args below meth c H locs cells slots MC MS D a0 bw X ad0 ws ls Qf hc hX hRO hRm hM had hS hl hwl hws hend
  obtain ⟨hx, hbz, hml, hown, hts, hrz, hlk, hnm⟩ := id hc
  obtain ⟨tys, q, hK, hP, hD, hq, hadq, hE, hset, hall, hlenw⟩ := jM_open hM h2 hN
  obtain ⟨qa, qe⟩ := q
  dsimp only at hadq hE hset
  have hv := jv_at hadq
  obtain ⟨C, T, N, hcl, hj, hC, hfin, hlink⟩ := hf
  obtain ⟨fs, r, e1, e2, e3, e4⟩ := jE_o hb hE
  rw [hcl] at e2; cases e2
  subst e1
  dsimp only at e3
  have hjl : j < fs.length := by omega
  have hfj : fs[j]? = some fs[j] := by simp [hjl]
  have hjf := e4 _ _ hfj
  have hwx : x < (jad bw ws).length := jws_h hws
  obtain ⟨y, hy1, hy2⟩ := jv_ref hwx
  simp only [List.map_cons, hv, hy2]
  refine va_put (v := .ref y) hx hbz hts (jin hcl) (CFT ci) (jty hcl) (jnm hcl) hown hK hP hD hS (a - 2) hq hcl j hj (hts _ hlink) (by rw [hC]; exact fun _ h => h) hfin (jty hcl j hj) (by rcases ht with ⟨C9, ht⟩ | ⟨C9, ht⟩ <;> (rw [ht]; rfl)) (by rcases ht with ⟨C9, ht⟩ | ⟨C9, ht⟩ <;> (rw [ht]; rfl)) hjl hd (fun H1 locs1 hP1 hD1 hS1 => ?_)
  obtain ⟨hM1, hj1⟩ := hset H1 _ (wR m a j x) hP1 hD1 (wR_off m a j x) rfl (jE_of_o hb ⟨_, _, rfl, hcl, by rw [List.length_set]; exact e3, fun j9 v9 h9 => by
    rw [List.getElem?_set] at h9
    by_cases h8 : j = j9
    · subst h8
      simp only [hjl, if_true] at h9
      cases h9
      have hjr : jf (jad bw ws) (wR m a j x) a j (CFT ci j) (.ref y) := by
        have h7 : ∃ r, Value.ref y = va_rf r ∧ jr (jad bw ws) (mR (wR m a j x) a j) r := ⟨some y, rfl, by rw [wR_s]; simp only [va_up, if_true]; exact ⟨y, hy1, rfl⟩⟩
        rcases ht with ⟨C9, ht⟩ | ⟨C9, ht⟩ <;> (rw [ht]; exact h7)
      exact hjr
    · rw [if_neg h8] at h9
      exact jf_congr (m := m) rfl rfl (by rw [wR_s]; simp only [va_up, if_neg (Ne.symm h8)]) (e4 _ _ h9)⟩)
  have hk := k p l e R s mid args below meth c H1 locs1 cells slots MC MS D a0 bw X ad0 _ ls Qf hc hX hRO hRm hM1 (by rw [hj1]; exact had) hS1 (by rw [hj1]; exact hl) (by rw [hj1]; exact hwl) (by rw [hj1]; exact (jws_t (jws_t hws))) hend
  rw [hj1] at hk
  exact hk
theorem JT_putF {M : MT} {d mc ms pc : Nat} {lv : List (Nat × Value)} {st : List Value} {m : JMem} {Q : Option Value → JMem → Prop} {idx ci j a x : Nat} (hd : decode M.2.2.1 pc = .ok (.putfield idx, 3)) (hf : jFL M.1 idx ci j true) (hb : BS a = (none, ci)) (h2 : 2 ≤ a) (hN : a < mN m) (ht : (∃ C, CFT ci j = .object C) ∨ ∃ t, CFT ci j = .array t) (hini : M.2.1.name = "<init>") (hown2 : ∀ r, vwCl[ci]? = some r → r.1 = M.1) (k : JT M d mc ms (pc + 3) lv st (wR m a j x) Q) : JT M d mc ms pc lv (.ref x :: .ref a :: st) m Q := by
  intro p l e R s mid args below meth c H locs cells slots MC MS D a0 bw X ad0 ws ls Qf hc hX hRO hRm hM had hS hl hwl hws hend
  obtain ⟨hx, hbz, hml, hown, hts, hrz, hlk, hnm⟩ := id hc
  obtain ⟨tys, q, hK, hP, hD, hq, hadq, hE, hset, hall, hlenw⟩ := jM_open hM h2 hN
  obtain ⟨qa, qe⟩ := q
  dsimp only at hadq hE hset
  have hv := jv_at hadq
  obtain ⟨C, T, N, hcl, hj, hC, hfin, hlink⟩ := hf
  obtain ⟨fs, r, e1, e2, e3, e4⟩ := jE_o hb hE
  rw [hcl] at e2; cases e2
  subst e1
  dsimp only at e3
  have hjl : j < fs.length := by omega
  have hfj : fs[j]? = some fs[j] := by simp [hjl]
  have hjf := e4 _ _ hfj
  replace hown2 := hown2 _ hcl
  have hwx : x < (jad bw ws).length := jws_h hws
  obtain ⟨y, hy1, hy2⟩ := jv_ref hwx
  simp only [List.map_cons, hv, hy2]
  refine va_putF (v := .ref y) hx hbz hts (jin hcl) (CFT ci) (jty hcl) (jnm hcl) hown hK hP hD hS (a - 2) hq hcl j hj (hts _ hlink) (by rw [hC]; exact fun _ h => h) hfin (by rw [hnm.1 hini]; exact hini) (by rw [hC]; exact hown2) (jty hcl j hj) (by rcases ht with ⟨C9, ht⟩ | ⟨C9, ht⟩ <;> (rw [ht]; rfl)) (by rcases ht with ⟨C9, ht⟩ | ⟨C9, ht⟩ <;> (rw [ht]; rfl)) hjl hd (fun H1 locs1 hP1 hD1 hS1 => ?_)
  obtain ⟨hM1, hj1⟩ := hset H1 _ (wR m a j x) hP1 hD1 (wR_off m a j x) rfl (jE_of_o hb ⟨_, _, rfl, hcl, by rw [List.length_set]; exact e3, fun j9 v9 h9 => by
    rw [List.getElem?_set] at h9
    by_cases h8 : j = j9
    · subst h8
      simp only [hjl, if_true] at h9
      cases h9
      have hjr : jf (jad bw ws) (wR m a j x) a j (CFT ci j) (.ref y) := by
        have h7 : ∃ r, Value.ref y = va_rf r ∧ jr (jad bw ws) (mR (wR m a j x) a j) r := ⟨some y, rfl, by rw [wR_s]; simp only [va_up, if_true]; exact ⟨y, hy1, rfl⟩⟩
        rcases ht with ⟨C9, ht⟩ | ⟨C9, ht⟩ <;> (rw [ht]; exact h7)
      exact hjr
    · rw [if_neg h8] at h9
      exact jf_congr (m := m) rfl rfl (by rw [wR_s]; simp only [va_up, if_neg (Ne.symm h8)]) (e4 _ _ h9)⟩)
  have hk := k p l e R s mid args below meth c H1 locs1 cells slots MC MS D a0 bw X ad0 _ ls Qf hc hX hRO hRm hM1 (by rw [hj1]; exact had) hS1 (by rw [hj1]; exact hl) (by rw [hj1]; exact hwl) (by rw [hj1]; exact (jws_t (jws_t hws))) hend
  rw [hj1] at hk
  exact hk
theorem JT_iald {M : MT} {d mc ms pc : Nat} {lv : List (Nat × Value)} {st : List Value} {m : JMem} {Q : Option Value → JMem → Prop} {a n : Nat} {i : Int32} (hd : decode M.2.2.1 pc = .ok (.iaload, 1)) (hb : BS a = (some .int, n)) (h2 : 2 ≤ a) (hN : a < mN m) (hin : vp_in i n) (k : JT M d mc ms (pc + 1) lv (.int (mI m a i.toNatClampNeg) :: st) m Q) : JT M d mc ms pc lv (.int i :: .ref a :: st) m Q := by
  intro p l e R s mid args below meth c H locs cells slots MC MS D a0 bw X ad0 ws ls Qf hc hX hRO hRm hM had hS hl hwl hws hend
  obtain ⟨hx, hbz, hml, hown, hts, hrz, hlk, hnm⟩ := id hc
  obtain ⟨tys, q, hK, hP, hD, hq, hadq, hE, hset, hall, hlenw⟩ := jM_open hM h2 hN
  obtain ⟨qa, qe⟩ := q
  dsimp only at hadq hE hset
  have hv := jv_at hadq
  obtain ⟨cA, x0, t0, e1, e2, e3⟩ := jE_a hb hE
  subst e1
  replace e3 : x0 = .inl (mI m a) := e3
  subst e3
  have hk := k p l e R s mid args below meth c H locs cells slots MC MS D a0 bw X ad0 ws ls Qf hc hX hRO hRm hM had hS hl hwl (jws_c trivial (jws_t (jws_t hws))) hend
  simp only [List.map_cons, hv]
  exact va_iald hx hbz hK hP (a - 2) t0 hq e2 hin hd hk
theorem JT_bald {M : MT} {d mc ms pc : Nat} {lv : List (Nat × Value)} {st : List Value} {m : JMem} {Q : Option Value → JMem → Prop} {a n : Nat} {i : Int32} (hd : decode M.2.2.1 pc = .ok (.baload, 1)) (hb : BS a = (some .byte, n)) (h2 : 2 ≤ a) (hN : a < mN m) (hin : vp_in i n) (k : JT M d mc ms (pc + 1) lv (.int (mI m a i.toNatClampNeg) :: st) m Q) : JT M d mc ms pc lv (.int i :: .ref a :: st) m Q := by
  intro p l e R s mid args below meth c H locs cells slots MC MS D a0 bw X ad0 ws ls Qf hc hX hRO hRm hM had hS hl hwl hws hend
  obtain ⟨hx, hbz, hml, hown, hts, hrz, hlk, hnm⟩ := id hc
  obtain ⟨tys, q, hK, hP, hD, hq, hadq, hE, hset, hall, hlenw⟩ := jM_open hM h2 hN
  obtain ⟨qa, qe⟩ := q
  dsimp only at hadq hE hset
  have hv := jv_at hadq
  obtain ⟨cA, x0, t0, e1, e2, e3⟩ := jE_a hb hE
  subst e1
  replace e3 : x0 = .inl (mI m a) := e3
  subst e3
  have hk := k p l e R s mid args below meth c H locs cells slots MC MS D a0 bw X ad0 ws ls Qf hc hX hRO hRm hM had hS hl hwl (jws_c trivial (jws_t (jws_t hws))) hend
  simp only [List.map_cons, hv]
  exact va_bald hx hbz hK hP (a - 2) t0 hq e2 hin hd hk
theorem JT_zald {M : MT} {d mc ms pc : Nat} {lv : List (Nat × Value)} {st : List Value} {m : JMem} {Q : Option Value → JMem → Prop} {a n : Nat} {i : Int32} (hd : decode M.2.2.1 pc = .ok (.baload, 1)) (hb : BS a = (some .boolean, n)) (h2 : 2 ≤ a) (hN : a < mN m) (hin : vp_in i n) (k : JT M d mc ms (pc + 1) lv (.int (mI m a i.toNatClampNeg) :: st) m Q) : JT M d mc ms pc lv (.int i :: .ref a :: st) m Q := by
  intro p l e R s mid args below meth c H locs cells slots MC MS D a0 bw X ad0 ws ls Qf hc hX hRO hRm hM had hS hl hwl hws hend
  obtain ⟨hx, hbz, hml, hown, hts, hrz, hlk, hnm⟩ := id hc
  obtain ⟨tys, q, hK, hP, hD, hq, hadq, hE, hset, hall, hlenw⟩ := jM_open hM h2 hN
  obtain ⟨qa, qe⟩ := q
  dsimp only at hadq hE hset
  have hv := jv_at hadq
  obtain ⟨cA, x0, t0, e1, e2, e3⟩ := jE_a hb hE
  subst e1
  replace e3 : x0 = .inl (mI m a) := e3
  subst e3
  have hk := k p l e R s mid args below meth c H locs cells slots MC MS D a0 bw X ad0 ws ls Qf hc hX hRO hRm hM had hS hl hwl (jws_c trivial (jws_t (jws_t hws))) hend
  simp only [List.map_cons, hv]
  exact va_zald hx hbz hK hP (a - 2) t0 hq e2 hin hd hk
theorem JT_lald {M : MT} {d mc ms pc : Nat} {lv : List (Nat × Value)} {st : List Value} {m : JMem} {Q : Option Value → JMem → Prop} {a n : Nat} {i : Int32} (hd : decode M.2.2.1 pc = .ok (.laload, 1)) (hb : BS a = (some .long, n)) (h2 : 2 ≤ a) (hN : a < mN m) (hin : vp_in i n) (k : JT M d mc ms (pc + 1) lv (.long (mL m a i.toNatClampNeg) :: st) m Q) : JT M d mc ms pc lv (.int i :: .ref a :: st) m Q := by
  intro p l e R s mid args below meth c H locs cells slots MC MS D a0 bw X ad0 ws ls Qf hc hX hRO hRm hM had hS hl hwl hws hend
  obtain ⟨hx, hbz, hml, hown, hts, hrz, hlk, hnm⟩ := id hc
  obtain ⟨tys, q, hK, hP, hD, hq, hadq, hE, hset, hall, hlenw⟩ := jM_open hM h2 hN
  obtain ⟨qa, qe⟩ := q
  dsimp only at hadq hE hset
  have hv := jv_at hadq
  obtain ⟨cA, x0, t0, e1, e2, e3⟩ := jE_a hb hE
  subst e1
  replace e3 : x0 = .inr (.inl (mL m a)) := e3
  subst e3
  have hk := k p l e R s mid args below meth c H locs cells slots MC MS D a0 bw X ad0 ws ls Qf hc hX hRO hRm hM had hS hl hwl (jws_c trivial (jws_t (jws_t hws))) hend
  simp only [List.map_cons, hv]
  exact va_lald hx hbz hK hP (a - 2) t0 hq e2 hin hd hk
theorem JT_iast {M : MT} {d mc ms pc : Nat} {lv : List (Nat × Value)} {st : List Value} {m : JMem} {Q : Option Value → JMem → Prop} {a n : Nat} {i : Int32} {x : Int32} (hd : decode M.2.2.1 pc = .ok (.iastore, 1)) (hb : BS a = (some .int, n)) (h2 : 2 ≤ a) (hN : a < mN m) (hin : vp_in i n) (k : JT M d mc ms (pc + 1) lv st (wI m a i.toNatClampNeg x) Q) : JT M d mc ms pc lv (.int x :: .int i :: .ref a :: st) m Q := by
  intro p l e R s mid args below meth c H locs cells slots MC MS D a0 bw X ad0 ws ls Qf hc hX hRO hRm hM had hS hl hwl hws hend
  obtain ⟨hx, hbz, hml, hown, hts, hrz, hlk, hnm⟩ := id hc
  obtain ⟨tys, q, hK, hP, hD, hq, hadq, hE, hset, hall, hlenw⟩ := jM_open hM h2 hN
  obtain ⟨qa, qe⟩ := q
  dsimp only at hadq hE hset
  have hv := jv_at hadq
  obtain ⟨cA, x0, t0, e1, e2, e3⟩ := jE_a hb hE
  subst e1
  replace e3 : x0 = .inl (mI m a) := e3
  subst e3
  simp only [List.map_cons, hv]
  refine va_iast hx hbz hK hP hD hS (a - 2) t0 hq e2 hin hd (fun H1 locs1 hP1 hD1 hS1 => ?_)
  obtain ⟨hM1, hj1⟩ := hset H1 _ (wI m a i.toNatClampNeg x) hP1 hD1 (wI_off m a _ x) rfl (jE_of_a hb ⟨_, _, _, rfl, e2, by show _ = _; rw [wI_s]⟩)
  have hk := k p l e R s mid args below meth c H1 locs1 cells slots MC MS D a0 bw X ad0 _ ls Qf hc hX hRO hRm hM1 (by rw [hj1]; exact had) hS1 (by rw [hj1]; exact hl) (by rw [hj1]; exact hwl) (by rw [hj1]; exact (jws_t (jws_t (jws_t hws)))) hend
  rw [hj1] at hk
  exact hk
theorem JT_bast {M : MT} {d mc ms pc : Nat} {lv : List (Nat × Value)} {st : List Value} {m : JMem} {Q : Option Value → JMem → Prop} {a n : Nat} {i : Int32} {x : Int32} (hd : decode M.2.2.1 pc = .ok (.bastore, 1)) (hb : BS a = (some .byte, n)) (h2 : 2 ≤ a) (hN : a < mN m) (hin : vp_in i n) (k : JT M d mc ms (pc + 1) lv st (wI m a i.toNatClampNeg (vp_nar .byte x)) Q) : JT M d mc ms pc lv (.int x :: .int i :: .ref a :: st) m Q := by
  intro p l e R s mid args below meth c H locs cells slots MC MS D a0 bw X ad0 ws ls Qf hc hX hRO hRm hM had hS hl hwl hws hend
  obtain ⟨hx, hbz, hml, hown, hts, hrz, hlk, hnm⟩ := id hc
  obtain ⟨tys, q, hK, hP, hD, hq, hadq, hE, hset, hall, hlenw⟩ := jM_open hM h2 hN
  obtain ⟨qa, qe⟩ := q
  dsimp only at hadq hE hset
  have hv := jv_at hadq
  obtain ⟨cA, x0, t0, e1, e2, e3⟩ := jE_a hb hE
  subst e1
  replace e3 : x0 = .inl (mI m a) := e3
  subst e3
  simp only [List.map_cons, hv]
  refine va_bast hx hbz hK hP hD hS (a - 2) t0 hq e2 hin hd (fun H1 locs1 hP1 hD1 hS1 => ?_)
  obtain ⟨hM1, hj1⟩ := hset H1 _ (wI m a i.toNatClampNeg (vp_nar .byte x)) hP1 hD1 (wI_off m a _ (vp_nar .byte x)) rfl (jE_of_a hb ⟨_, _, _, rfl, e2, by show _ = _; rw [wI_s]⟩)
  have hk := k p l e R s mid args below meth c H1 locs1 cells slots MC MS D a0 bw X ad0 _ ls Qf hc hX hRO hRm hM1 (by rw [hj1]; exact had) hS1 (by rw [hj1]; exact hl) (by rw [hj1]; exact hwl) (by rw [hj1]; exact (jws_t (jws_t (jws_t hws)))) hend
  rw [hj1] at hk
  exact hk
theorem JT_zast {M : MT} {d mc ms pc : Nat} {lv : List (Nat × Value)} {st : List Value} {m : JMem} {Q : Option Value → JMem → Prop} {a n : Nat} {i : Int32} {x : Int32} (hd : decode M.2.2.1 pc = .ok (.bastore, 1)) (hb : BS a = (some .boolean, n)) (h2 : 2 ≤ a) (hN : a < mN m) (hin : vp_in i n) (k : JT M d mc ms (pc + 1) lv st (wI m a i.toNatClampNeg (vp_nar .boolean x)) Q) : JT M d mc ms pc lv (.int x :: .int i :: .ref a :: st) m Q := by
  intro p l e R s mid args below meth c H locs cells slots MC MS D a0 bw X ad0 ws ls Qf hc hX hRO hRm hM had hS hl hwl hws hend
  obtain ⟨hx, hbz, hml, hown, hts, hrz, hlk, hnm⟩ := id hc
  obtain ⟨tys, q, hK, hP, hD, hq, hadq, hE, hset, hall, hlenw⟩ := jM_open hM h2 hN
  obtain ⟨qa, qe⟩ := q
  dsimp only at hadq hE hset
  have hv := jv_at hadq
  obtain ⟨cA, x0, t0, e1, e2, e3⟩ := jE_a hb hE
  subst e1
  replace e3 : x0 = .inl (mI m a) := e3
  subst e3
  simp only [List.map_cons, hv]
  refine va_zast hx hbz hK hP hD hS (a - 2) t0 hq e2 hin hd (fun H1 locs1 hP1 hD1 hS1 => ?_)
  obtain ⟨hM1, hj1⟩ := hset H1 _ (wI m a i.toNatClampNeg (vp_nar .boolean x)) hP1 hD1 (wI_off m a _ (vp_nar .boolean x)) rfl (jE_of_a hb ⟨_, _, _, rfl, e2, by show _ = _; rw [wI_s]⟩)
  have hk := k p l e R s mid args below meth c H1 locs1 cells slots MC MS D a0 bw X ad0 _ ls Qf hc hX hRO hRm hM1 (by rw [hj1]; exact had) hS1 (by rw [hj1]; exact hl) (by rw [hj1]; exact hwl) (by rw [hj1]; exact (jws_t (jws_t (jws_t hws)))) hend
  rw [hj1] at hk
  exact hk
theorem JT_last {M : MT} {d mc ms pc : Nat} {lv : List (Nat × Value)} {st : List Value} {m : JMem} {Q : Option Value → JMem → Prop} {a n : Nat} {i : Int32} {x : Int64} (hd : decode M.2.2.1 pc = .ok (.lastore, 1)) (hb : BS a = (some .long, n)) (h2 : 2 ≤ a) (hN : a < mN m) (hin : vp_in i n) (k : JT M d mc ms (pc + 1) lv st (wL m a i.toNatClampNeg x) Q) : JT M d mc ms pc lv (.long x :: .int i :: .ref a :: st) m Q := by
  intro p l e R s mid args below meth c H locs cells slots MC MS D a0 bw X ad0 ws ls Qf hc hX hRO hRm hM had hS hl hwl hws hend
  obtain ⟨hx, hbz, hml, hown, hts, hrz, hlk, hnm⟩ := id hc
  obtain ⟨tys, q, hK, hP, hD, hq, hadq, hE, hset, hall, hlenw⟩ := jM_open hM h2 hN
  obtain ⟨qa, qe⟩ := q
  dsimp only at hadq hE hset
  have hv := jv_at hadq
  obtain ⟨cA, x0, t0, e1, e2, e3⟩ := jE_a hb hE
  subst e1
  replace e3 : x0 = .inr (.inl (mL m a)) := e3
  subst e3
  simp only [List.map_cons, hv]
  refine va_last hx hbz hK hP hD hS (a - 2) t0 hq e2 hin hd (fun H1 locs1 hP1 hD1 hS1 => ?_)
  obtain ⟨hM1, hj1⟩ := hset H1 _ (wL m a i.toNatClampNeg x) hP1 hD1 (wL_off m a _ x) rfl (jE_of_a hb ⟨_, _, _, rfl, e2, by show _ = _; rw [wL_s]⟩)
  have hk := k p l e R s mid args below meth c H1 locs1 cells slots MC MS D a0 bw X ad0 _ ls Qf hc hX hRO hRm hM1 (by rw [hj1]; exact had) hS1 (by rw [hj1]; exact hl) (by rw [hj1]; exact hwl) (by rw [hj1]; exact (jws_t (jws_t (jws_t hws)))) hend
  rw [hj1] at hk
  exact hk
theorem JT_aald {M : MT} {d mc ms pc : Nat} {lv : List (Nat × Value)} {st : List Value} {m : JMem} {Q : Option Value → JMem → Prop} {a n x : Nat} {i : Int32} {C : String} (hd : decode M.2.2.1 pc = .ok (.aaload, 1)) (hb : BS a = (some (.object C), n)) (h2 : 2 ≤ a) (hN : a < mN m) (hin : vp_in i n) (hr : mR m a i.toNatClampNeg = some x) (k : JT M d mc ms (pc + 1) lv (.ref x :: st) m Q) : JT M d mc ms pc lv (.int i :: .ref a :: st) m Q := by
  intro p l e R s mid args below meth c H locs cells slots MC MS D a0 bw X ad0 ws ls Qf hc hX hRO hRm hM had hS hl hwl hws hend
  obtain ⟨hx, hbz, hml, hown, hts, hrz, hlk, hnm⟩ := id hc
  obtain ⟨tys, q, hK, hP, hD, hq, hadq, hE, hset, hall, hlenw⟩ := jM_open hM h2 hN
  obtain ⟨qa, qe⟩ := q
  dsimp only at hadq hE hset
  have hv := jv_at hadq
  obtain ⟨cA, x0, t0, e1, e2, e3⟩ := jE_a hb hE
  subst e1
  obtain ⟨f, g1, g2⟩ := (show ∃ f, x0 = .inr (.inr (.inr (.inr f))) ∧ ∀ i, jr (jad bw ws) (mR m a i) (f i) from e3)
  subst g1
  have g3 := g2 i.toNatClampNeg
  rw [hr] at g3
  obtain ⟨y, hy1, hy2⟩ := g3
  have hwx : jw (jad bw ws) (.ref x) := (List.getElem?_eq_some_iff.mp hy1).1
  have hk := k p l e R s mid args below meth c H locs cells slots MC MS D a0 bw X ad0 ws ls Qf hc hX hRO hRm hM had hS hl hwl (jws_c hwx (jws_t (jws_t hws))) hend
  simp only [List.map_cons, jv_at hy1] at hk
  simp only [List.map_cons, hv]
  refine va_aldq hx hbz hK hP (a - 2) t0 hq e2 hin hd ?_
  rw [hy2]
  exact hk
theorem JT_aast {M : MT} {d mc ms pc : Nat} {lv : List (Nat × Value)} {st : List Value} {m : JMem} {Q : Option Value → JMem → Prop} {a n x ci : Nat} {i : Int32} {r : vw_C} (hd : decode M.2.2.1 pc = .ok (.aastore, 1)) (hb : BS a = (some (.object r.1), n)) (h2 : 2 ≤ a) (hN : a < mN m) (hin : vp_in i n) (hbx : BS x = (none, ci)) (hx2 : 2 ≤ x) (hxN : x < mN m) (hcl : vwCl[ci]? = some r) (k : JT M d mc ms (pc + 1) lv st (wR m a i.toNatClampNeg x) Q) : JT M d mc ms pc lv (.ref x :: .int i :: .ref a :: st) m Q := by
  intro p l e R s mid args below meth c H locs cells slots MC MS D a0 bw X ad0 ws ls Qf hc hX hRO hRm hM had hS hl hwl hws hend
  obtain ⟨hx, hbz, hml, hown, hts, hrz, hlk, hnm⟩ := id hc
  obtain ⟨tysx, qx, -, -, -, hqx, hadx, hEx, -⟩ := jM_open hM hx2 hxN
  obtain ⟨xa, xe⟩ := qx
  dsimp only at hadx hEx
  obtain ⟨fsx, rx, ex1, -⟩ := jE_o hbx hEx
  subst ex1
  obtain ⟨tys, q, hK, hP, hD, hq, hadq, hE, hset, hall, hlenw⟩ := jM_open hM h2 hN
  obtain ⟨qa, qe⟩ := q
  dsimp only at hadq hE hset
  have hv := jv_at hadq
  obtain ⟨cA, x0, t0, e1, e2, e3⟩ := jE_a hb hE
  subst e1
  obtain ⟨f, g1, g2⟩ := (show ∃ f, x0 = .inr (.inr (.inr (.inr f))) ∧ ∀ i, jr (jad bw ws) (mR m a i) (f i) from e3)
  subst g1
  simp only [List.map_cons, hv, jv_at hadx]
  refine va_astq hx hbz hK hP hD hS (a - 2) t0 (x - 2) ci hq e2 hqx hcl hin hd (fun H1 locs1 hP1 hD1 hS1 => ?_)
  obtain ⟨hM1, hj1⟩ := hset H1 _ (wR m a i.toNatClampNeg x) hP1 hD1 (wR_off m a _ x) rfl (jE_of_a hb ⟨_, _, _, rfl, e2, ⟨_, rfl, fun i9 => by
    rw [wR_s]
    simp only [va_up]
    by_cases h8 : i9 = i.toNatClampNeg
    · rw [if_pos h8, if_pos h8]; exact ⟨xa, hadx, rfl⟩
    · rw [if_neg h8, if_neg h8]; exact g2 i9⟩⟩)
  have hk := k p l e R s mid args below meth c H1 locs1 cells slots MC MS D a0 bw X ad0 _ ls Qf hc hX hRO hRm hM1 (by rw [hj1]; exact had) hS1 (by rw [hj1]; exact hl) (by rw [hj1]; exact hwl) (by rw [hj1]; exact (jws_t (jws_t (jws_t hws)))) hend
  rw [hj1] at hk
  exact hk
theorem JT_alen {M : MT} {d mc ms pc : Nat} {lv : List (Nat × Value)} {st : List Value} {m : JMem} {Q : Option Value → JMem → Prop} {a n : Nat} {ty : FieldType} {v : Int32} (hd : decode M.2.2.1 pc = .ok (.arraylength, 1)) (hb : BS a = (some ty, n)) (h2 : 2 ≤ a) (hN : a < mN m) (hv : Int32.ofNat n = v) (k : JT M d mc ms (pc + 1) lv (.int v :: st) m Q) : JT M d mc ms pc lv (.ref a :: st) m Q := by
  intro p l e R s mid args below meth c H locs cells slots MC MS D a0 bw X ad0 ws ls Qf hc hX hRO hRm hM had hS hl hwl hws hend
  obtain ⟨hx, hbz, hml, hown, hts, hrz, hlk, hnm⟩ := id hc
  obtain ⟨tys, q, hK, hP, hD, hq, hadq, hE, hset, hall, hlenw⟩ := jM_open hM h2 hN
  obtain ⟨qa, qe⟩ := q
  dsimp only at hadq hE hset
  have hva := jv_at hadq
  obtain ⟨cA, x0, t0, e1, e2, e3⟩ := jE_a hb hE
  subst e1
  have hk := k p l e R s mid args below meth c H locs cells slots MC MS D a0 bw X ad0 ws ls Qf hc hX hRO hRm hM had hS hl hwl (jws_c trivial (jws_t hws)) hend
  simp only [List.map_cons, hva]
  exact va_alen hx hbz hK hP (a - 2) t0 hq e2 hv hd hk

theorem jX_at {a0 : Nat} {bw : Nat × Nat} {X : Nat × (Nat → Int32)} {s : State} {ws : va_W} (h : jRO a0 bw X s s.heap) : jv (jad bw ws) (.ref 0) = .ref bw.1 ∧ jv (jad bw ws) (.ref 1) = .ref bw.2 := ⟨rfl, rfl⟩

theorem JT_sld {M : MT} {d mc ms pc : Nat} {lv : List (Nat × Value)} {st : List Value} {m : JMem} {Q : Option Value → JMem → Prop} {i : Int32} (hd : decode M.2.2.1 pc = .ok (.iaload, 1)) (hin : vp_in i (mS m).1) (k : JT M d mc ms (pc + 1) lv (.int ((mS m).2 i.toNatClampNeg) :: st) m Q) : JT M d mc ms pc lv (.int i :: .ref 0 :: st) m Q := by
  intro p l e R s mid args below meth c H locs cells slots MC MS D a0 bw X ad0 ws ls Qf hc hX hRO hRm hM had hS hl hwl hws hend
  obtain ⟨hx, hbz, hml, hown, hts, hrz, hlk, hnm⟩ := id hc
  have hk := k p l e R s mid args below meth c H locs cells slots MC MS D a0 bw X ad0 ws ls Qf hc hX hRO hRm hM had hS hl hwl (jws_c trivial (jws_t (jws_t hws))) hend
  obtain ⟨g1, g2, g3, g4, g5, g9⟩ := hRO
  rw [hX] at hin hk
  exact va_sld hx hbz g1 (by omega) (by show ¬ a0 ≤ bw.1; omega) hS hin hd hk
theorem JT_slen {M : MT} {d mc ms pc : Nat} {lv : List (Nat × Value)} {st : List Value} {m : JMem} {Q : Option Value → JMem → Prop} (hd : decode M.2.2.1 pc = .ok (.arraylength, 1)) (k : JT M d mc ms (pc + 1) lv (.int (Int32.ofNat (mS m).1) :: st) m Q) : JT M d mc ms pc lv (.ref 0 :: st) m Q := by
  intro p l e R s mid args below meth c H locs cells slots MC MS D a0 bw X ad0 ws ls Qf hc hX hRO hRm hM had hS hl hwl hws hend
  obtain ⟨hx, hbz, hml, hown, hts, hrz, hlk, hnm⟩ := id hc
  have hk := k p l e R s mid args below meth c H locs cells slots MC MS D a0 bw X ad0 ws ls Qf hc hX hRO hRm hM had hS hl hwl (jws_c trivial (jws_t hws)) hend
  obtain ⟨g1, g2, g3, g4, g5, g9⟩ := hRO
  rw [hX] at hk
  exact va_slen hx hbz g1 (by omega) (by show ¬ a0 ≤ bw.1; omega) hS hd hk
theorem JT_wld {M : MT} {d mc ms pc : Nat} {lv : List (Nat × Value)} {st : List Value} {m : JMem} {Q : Option Value → JMem → Prop} {i : Int32} (hd : decode M.2.2.1 pc = .ok (.laload, 1)) (hin : vp_in i 17) (k : JT M d mc ms (pc + 1) lv (.long (WV i.toNatClampNeg) :: st) m Q) : JT M d mc ms pc lv (.int i :: .ref 1 :: st) m Q := by
  intro p l e R s mid args below meth c H locs cells slots MC MS D a0 bw X ad0 ws ls Qf hc hX hRO hRm hM had hS hl hwl hws hend
  obtain ⟨hx, hbz, hml, hown, hts, hrz, hlk, hnm⟩ := id hc
  have hk := k p l e R s mid args below meth c H locs cells slots MC MS D a0 bw X ad0 ws ls Qf hc hX hRO hRm hM had hS hl hwl (jws_c trivial (jws_t (jws_t hws))) hend
  obtain ⟨g1, g2, g3, g4, g5, g9⟩ := hRO
  exact va_tl hx hbz g3 hS hin rfl hd hk
theorem JT_wlen {M : MT} {d mc ms pc : Nat} {lv : List (Nat × Value)} {st : List Value} {m : JMem} {Q : Option Value → JMem → Prop} (hd : decode M.2.2.1 pc = .ok (.arraylength, 1)) (k : JT M d mc ms (pc + 1) lv (.int 17 :: st) m Q) : JT M d mc ms pc lv (.ref 1 :: st) m Q := by
  intro p l e R s mid args below meth c H locs cells slots MC MS D a0 bw X ad0 ws ls Qf hc hX hRO hRm hM had hS hl hwl hws hend
  obtain ⟨hx, hbz, hml, hown, hts, hrz, hlk, hnm⟩ := id hc
  have hk := k p l e R s mid args below meth c H locs cells slots MC MS D a0 bw X ad0 ws ls Qf hc hX hRO hRm hM had hS hl hwl (jws_c trivial (jws_t hws)) hend
  obtain ⟨g1, g2, g3, g4, g5, g9⟩ := hRO
  exact va_tlen hx hbz g3 hS rfl hd hk
theorem JT_gets {M : MT} {d mc ms pc : Nat} {lv : List (Nat × Value)} {st : List Value} {m : JMem} {Q : Option Value → JMem → Prop} {idx : Nat} (hd : decode M.2.2.1 pc = .ok (.getstatic idx, 3)) (hlink : Cond.fieldLink M.1 idx "SkinLedger$Tape" "WORDS" "[J" ∈ TS) (k : JT M d mc ms (pc + 3) lv (.ref 1 :: st) m Q) : JT M d mc ms pc lv st m Q := by
  intro p l e R s mid args below meth c H locs cells slots MC MS D a0 bw X ad0 ws ls Qf hc hX hRO hRm hM had hS hl hwl hws hend
  obtain ⟨hx, hbz, hml, hown, hts, hrz, hlk, hnm⟩ := id hc
  have hk := k p l e R s mid args below meth c H locs cells slots MC MS D a0 bw X ad0 ws ls Qf hc hX hRO hRm hM had hS hl hwl (jws_c (show 1 < (jad bw ws).length by rw [jad_len]; omega) hws) hend
  obtain ⟨g1, g2, g3, g4, g5, g9⟩ := hRO
  exact va_gets hx hbz g4 hS hown (hts _ hlink) (fun _ h => h) hd hk
