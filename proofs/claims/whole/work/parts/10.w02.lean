set_option maxRecDepth 20000 in
theorem bX6_hasDealers {p0 : Nat} (hp0 : p0 ∈ PX) (a1 : Int32) (a2 : Int32) (a3 : Int32) {s : SM} {Q : Int32 → SM → Prop} (h : (((vX6_hasBody s p0 a1) = 0 → Q (0 : Int32) s) ∧ (¬ (vX6_hasBody s p0 a1) = 0 → (((vX6_hasBody s p0 a2) = 0 → Q (0 : Int32) s) ∧ (¬ (vX6_hasBody s p0 a2) = 0 → Q (if (vX6_hasKind s p0 a3) = 0 then (0 : Int32) else (1 : Int32)) s))))) : KI MX6_hasDealers 1 [.ref p0, .int a1, .int a2, .int a3] s Q := by
  show BI MX6_hasDealers 1 0 [(0, .ref p0), (1, .int a1), (2, .int a2), (3, .int a3)] s Q
  refine JT_aload_n (q := 0) dX6_hasDealers_0 rfl rfl ?_
  refine JT_iload_n (q := 1) dX6_hasDealers_1 rfl rfl ?_
  refine JS_callVI (M' := MX6_hasBody) (d' := 0) (As := [.int a1]) (rest := []) (P := (fun zv9 wm9 => (vX6_hasBody s p0 a1) = zv9 ∧ s = wm9)) dX6_hasDealers_2 cvX6_63 okX6_hasBody rfl (Nat.le_of_ble_eq_true rfl) (pxB hp0) (px2 hp0) (pxN hp0) hci_6 (Nat.le_of_ble_eq_true rfl) (Nat.le_of_ble_eq_true rfl) (pX6_hasBody hp0 (a1)  ⟨rfl, rfl⟩) (fun zv9 wm9 hq9 => ?_)
  obtain ⟨rfl, rfl⟩ := hq9
  refine JT_if_eq (tgt := 28) dX6_hasDealers_5 (by decide) (fun hc6 => ?_) (fun hc6 => ?_)
  · have h := h.1 hc6
    refine JT_iconst (v := 0) dX6_hasDealers_28 ic_0 ?_
    exact JS_iret dX6_hasDealers_29 rfl (n01 (Or.inl rfl)) h
  · have h := h.2 hc6
    refine JT_aload_n (q := 0) dX6_hasDealers_8 rfl rfl ?_
    refine JT_iload_n (q := 2) dX6_hasDealers_9 rfl rfl ?_
    refine JS_callVI (M' := MX6_hasBody) (d' := 0) (As := [.int a2]) (rest := []) (P := (fun zv9 wm9 => (vX6_hasBody s p0 a2) = zv9 ∧ s = wm9)) dX6_hasDealers_10 cvX6_63 okX6_hasBody rfl (Nat.le_of_ble_eq_true rfl) (pxB hp0) (px2 hp0) (pxN hp0) hci_6 (Nat.le_of_ble_eq_true rfl) (Nat.le_of_ble_eq_true rfl) (pX6_hasBody hp0 (a2)  ⟨rfl, rfl⟩) (fun zv9 wm9 hq9 => ?_)
    obtain ⟨rfl, rfl⟩ := hq9
    refine JT_if_eq (tgt := 28) dX6_hasDealers_13 (by decide) (fun hc4 => ?_) (fun hc4 => ?_)
    · have h := h.1 hc4
      refine JT_iconst (v := 0) dX6_hasDealers_28 ic_0 ?_
      exact JS_iret dX6_hasDealers_29 rfl (n01 (Or.inl rfl)) h
    · have h := h.2 hc4
      refine JT_aload_n (q := 0) dX6_hasDealers_16 rfl rfl ?_
      refine JT_iload_n (q := 3) dX6_hasDealers_17 rfl rfl ?_
      refine JS_callVI (M' := MX6_hasKind) (d' := 0) (As := [.int a3]) (rest := []) (P := (fun zv9 wm9 => (vX6_hasKind s p0 a3) = zv9 ∧ s = wm9)) dX6_hasDealers_18 cvX6_67 okX6_hasKind rfl (Nat.le_of_ble_eq_true rfl) (pxB hp0) (px2 hp0) (pxN hp0) hci_6 (Nat.le_of_ble_eq_true rfl) (Nat.le_of_ble_eq_true rfl) (pX6_hasKind hp0 (a3)  ⟨rfl, rfl⟩) (fun zv9 wm9 hq9 => ?_)
      obtain ⟨rfl, rfl⟩ := hq9
      have hj1 : ∀ v : Int32, v = (if (vX6_hasKind s p0 a3) = 0 then (0 : Int32) else (1 : Int32)) → JT MX6_hasDealers 1 0 0 29 [(0, .ref p0), (1, .int a1), (2, .int a2), (3, .int a3)] [.int v] (std s) (KQ Q) := by
        intro v hv
        subst hv
        exact JS_iret dX6_hasDealers_29 rfl (n01 (i01 (Or.inl rfl) (Or.inr rfl))) h
      refine JT_if_eq (tgt := 28) dX6_hasDealers_21 (by decide) (fun hc2 => ?_) (fun hc2 => ?_)
      · refine JT_iconst (v := 0) dX6_hasDealers_28 ic_0 ?_
        exact hj1 _ (by rw [if_pos hc2])
      · refine JT_iconst (v := 1) dX6_hasDealers_24 ic_1 ?_
        refine JT_goto (tgt := 29) dX6_hasDealers_25 (by decide) ?_
        exact hj1 _ (by rw [if_neg hc2])
set_option maxRecDepth 20000 in
def vX6_hasDealers (s : SM) (p0 : Nat) (a1 : Int32) (a2 : Int32) (a3 : Int32) : Int32 := (if (vX6_hasBody s p0 a1) = 0 then (0 : Int32) else (if (vX6_hasBody s p0 a2) = 0 then (0 : Int32) else (if (vX6_hasKind s p0 a3) = 0 then (0 : Int32) else (1 : Int32))))
set_option maxRecDepth 20000 in
theorem zX6_hasDealers (s : SM) (p0 : Nat) (a1 : Int32) (a2 : Int32) (a3 : Int32) : vX6_hasDealers s p0 a1 a2 a3 = 0 ∨ vX6_hasDealers s p0 a1 a2 a3 = 1 := (i01 (Or.inl rfl) (i01 (Or.inl rfl) (i01 (Or.inl rfl) (Or.inr rfl))))
set_option maxRecDepth 20000 in
theorem pX6_hasDealers {p0 : Nat} (hp0 : p0 ∈ PX) (a1 : Int32) (a2 : Int32) (a3 : Int32) {s : SM} {Q : Int32 → SM → Prop} (h : Q (vX6_hasDealers s p0 a1 a2 a3) s) : KI MX6_hasDealers 1 [.ref p0, .int a1, .int a2, .int a3] s Q := by
  refine bX6_hasDealers hp0 a1 a2 a3 ?_
  unfold vX6_hasDealers at h
  refine ⟨fun c => ?_, fun c => ?_⟩
  · try simp only [if_pos c] at h
    first | exact h | contradiction
  · try simp only [if_neg c] at h
    refine ⟨fun c => ?_, fun c => ?_⟩
    · try simp only [if_pos c] at h
      first | exact h | contradiction
    · try simp only [if_neg c] at h
      first | exact h | contradiction
set_option maxRecDepth 20000 in
theorem bX6_sortTold  {s : SM} {Q : Int32 → SM → Prop} (h : (((vX9_says s (28270047624193380 : Int64)) = 0 → (((vX9_says s (114767640814948 : Int64)) = 0 → (((vX9_says s (439721161573 : Int64)) = 0 → Q (if (vX9_says s (457135713908 : Int64)) = 0 then (0 : Int32) else (4 : Int32)) s) ∧ (¬ (vX9_says s (439721161573 : Int64)) = 0 → Q (3 : Int32) s))) ∧ (¬ (vX9_says s (114767640814948 : Int64)) = 0 → Q (2 : Int32) s))) ∧ (¬ (vX9_says s (28270047624193380 : Int64)) = 0 → Q (1 : Int32) s))) : KI MX6_sortTold 1 [.ref 3] s Q := by
  show BI MX6_sortTold 1 0 [(0, .ref 3)] s Q
  refine JT_aload_n (q := 0) dX6_sortTold_0 rfl rfl ?_
  refine JT_ldc2 dX6_sortTold_1 kwX6_155 ?_
  refine JS_callVI (M' := MX9_says) (d' := 0) (As := [.long (28270047624193380 : Int64)]) (rest := []) (P := (fun zv9 wm9 => (vX9_says s (28270047624193380 : Int64)) = zv9 ∧ s = wm9)) dX6_sortTold_4 cvX6_100 okX9_says rfl (Nat.le_of_ble_eq_true rfl) BS_3 (Nat.le_of_ble_eq_true rfl) (Nat.le_of_ble_eq_true rfl) hci_9 (Nat.le_of_ble_eq_true rfl) (Nat.le_of_ble_eq_true rfl) (pX9_says  ((28270047624193380 : Int64))  ⟨rfl, rfl⟩) (fun zv9 wm9 hq9 => ?_)
  obtain ⟨rfl, rfl⟩ := hq9
  refine JT_if_eq (tgt := 12) dX6_sortTold_7 (by decide) (fun hc8 => ?_) (fun hc8 => ?_)
  · have h := h.1 hc8
    refine JT_aload_n (q := 0) dX6_sortTold_12 rfl rfl ?_
    refine JT_ldc2 dX6_sortTold_13 kwX6_157 ?_
    refine JS_callVI (M' := MX9_says) (d' := 0) (As := [.long (114767640814948 : Int64)]) (rest := []) (P := (fun zv9 wm9 => (vX9_says s (114767640814948 : Int64)) = zv9 ∧ s = wm9)) dX6_sortTold_16 cvX6_100 okX9_says rfl (Nat.le_of_ble_eq_true rfl) BS_3 (Nat.le_of_ble_eq_true rfl) (Nat.le_of_ble_eq_true rfl) hci_9 (Nat.le_of_ble_eq_true rfl) (Nat.le_of_ble_eq_true rfl) (pX9_says  ((114767640814948 : Int64))  ⟨rfl, rfl⟩) (fun zv9 wm9 hq9 => ?_)
    obtain ⟨rfl, rfl⟩ := hq9
    refine JT_if_eq (tgt := 24) dX6_sortTold_19 (by decide) (fun hc6 => ?_) (fun hc6 => ?_)
    · have h := h.1 hc6
      refine JT_aload_n (q := 0) dX6_sortTold_24 rfl rfl ?_
      refine JT_ldc2 dX6_sortTold_25 kwX6_159 ?_
      refine JS_callVI (M' := MX9_says) (d' := 0) (As := [.long (439721161573 : Int64)]) (rest := []) (P := (fun zv9 wm9 => (vX9_says s (439721161573 : Int64)) = zv9 ∧ s = wm9)) dX6_sortTold_28 cvX6_100 okX9_says rfl (Nat.le_of_ble_eq_true rfl) BS_3 (Nat.le_of_ble_eq_true rfl) (Nat.le_of_ble_eq_true rfl) hci_9 (Nat.le_of_ble_eq_true rfl) (Nat.le_of_ble_eq_true rfl) (pX9_says  ((439721161573 : Int64))  ⟨rfl, rfl⟩) (fun zv9 wm9 hq9 => ?_)
      obtain ⟨rfl, rfl⟩ := hq9
      refine JT_if_eq (tgt := 36) dX6_sortTold_31 (by decide) (fun hc4 => ?_) (fun hc4 => ?_)
      · have h := h.1 hc4
        refine JT_aload_n (q := 0) dX6_sortTold_36 rfl rfl ?_
        refine JT_ldc2 dX6_sortTold_37 kwX6_161 ?_
        refine JS_callVI (M' := MX9_says) (d' := 0) (As := [.long (457135713908 : Int64)]) (rest := []) (P := (fun zv9 wm9 => (vX9_says s (457135713908 : Int64)) = zv9 ∧ s = wm9)) dX6_sortTold_40 cvX6_100 okX9_says rfl (Nat.le_of_ble_eq_true rfl) BS_3 (Nat.le_of_ble_eq_true rfl) (Nat.le_of_ble_eq_true rfl) hci_9 (Nat.le_of_ble_eq_true rfl) (Nat.le_of_ble_eq_true rfl) (pX9_says  ((457135713908 : Int64))  ⟨rfl, rfl⟩) (fun zv9 wm9 hq9 => ?_)
        obtain ⟨rfl, rfl⟩ := hq9
        have hj1 : ∀ v : Int32, v = (if (vX9_says s (457135713908 : Int64)) = 0 then (0 : Int32) else (4 : Int32)) → JT MX6_sortTold 1 0 0 51 [(0, .ref 3)] [.int v] (std s) (KQ Q) := by
          intro v hv
          subst hv
          exact JS_iret dX6_sortTold_51 rfl rfl h
        refine JT_if_eq (tgt := 50) dX6_sortTold_43 (by decide) (fun hc2 => ?_) (fun hc2 => ?_)
        · refine JT_iconst (v := 0) dX6_sortTold_50 ic_0 ?_
          exact hj1 _ (by rw [if_pos hc2])
        · refine JT_iconst (v := 4) dX6_sortTold_46 ic_4 ?_
          refine JT_goto (tgt := 51) dX6_sortTold_47 (by decide) ?_
          exact hj1 _ (by rw [if_neg hc2])
      · have h := h.2 hc4
        refine JT_iconst (v := 3) dX6_sortTold_34 ic_3 ?_
        exact JS_iret dX6_sortTold_35 rfl rfl h
    · have h := h.2 hc6
      refine JT_iconst (v := 2) dX6_sortTold_22 ic_2 ?_
      exact JS_iret dX6_sortTold_23 rfl rfl h
  · have h := h.2 hc8
    refine JT_iconst (v := 1) dX6_sortTold_10 ic_1 ?_
    exact JS_iret dX6_sortTold_11 rfl rfl h
set_option maxRecDepth 20000 in
def vX6_sortTold (s : SM)  : Int32 := (if (vX9_says s (28270047624193380 : Int64)) = 0 then (if (vX9_says s (114767640814948 : Int64)) = 0 then (if (vX9_says s (439721161573 : Int64)) = 0 then (if (vX9_says s (457135713908 : Int64)) = 0 then (0 : Int32) else (4 : Int32)) else (3 : Int32)) else (2 : Int32)) else (1 : Int32))
set_option maxRecDepth 20000 in
theorem pX6_sortTold  {s : SM} {Q : Int32 → SM → Prop} (h : Q (vX6_sortTold s ) s) : KI MX6_sortTold 1 [.ref 3] s Q := by
  refine bX6_sortTold  ?_
  unfold vX6_sortTold at h
  refine ⟨fun c => ?_, fun c => ?_⟩
  · try simp only [if_pos c] at h
    refine ⟨fun c => ?_, fun c => ?_⟩
    · try simp only [if_pos c] at h
      refine ⟨fun c => ?_, fun c => ?_⟩
      · try simp only [if_pos c] at h
        first | exact h | contradiction
      · try simp only [if_neg c] at h
        first | exact h | contradiction
    · try simp only [if_neg c] at h
      first | exact h | contradiction
  · try simp only [if_neg c] at h
    first | exact h | contradiction
set_option maxRecDepth 20000 in
theorem bX7_offer (a1 : Int32) (a2 : Int32) (a3 : Int32) {s : SM} {Q : SM → Prop} (h : (((vX7_isBetter s a1 a3) = 0 → Q s) ∧ (¬ (vX7_isBetter s a1 a3) = 0 → (∀ s1, s1 = (cI s 219 (va_cpy (gI s 220) (gI s 219) ((0 : Int32)).toNatClampNeg ((0 : Int32)).toNatClampNeg ((5 : Int32)).toNatClampNeg)) → Q (pI (pI (pI s1 218 1 a1) 218 3 a2) 218 2 a3))))) : KV MX7_offer 1 [.ref 218, .int a1, .int a2, .int a3] s Q := by
  show BV MX7_offer 1 0 [(0, .ref 218), (1, .int a1), (2, .int a2), (3, .int a3)] s Q
  refine JT_aload_n (q := 0) dX7_offer_0 rfl rfl ?_
  refine JT_iload_n (q := 1) dX7_offer_1 rfl rfl ?_
  refine JT_iload_n (q := 3) dX7_offer_2 rfl rfl ?_
  refine JS_callVI (M' := MX7_isBetter) (d' := 0) (As := [.int a1, .int a3]) (rest := []) (P := (fun zv9 wm9 => (vX7_isBetter s a1 a3) = zv9 ∧ s = wm9)) dX7_offer_3 cvX7_111 okX7_isBetter rfl (Nat.le_of_ble_eq_true rfl) BS_218 (Nat.le_of_ble_eq_true rfl) (Nat.le_of_ble_eq_true rfl) hci_7 (Nat.le_of_ble_eq_true rfl) (Nat.le_of_ble_eq_true rfl) (pX7_isBetter  (a1) (a3)  ⟨rfl, rfl⟩) (fun zv9 wm9 hq9 => ?_)
  obtain ⟨rfl, rfl⟩ := hq9
  refine JT_if_eq (tgt := 38) dX7_offer_6 (by decide) (fun hc2 => ?_) (fun hc2 => ?_)
  · have h := h.1 hc2
    exact JS_vret dX7_offer_38 rfl h
  · have h := h.2 hc2
    refine JT_aload_n (q := 0) dX7_offer_9 rfl rfl ?_
    refine JS_getR (x := 220) dX7_offer_10 flX7_15 BS_218 (Nat.le_of_ble_eq_true rfl) (Nat.le_of_ble_eq_true rfl) (Or.inr ⟨_, ct_7_5⟩) RF_218_5 ?_
    refine JT_iconst (v := 0) dX7_offer_13 ic_0 ?_
    refine JT_aload_n (q := 0) dX7_offer_14 rfl rfl ?_
    refine JS_getR (x := 219) dX7_offer_15 flX7_9 BS_218 (Nat.le_of_ble_eq_true rfl) (Nat.le_of_ble_eq_true rfl) (Or.inr ⟨_, ct_7_0⟩) RF_218_0 ?_
    refine JT_iconst (v := 0) dX7_offer_18 ic_0 ?_
    refine JT_iconst (v := 5) dX7_offer_19 ic_5 ?_
    refine JS_copyI (d2 := 0) (na := 5) (nb := 5) dX7_offer_20 mlX7_34 BS_219 (Nat.le_of_ble_eq_true rfl) (Nat.le_of_ble_eq_true rfl) BS_220 (Nat.le_of_ble_eq_true rfl) (Nat.le_of_ble_eq_true rfl) (by decide) (by decide) (by decide) (by decide) (by decide) (Nat.le_of_ble_eq_true rfl) rfl ?_
    obtain ⟨s1, hs1⟩ : ∃ z, z = (cI s 219 (va_cpy (gI s 220) (gI s 219) ((0 : Int32)).toNatClampNeg ((0 : Int32)).toNatClampNeg ((5 : Int32)).toNatClampNeg)) := ⟨_, rfl⟩
    replace h := h s1 hs1
    rw [← hs1]
    refine JT_aload_n (q := 0) dX7_offer_23 rfl rfl ?_
    refine JT_iload_n (q := 1) dX7_offer_24 rfl rfl ?_
    refine JS_putI dX7_offer_25 flX7_61 BS_218 (Nat.le_of_ble_eq_true rfl) (Nat.le_of_ble_eq_true rfl) ct_7_1 ?_
    refine JT_aload_n (q := 0) dX7_offer_28 rfl rfl ?_
    refine JT_iload_n (q := 2) dX7_offer_29 rfl rfl ?_
    refine JS_putI dX7_offer_30 flX7_82 BS_218 (Nat.le_of_ble_eq_true rfl) (Nat.le_of_ble_eq_true rfl) ct_7_3 ?_
    refine JT_aload_n (q := 0) dX7_offer_33 rfl rfl ?_
    refine JT_iload_n (q := 3) dX7_offer_34 rfl rfl ?_
    refine JS_putI dX7_offer_35 flX7_79 BS_218 (Nat.le_of_ble_eq_true rfl) (Nat.le_of_ble_eq_true rfl) ct_7_2 ?_
    exact JS_vret dX7_offer_38 rfl h
set_option maxRecDepth 20000 in
def mX7_offer (s : SM) (a1 : Int32) (a2 : Int32) (a3 : Int32) : SM := (if (vX7_isBetter s a1 a3) = 0 then s else ((fun (s1 : SM) => (pI (pI (pI s1 218 1 a1) 218 3 a2) 218 2 a3)) (cI s 219 (va_cpy (gI s 220) (gI s 219) ((0 : Int32)).toNatClampNeg ((0 : Int32)).toNatClampNeg ((5 : Int32)).toNatClampNeg))))
set_option maxRecDepth 20000 in
theorem pX7_offer (a1 : Int32) (a2 : Int32) (a3 : Int32) {s : SM} {Q : SM → Prop} (h : Q (mX7_offer s a1 a2 a3)) : KV MX7_offer 1 [.ref 218, .int a1, .int a2, .int a3] s Q := by
  refine bX7_offer a1 a2 a3 ?_
  unfold mX7_offer at h
  refine ⟨fun c => ?_, fun c => ?_⟩
  · try simp only [if_pos c] at h
    first | exact h | contradiction
  · try simp only [if_neg c] at h
    intro s1 e9
    subst e9
    first | exact h | contradiction
set_option maxRecDepth 20000 in
theorem bX9_isAllRead  {s : SM} {Q : Int32 → SM → Prop} (h : (((gI s 3 1) ≤ (600 : Int32) → Q (1 : Int32) s) ∧ (¬ (gI s 3 1) ≤ (600 : Int32) → Q (if (vX9_refuse s (1 : Int32)) = 0 then (0 : Int32) else (1 : Int32)) (mX9_refuse s (1 : Int32))))) : KI MX9_isAllRead 1 [.ref 3] s Q := by
  show BI MX9_isAllRead 1 0 [(0, .ref 3)] s Q
  refine JT_aload_n (q := 0) dX9_isAllRead_0 rfl rfl ?_
  refine JS_getI dX9_isAllRead_1 flX9_15 BS_3 (Nat.le_of_ble_eq_true rfl) (Nat.le_of_ble_eq_true rfl) (Or.inl ct_9_1) ?_
  refine JT_sipush (v := 600) dX9_isAllRead_4 sp_600 ?_
  refine JT_icmp_le (tgt := 18) dX9_isAllRead_7 (by decide) (fun hc4 => ?_) (fun hc4 => ?_)
  · have h := h.1 hc4
    refine JT_iconst (v := 1) dX9_isAllRead_18 ic_1 ?_
    refine JT_goto (tgt := 23) dX9_isAllRead_19 (by decide) ?_
    exact JS_iret dX9_isAllRead_23 rfl (n01 (Or.inr rfl)) h
  · have h := h.2 hc4
    refine JT_aload_n (q := 0) dX9_isAllRead_10 rfl rfl ?_
    refine JT_iconst (v := 1) dX9_isAllRead_11 ic_1 ?_
    refine JS_callVI (M' := MX9_refuse) (d' := 0) (As := [.int (1 : Int32)]) (rest := []) (P := (fun zv9 wm9 => (vX9_refuse s (1 : Int32)) = zv9 ∧ (mX9_refuse s (1 : Int32)) = wm9)) dX9_isAllRead_12 cvX9_63 okX9_refuse rfl (Nat.le_of_ble_eq_true rfl) BS_3 (Nat.le_of_ble_eq_true rfl) (Nat.le_of_ble_eq_true rfl) hci_9 (Nat.le_of_ble_eq_true rfl) (Nat.le_of_ble_eq_true rfl) (pX9_refuse  ((1 : Int32))  ⟨rfl, rfl⟩) (fun zv9 wm9 hq9 => ?_)
    obtain ⟨rfl, rfl⟩ := hq9
    have hj1 : ∀ v : Int32, v = (if (vX9_refuse s (1 : Int32)) = 0 then (0 : Int32) else (1 : Int32)) → JT MX9_isAllRead 1 0 0 23 [(0, .ref 3)] [.int v] (std (mX9_refuse s (1 : Int32))) (KQ Q) := by
      intro v hv
      subst hv
      exact JS_iret dX9_isAllRead_23 rfl (n01 (i01 (Or.inl rfl) (Or.inr rfl))) h
    refine JT_if_eq (tgt := 22) dX9_isAllRead_15 (by decide) (fun hc2 => ?_) (fun hc2 => ?_)
    · refine JT_iconst (v := 0) dX9_isAllRead_22 ic_0 ?_
      exact hj1 _ (by rw [if_pos hc2])
    · refine JT_iconst (v := 1) dX9_isAllRead_18 ic_1 ?_
      refine JT_goto (tgt := 23) dX9_isAllRead_19 (by decide) ?_
      exact hj1 _ (by rw [if_neg hc2])
set_option maxRecDepth 20000 in
def vX9_isAllRead (s : SM)  : Int32 := (if (gI s 3 1) ≤ (600 : Int32) then (1 : Int32) else (if (vX9_refuse s (1 : Int32)) = 0 then (0 : Int32) else (1 : Int32)))
set_option maxRecDepth 20000 in
def mX9_isAllRead (s : SM)  : SM := (if (gI s 3 1) ≤ (600 : Int32) then s else (mX9_refuse s (1 : Int32)))
set_option maxRecDepth 20000 in
theorem zX9_isAllRead (s : SM)  : vX9_isAllRead s  = 0 ∨ vX9_isAllRead s  = 1 := (i01 (Or.inr rfl) (i01 (Or.inl rfl) (Or.inr rfl)))
set_option maxRecDepth 20000 in
theorem pX9_isAllRead  {s : SM} {Q : Int32 → SM → Prop} (h : Q (vX9_isAllRead s ) (mX9_isAllRead s )) : KI MX9_isAllRead 1 [.ref 3] s Q := by
  refine bX9_isAllRead  ?_
  unfold vX9_isAllRead mX9_isAllRead at h
  refine ⟨fun c => ?_, fun c => ?_⟩
  · try simp only [if_pos c] at h
    first | exact h | contradiction
  · try simp only [if_neg c] at h
    first | exact h | contradiction
set_option maxRecDepth 20000 in
theorem bX9_isStop  {s : SM} {Q : Int32 → SM → Prop} (h : (((gI s 3 9) = (3 : Int32) → Q (1 : Int32) s) ∧ (¬ (gI s 3 9) = (3 : Int32) → Q (if (vX9_refuse s (1 : Int32)) = 0 then (0 : Int32) else (1 : Int32)) (mX9_refuse s (1 : Int32))))) : KI MX9_isStop 1 [.ref 3] s Q := by
  show BI MX9_isStop 1 0 [(0, .ref 3)] s Q
  refine JT_aload_n (q := 0) dX9_isStop_0 rfl rfl ?_
  refine JS_getI dX9_isStop_1 flX9_44 BS_3 (Nat.le_of_ble_eq_true rfl) (Nat.le_of_ble_eq_true rfl) (Or.inl ct_9_9) ?_
  refine JT_iconst (v := 3) dX9_isStop_4 ic_3 ?_
  refine JT_icmp_eq (tgt := 16) dX9_isStop_5 (by decide) (fun hc4 => ?_) (fun hc4 => ?_)
  · have h := h.1 hc4
    refine JT_iconst (v := 1) dX9_isStop_16 ic_1 ?_
    refine JT_goto (tgt := 21) dX9_isStop_17 (by decide) ?_
    exact JS_iret dX9_isStop_21 rfl (n01 (Or.inr rfl)) h
  · have h := h.2 hc4
    refine JT_aload_n (q := 0) dX9_isStop_8 rfl rfl ?_
    refine JT_iconst (v := 1) dX9_isStop_9 ic_1 ?_
    refine JS_callVI (M' := MX9_refuse) (d' := 0) (As := [.int (1 : Int32)]) (rest := []) (P := (fun zv9 wm9 => (vX9_refuse s (1 : Int32)) = zv9 ∧ (mX9_refuse s (1 : Int32)) = wm9)) dX9_isStop_10 cvX9_63 okX9_refuse rfl (Nat.le_of_ble_eq_true rfl) BS_3 (Nat.le_of_ble_eq_true rfl) (Nat.le_of_ble_eq_true rfl) hci_9 (Nat.le_of_ble_eq_true rfl) (Nat.le_of_ble_eq_true rfl) (pX9_refuse  ((1 : Int32))  ⟨rfl, rfl⟩) (fun zv9 wm9 hq9 => ?_)
    obtain ⟨rfl, rfl⟩ := hq9
    have hj1 : ∀ v : Int32, v = (if (vX9_refuse s (1 : Int32)) = 0 then (0 : Int32) else (1 : Int32)) → JT MX9_isStop 1 0 0 21 [(0, .ref 3)] [.int v] (std (mX9_refuse s (1 : Int32))) (KQ Q) := by
      intro v hv
      subst hv
      exact JS_iret dX9_isStop_21 rfl (n01 (i01 (Or.inl rfl) (Or.inr rfl))) h
    refine JT_if_eq (tgt := 20) dX9_isStop_13 (by decide) (fun hc2 => ?_) (fun hc2 => ?_)
    · refine JT_iconst (v := 0) dX9_isStop_20 ic_0 ?_
      exact hj1 _ (by rw [if_pos hc2])
    · refine JT_iconst (v := 1) dX9_isStop_16 ic_1 ?_
      refine JT_goto (tgt := 21) dX9_isStop_17 (by decide) ?_
      exact hj1 _ (by rw [if_neg hc2])
set_option maxRecDepth 20000 in
def vX9_isStop (s : SM)  : Int32 := (if (gI s 3 9) = (3 : Int32) then (1 : Int32) else (if (vX9_refuse s (1 : Int32)) = 0 then (0 : Int32) else (1 : Int32)))
set_option maxRecDepth 20000 in
def mX9_isStop (s : SM)  : SM := (if (gI s 3 9) = (3 : Int32) then s else (mX9_refuse s (1 : Int32)))
set_option maxRecDepth 20000 in
theorem zX9_isStop (s : SM)  : vX9_isStop s  = 0 ∨ vX9_isStop s  = 1 := (i01 (Or.inr rfl) (i01 (Or.inl rfl) (Or.inr rfl)))
set_option maxRecDepth 20000 in
theorem pX9_isStop  {s : SM} {Q : Int32 → SM → Prop} (h : Q (vX9_isStop s ) (mX9_isStop s )) : KI MX9_isStop 1 [.ref 3] s Q := by
  refine bX9_isStop  ?_
  unfold vX9_isStop mX9_isStop at h
  refine ⟨fun c => ?_, fun c => ?_⟩
  · try simp only [if_pos c] at h
    first | exact h | contradiction
  · try simp only [if_neg c] at h
    first | exact h | contradiction
set_option maxRecDepth 20000 in
theorem bX9_readRun_14 (a1 : Int32) (a2 : Int32) {s : SM} {Q : SM → Prop} (h : (((gI s 3 1) ≤ (gI s 3 7) → BV MX9_readRun 1 138 [(0, .ref 3), (1, .int a1), (2, .int a2)] s Q) ∧ (¬ (gI s 3 1) ≤ (gI s 3 7) → rX9_byteOr s (gI s 3 7) (0 : Int32) ∧ ((¬ (vX9_isLetter s (vX9_byteOr s (gI s 3 7) (0 : Int32))) = 0 → BV MX9_readRun 1 55 [(0, .ref 3), (1, .int a1), (2, .int a2)] s Q) ∧ ((vX9_isLetter s (vX9_byteOr s (gI s 3 7) (0 : Int32))) = 0 → rX9_byteOr s (gI s 3 7) (0 : Int32) ∧ (((vX9_isDigit s (vX9_byteOr s (gI s 3 7) (0 : Int32))) = 0 → BV MX9_readRun 1 138 [(0, .ref 3), (1, .int a1), (2, .int a2)] s Q) ∧ (¬ (vX9_isDigit s (vX9_byteOr s (gI s 3 7) (0 : Int32))) = 0 → BV MX9_readRun 1 55 [(0, .ref 3), (1, .int a1), (2, .int a2)] s Q))))))) : BV MX9_readRun 1 14 [(0, .ref 3), (1, .int a1), (2, .int a2)] s Q := by
  refine JT_aload_n (q := 0) dX9_readRun_14 rfl rfl ?_
  refine JS_getI dX9_readRun_15 flX9_19 BS_3 (Nat.le_of_ble_eq_true rfl) (Nat.le_of_ble_eq_true rfl) (Or.inl ct_9_7) ?_
  refine JT_aload_n (q := 0) dX9_readRun_18 rfl rfl ?_
  refine JS_getI dX9_readRun_19 flX9_15 BS_3 (Nat.le_of_ble_eq_true rfl) (Nat.le_of_ble_eq_true rfl) (Or.inl ct_9_1) ?_
  refine JT_icmp_ge (tgt := 138) dX9_readRun_22 (by decide) (fun hc7 => ?_) (fun hc7 => ?_)
  · have h := h.1 hc7
    exact JT_sub [0, 1, 2] rfl h
  · have h := h.2 hc7
    refine JT_aload_n (q := 0) dX9_readRun_25 rfl rfl ?_
    refine JT_aload_n (q := 0) dX9_readRun_26 rfl rfl ?_
    refine JS_getI dX9_readRun_27 flX9_19 BS_3 (Nat.le_of_ble_eq_true rfl) (Nat.le_of_ble_eq_true rfl) (Or.inl ct_9_7) ?_
    refine JT_iconst (v := 0) dX9_readRun_30 ic_0 ?_
    obtain ⟨o6, h⟩ := h
    refine JS_callVI (M' := MX9_byteOr) (d' := 0) (As := [.int (gI s 3 7), .int (0 : Int32)]) (rest := []) (P := (fun zv9 wm9 => (vX9_byteOr s (gI s 3 7) (0 : Int32)) = zv9 ∧ s = wm9)) dX9_readRun_31 cvX9_31 okX9_byteOr rfl (Nat.le_of_ble_eq_true rfl) BS_3 (Nat.le_of_ble_eq_true rfl) (Nat.le_of_ble_eq_true rfl) hci_9 (Nat.le_of_ble_eq_true rfl) (Nat.le_of_ble_eq_true rfl) (pX9_byteOr  ((gI s 3 7)) ((0 : Int32)) o6 ⟨rfl, rfl⟩) (fun zv9 wm9 hq9 => ?_)
    obtain ⟨rfl, rfl⟩ := hq9
    refine JS_callSI (M' := MX9_isLetter) (d' := 0) (As := [.int (vX9_byteOr s (gI s 3 7) (0 : Int32))]) (rest := []) (P := (fun zv9 wm9 => (vX9_isLetter s (vX9_byteOr s (gI s 3 7) (0 : Int32))) = zv9 ∧ s = wm9)) dX9_readRun_34 cvX9_47 okX9_isLetter rfl (Nat.le_of_ble_eq_true rfl) (Nat.le_of_ble_eq_true rfl) (Nat.le_of_ble_eq_true rfl) (pX9_isLetter  ((vX9_byteOr s (gI s 3 7) (0 : Int32)))  ⟨rfl, rfl⟩) (fun zv9 wm9 hq9 => ?_)
    obtain ⟨rfl, rfl⟩ := hq9
    refine JT_if_ne (tgt := 55) dX9_readRun_37 (by decide) (fun hc4 => ?_) (fun hc4 => ?_)
    · have h := h.1 hc4
      exact JT_sub [0, 1, 2] rfl h
    · have h := h.2 hc4
      refine JT_aload_n (q := 0) dX9_readRun_40 rfl rfl ?_
      refine JT_aload_n (q := 0) dX9_readRun_41 rfl rfl ?_
      refine JS_getI dX9_readRun_42 flX9_19 BS_3 (Nat.le_of_ble_eq_true rfl) (Nat.le_of_ble_eq_true rfl) (Or.inl ct_9_7) ?_
      refine JT_iconst (v := 0) dX9_readRun_45 ic_0 ?_
      obtain ⟨o3, h⟩ := h
      refine JS_callVI (M' := MX9_byteOr) (d' := 0) (As := [.int (gI s 3 7), .int (0 : Int32)]) (rest := []) (P := (fun zv9 wm9 => (vX9_byteOr s (gI s 3 7) (0 : Int32)) = zv9 ∧ s = wm9)) dX9_readRun_46 cvX9_31 okX9_byteOr rfl (Nat.le_of_ble_eq_true rfl) BS_3 (Nat.le_of_ble_eq_true rfl) (Nat.le_of_ble_eq_true rfl) hci_9 (Nat.le_of_ble_eq_true rfl) (Nat.le_of_ble_eq_true rfl) (pX9_byteOr  ((gI s 3 7)) ((0 : Int32)) o3 ⟨rfl, rfl⟩) (fun zv9 wm9 hq9 => ?_)
      obtain ⟨rfl, rfl⟩ := hq9
      refine JS_callSI (M' := MX9_isDigit) (d' := 0) (As := [.int (vX9_byteOr s (gI s 3 7) (0 : Int32))]) (rest := []) (P := (fun zv9 wm9 => (vX9_isDigit s (vX9_byteOr s (gI s 3 7) (0 : Int32))) = zv9 ∧ s = wm9)) dX9_readRun_49 cvX9_50 okX9_isDigit rfl (Nat.le_of_ble_eq_true rfl) (Nat.le_of_ble_eq_true rfl) (Nat.le_of_ble_eq_true rfl) (pX9_isDigit  ((vX9_byteOr s (gI s 3 7) (0 : Int32)))  ⟨rfl, rfl⟩) (fun zv9 wm9 hq9 => ?_)
      obtain ⟨rfl, rfl⟩ := hq9
      refine JT_if_eq (tgt := 138) dX9_readRun_52 (by decide) (fun hc1 => ?_) (fun hc1 => ?_)
      · have h := h.1 hc1
        exact JT_sub [0, 1, 2] rfl h
      · have h := h.2 hc1
        exact JT_sub [0, 1, 2] rfl h
set_option maxRecDepth 20000 in
theorem bX9_readRun_55 (a1 : Int32) (a2 : Int32) {s : SM} {Q : SM → Prop} (h : rX9_byteOr s (gI s 3 7) (0 : Int32) ∧ (∀ s1, s1 = (pI (pL s 3 4 (((gL s 3 4) <<< (((8 : Int32)).toInt64 &&& 63)) ||| ((vX9_byteOr s (gI s 3 7) (0 : Int32))).toInt64)) 3 5 (((gI (pL s 3 4 (((gL s 3 4) <<< (((8 : Int32)).toInt64 &&& 63)) ||| ((vX9_byteOr s (gI s 3 7) (0 : Int32))).toInt64)) 3 5) * (10 : Int32)) + ((vX9_byteOr s (gI s 3 7) (0 : Int32)) - (48 : Int32)))) → BV MX9_readRun 1 14 [(0, .ref 3), (1, .int (a1 + (if (vX9_isLetter s (vX9_byteOr s (gI s 3 7) (0 : Int32))) = 0 then (0 : Int32) else (1 : Int32)))), (2, .int (a2 + (if (vX9_isDigit s (vX9_byteOr s (gI s 3 7) (0 : Int32))) = 0 then (0 : Int32) else (1 : Int32))))] (pI s1 3 7 ((gI s1 3 7) + (1 : Int32))) Q)) : BV MX9_readRun 1 55 [(0, .ref 3), (1, .int a1), (2, .int a2)] s Q := by
  refine JT_aload_n (q := 0) dX9_readRun_55 rfl rfl ?_
  refine JT_aload_n (q := 0) dX9_readRun_56 rfl rfl ?_
  refine JS_getI dX9_readRun_57 flX9_19 BS_3 (Nat.le_of_ble_eq_true rfl) (Nat.le_of_ble_eq_true rfl) (Or.inl ct_9_7) ?_
  refine JT_iconst (v := 0) dX9_readRun_60 ic_0 ?_
  obtain ⟨o8, h⟩ := h
  refine JS_callVI (M' := MX9_byteOr) (d' := 0) (As := [.int (gI s 3 7), .int (0 : Int32)]) (rest := []) (P := (fun zv9 wm9 => (vX9_byteOr s (gI s 3 7) (0 : Int32)) = zv9 ∧ s = wm9)) dX9_readRun_61 cvX9_31 okX9_byteOr rfl (Nat.le_of_ble_eq_true rfl) BS_3 (Nat.le_of_ble_eq_true rfl) (Nat.le_of_ble_eq_true rfl) hci_9 (Nat.le_of_ble_eq_true rfl) (Nat.le_of_ble_eq_true rfl) (pX9_byteOr  ((gI s 3 7)) ((0 : Int32)) o8 ⟨rfl, rfl⟩) (fun zv9 wm9 hq9 => ?_)
  obtain ⟨rfl, rfl⟩ := hq9
  refine JT_istore_n (lv' := [(3, .int (vX9_byteOr s (gI s 3 7) (0 : Int32))), (0, .ref 3), (1, .int a1), (2, .int a2)]) dX9_readRun_64 rfl (Nat.le_of_ble_eq_true rfl) rfl ?_
  refine JT_iload_n (q := 2) dX9_readRun_65 rfl rfl ?_
  refine JT_iload_n (q := 0) dX9_readRun_66 rfl rfl ?_
  refine JS_callSI (M' := MX9_isLetter) (d' := 0) (As := [.int (vX9_byteOr s (gI s 3 7) (0 : Int32))]) (rest := [.int a1]) (P := (fun zv9 wm9 => (vX9_isLetter s (vX9_byteOr s (gI s 3 7) (0 : Int32))) = zv9 ∧ s = wm9)) dX9_readRun_67 cvX9_47 okX9_isLetter rfl (Nat.le_of_ble_eq_true rfl) (Nat.le_of_ble_eq_true rfl) (Nat.le_of_ble_eq_true rfl) (pX9_isLetter  ((vX9_byteOr s (gI s 3 7) (0 : Int32)))  ⟨rfl, rfl⟩) (fun zv9 wm9 hq9 => ?_)
  obtain ⟨rfl, rfl⟩ := hq9
  have hj5 : ∀ v : Int32, v = (if (vX9_isLetter s (vX9_byteOr s (gI s 3 7) (0 : Int32))) = 0 then (0 : Int32) else (1 : Int32)) → JT MX9_readRun 1 0 0 78 [(3, .int (vX9_byteOr s (gI s 3 7) (0 : Int32))), (0, .ref 3), (1, .int a1), (2, .int a2)] [.int v, .int a1] (std s) (KQv Q) := by
    intro v hv
    subst hv
    refine JT_iadd dX9_readRun_78 ?_
    refine JT_istore_n (lv' := [(1, .int (a1 + (if (vX9_isLetter s (vX9_byteOr s (gI s 3 7) (0 : Int32))) = 0 then (0 : Int32) else (1 : Int32)))), (3, .int (vX9_byteOr s (gI s 3 7) (0 : Int32))), (0, .ref 3), (2, .int a2)]) dX9_readRun_79 rfl (Nat.le_of_ble_eq_true rfl) rfl ?_
    refine JT_iload_n (q := 3) dX9_readRun_80 rfl rfl ?_
    refine JT_iload_n (q := 1) dX9_readRun_81 rfl rfl ?_
    refine JS_callSI (M' := MX9_isDigit) (d' := 0) (As := [.int (vX9_byteOr s (gI s 3 7) (0 : Int32))]) (rest := [.int a2]) (P := (fun zv9 wm9 => (vX9_isDigit s (vX9_byteOr s (gI s 3 7) (0 : Int32))) = zv9 ∧ s = wm9)) dX9_readRun_82 cvX9_50 okX9_isDigit rfl (Nat.le_of_ble_eq_true rfl) (Nat.le_of_ble_eq_true rfl) (Nat.le_of_ble_eq_true rfl) (pX9_isDigit  ((vX9_byteOr s (gI s 3 7) (0 : Int32)))  ⟨rfl, rfl⟩) (fun zv9 wm9 hq9 => ?_)
    obtain ⟨rfl, rfl⟩ := hq9
    have hj2 : ∀ v : Int32, v = (if (vX9_isDigit s (vX9_byteOr s (gI s 3 7) (0 : Int32))) = 0 then (0 : Int32) else (1 : Int32)) → JT MX9_readRun 1 0 0 93 [(1, .int (a1 + (if (vX9_isLetter s (vX9_byteOr s (gI s 3 7) (0 : Int32))) = 0 then (0 : Int32) else (1 : Int32)))), (3, .int (vX9_byteOr s (gI s 3 7) (0 : Int32))), (0, .ref 3), (2, .int a2)] [.int v, .int a2] (std s) (KQv Q) := by
      intro v hv
      subst hv
      refine JT_iadd dX9_readRun_93 ?_
      refine JT_istore_n (lv' := [(2, .int (a2 + (if (vX9_isDigit s (vX9_byteOr s (gI s 3 7) (0 : Int32))) = 0 then (0 : Int32) else (1 : Int32)))), (1, .int (a1 + (if (vX9_isLetter s (vX9_byteOr s (gI s 3 7) (0 : Int32))) = 0 then (0 : Int32) else (1 : Int32)))), (3, .int (vX9_byteOr s (gI s 3 7) (0 : Int32))), (0, .ref 3)]) dX9_readRun_94 rfl (Nat.le_of_ble_eq_true rfl) rfl ?_
      refine JT_aload_n (q := 3) dX9_readRun_95 rfl rfl ?_
      refine JT_aload_n (q := 3) dX9_readRun_96 rfl rfl ?_
      refine JS_getL dX9_readRun_97 flX9_56 BS_3 (Nat.le_of_ble_eq_true rfl) (Nat.le_of_ble_eq_true rfl) ct_9_4 ?_
      refine JT_bipush (v := 8) dX9_readRun_100 bp_8 ?_
      refine JT_lshl dX9_readRun_102 ?_
      refine JT_iload_n (q := 2) dX9_readRun_103 rfl rfl ?_
      refine JT_i2l dX9_readRun_104 ?_
      refine JT_lor dX9_readRun_105 ?_
      refine JS_putL dX9_readRun_106 flX9_56 BS_3 (Nat.le_of_ble_eq_true rfl) (Nat.le_of_ble_eq_true rfl) ct_9_4 ?_
      refine JT_aload_n (q := 3) dX9_readRun_109 rfl rfl ?_
      refine JT_aload_n (q := 3) dX9_readRun_110 rfl rfl ?_
      refine JS_getI dX9_readRun_111 flX9_60 BS_3 (Nat.le_of_ble_eq_true rfl) (Nat.le_of_ble_eq_true rfl) (Or.inl ct_9_5) ?_
      refine JT_bipush (v := 10) dX9_readRun_114 bp_10 ?_
      refine JT_imul dX9_readRun_116 ?_
      refine JT_iload_n (q := 2) dX9_readRun_117 rfl rfl ?_
      refine JT_bipush (v := 48) dX9_readRun_118 bp_48 ?_
      refine JT_isub dX9_readRun_120 ?_
      refine JT_iadd dX9_readRun_121 ?_
      refine JS_putI dX9_readRun_122 flX9_60 BS_3 (Nat.le_of_ble_eq_true rfl) (Nat.le_of_ble_eq_true rfl) ct_9_5 ?_
      obtain ⟨s1, hs1⟩ : ∃ z, z = (pI (pL s 3 4 (((gL s 3 4) <<< (((8 : Int32)).toInt64 &&& 63)) ||| ((vX9_byteOr s (gI s 3 7) (0 : Int32))).toInt64)) 3 5 (((gI (pL s 3 4 (((gL s 3 4) <<< (((8 : Int32)).toInt64 &&& 63)) ||| ((vX9_byteOr s (gI s 3 7) (0 : Int32))).toInt64)) 3 5) * (10 : Int32)) + ((vX9_byteOr s (gI s 3 7) (0 : Int32)) - (48 : Int32)))) := ⟨_, rfl⟩
      replace h := h s1 hs1
      rw [← hs1]
      refine JT_aload_n (q := 3) dX9_readRun_125 rfl rfl ?_
      refine JT_dup dX9_readRun_126 rfl ?_
      refine JS_getI dX9_readRun_127 flX9_19 BS_3 (Nat.le_of_ble_eq_true rfl) (Nat.le_of_ble_eq_true rfl) (Or.inl ct_9_7) ?_
      refine JT_iconst (v := 1) dX9_readRun_130 ic_1 ?_
      refine JT_iadd dX9_readRun_131 ?_
      refine JS_putI dX9_readRun_132 flX9_19 BS_3 (Nat.le_of_ble_eq_true rfl) (Nat.le_of_ble_eq_true rfl) ct_9_7 ?_
      refine JT_goto (tgt := 14) dX9_readRun_135 (by decide) ?_
      exact JT_sub [3, 1, 0] rfl h
    refine JT_if_eq (tgt := 92) dX9_readRun_85 (by decide) (fun hc3 => ?_) (fun hc3 => ?_)
    · refine JT_iconst (v := 0) dX9_readRun_92 ic_0 ?_
      exact hj2 _ (by rw [if_pos hc3])
    · refine JT_iconst (v := 1) dX9_readRun_88 ic_1 ?_
      refine JT_goto (tgt := 93) dX9_readRun_89 (by decide) ?_
      exact hj2 _ (by rw [if_neg hc3])
  refine JT_if_eq (tgt := 77) dX9_readRun_70 (by decide) (fun hc6 => ?_) (fun hc6 => ?_)
  · refine JT_iconst (v := 0) dX9_readRun_77 ic_0 ?_
    exact hj5 _ (by rw [if_pos hc6])
  · refine JT_iconst (v := 1) dX9_readRun_73 ic_1 ?_
    refine JT_goto (tgt := 78) dX9_readRun_74 (by decide) ?_
    exact hj5 _ (by rw [if_neg hc6])
set_option maxRecDepth 20000 in
theorem bX9_readRun_138 (a1 : Int32) (a2 : Int32) {s : SM} {Q : SM → Prop} (h : ((¬ a2 = 0 → BV MX9_readRun 1 158 [(0, .ref 3), (1, .int a1), (2, .int a2)] (pI s 3 9 (4 : Int32)) Q) ∧ (a2 = 0 → (((7 : Int32) < a1 → BV MX9_readRun 1 158 [(0, .ref 3), (1, .int a1), (2, .int a2)] (pI s 3 9 (4 : Int32)) Q) ∧ (¬ (7 : Int32) < a1 → BV MX9_readRun 1 158 [(0, .ref 3), (1, .int a1), (2, .int a2)] (pI (pI s 3 9 (4 : Int32)) 3 9 (1 : Int32)) Q))))) : BV MX9_readRun 1 138 [(0, .ref 3), (1, .int a1), (2, .int a2)] s Q := by
  refine JT_aload_n (q := 0) dX9_readRun_138 rfl rfl ?_
  refine JT_iconst (v := 4) dX9_readRun_139 ic_4 ?_
  refine JS_putI dX9_readRun_140 flX9_44 BS_3 (Nat.le_of_ble_eq_true rfl) (Nat.le_of_ble_eq_true rfl) ct_9_9 ?_
  refine JT_iload_n (q := 2) dX9_readRun_143 rfl rfl ?_
  refine JT_if_ne (tgt := 158) dX9_readRun_144 (by decide) (fun hc2 => ?_) (fun hc2 => ?_)
  · have h := h.1 hc2
    exact JT_sub [0, 1, 2] rfl h
  · have h := h.2 hc2
    refine JT_iload_n (q := 1) dX9_readRun_147 rfl rfl ?_
    refine JT_bipush (v := 7) dX9_readRun_148 bp_7 ?_
    refine JT_icmp_gt (tgt := 158) dX9_readRun_150 (by decide) (fun hc1 => ?_) (fun hc1 => ?_)
    · have h := h.1 hc1
      exact JT_sub [0, 1, 2] rfl h
    · have h := h.2 hc1
      refine JT_aload_n (q := 0) dX9_readRun_153 rfl rfl ?_
      refine JT_iconst (v := 1) dX9_readRun_154 ic_1 ?_
      refine JS_putI dX9_readRun_155 flX9_44 BS_3 (Nat.le_of_ble_eq_true rfl) (Nat.le_of_ble_eq_true rfl) ct_9_9 ?_
      exact JT_sub [0, 1, 2] rfl h
set_option maxRecDepth 20000 in
theorem bX9_readRun_158 (a1 : Int32) (a2 : Int32) {s : SM} {Q : SM → Prop} (h : ((¬ a1 = 0 → Q s) ∧ (a1 = 0 → (((2 : Int32) < a2 → Q s) ∧ (¬ (2 : Int32) < a2 → Q (pI s 3 9 (2 : Int32))))))) : BV MX9_readRun 1 158 [(0, .ref 3), (1, .int a1), (2, .int a2)] s Q := by
  refine JT_iload_n (q := 1) dX9_readRun_158 rfl rfl ?_
  refine JT_if_ne (tgt := 172) dX9_readRun_159 (by decide) (fun hc2 => ?_) (fun hc2 => ?_)
  · have h := h.1 hc2
    exact JS_vret dX9_readRun_172 rfl h
  · have h := h.2 hc2
    refine JT_iload_n (q := 2) dX9_readRun_162 rfl rfl ?_
    refine JT_iconst (v := 2) dX9_readRun_163 ic_2 ?_
    refine JT_icmp_gt (tgt := 172) dX9_readRun_164 (by decide) (fun hc1 => ?_) (fun hc1 => ?_)
    · have h := h.1 hc1
      exact JS_vret dX9_readRun_172 rfl h
    · have h := h.2 hc1
      refine JT_aload_n (q := 0) dX9_readRun_167 rfl rfl ?_
      refine JT_iconst (v := 2) dX9_readRun_168 ic_2 ?_
      refine JS_putI dX9_readRun_169 flX9_44 BS_3 (Nat.le_of_ble_eq_true rfl) (Nat.le_of_ble_eq_true rfl) ct_9_9 ?_
      exact JS_vret dX9_readRun_172 rfl h
set_option maxRecDepth 20000 in
theorem bX9_readRun  {s : SM} {Q : SM → Prop} (h : BV MX9_readRun 1 14 [(0, .ref 3), (1, .int (0 : Int32)), (2, .int (0 : Int32))] (pI (pL s 3 4 (0 : Int64)) 3 5 (0 : Int32)) Q) : KV MX9_readRun 1 [.ref 3] s Q := by
  show BV MX9_readRun 1 0 [(0, .ref 3)] s Q
  refine JT_iconst (v := 0) dX9_readRun_0 ic_0 ?_
  refine JT_istore_n (lv' := [(1, .int (0 : Int32)), (0, .ref 3)]) dX9_readRun_1 rfl (Nat.le_of_ble_eq_true rfl) rfl ?_
  refine JT_iconst (v := 0) dX9_readRun_2 ic_0 ?_
  refine JT_istore_n (lv' := [(2, .int (0 : Int32)), (1, .int (0 : Int32)), (0, .ref 3)]) dX9_readRun_3 rfl (Nat.le_of_ble_eq_true rfl) rfl ?_
  refine JT_aload_n (q := 2) dX9_readRun_4 rfl rfl ?_
  refine JT_lconst (v := 0) dX9_readRun_5 (by decide) ?_
  refine JS_putL dX9_readRun_6 flX9_56 BS_3 (Nat.le_of_ble_eq_true rfl) (Nat.le_of_ble_eq_true rfl) ct_9_4 ?_
  refine JT_aload_n (q := 2) dX9_readRun_9 rfl rfl ?_
  refine JT_iconst (v := 0) dX9_readRun_10 ic_0 ?_
  refine JS_putI dX9_readRun_11 flX9_60 BS_3 (Nat.le_of_ble_eq_true rfl) (Nat.le_of_ble_eq_true rfl) ct_9_5 ?_
  exact JT_sub [2, 1, 0] rfl h
set_option maxRecDepth 20000 in
theorem bX11_addMark_118 (a1 : Int32) (a2 : Int32) (a3 : Int32) {s : SM} {Q : SM → Prop} (h : rX10_add s (32 : Int32) ∧ vp_in a1 60 ∧ vp_in (gI (mX10_add s (32 : Int32)) 35 (a1).toNatClampNeg) 6 ∧ KV MX10_addName 1 [.ref 244, .long (gL (mX10_add s (32 : Int32)) 9 ((gI (mX10_add s (32 : Int32)) 35 (a1).toNatClampNeg)).toNatClampNeg)] (mX10_add s (32 : Int32)) (fun s3 => vp_in a1 60 ∧ ((¬ (gI s3 37 (a1).toNatClampNeg) = (1 : Int32) → BV MX11_addMark 2 173 [(0, .ref 2), (1, .int a1), (2, .int a2), (3, .int a3)] s3 Q) ∧ ((gI s3 37 (a1).toNatClampNeg) = (1 : Int32) → rX10_add s3 (120 : Int32) ∧ BV MX11_addMark 2 173 [(0, .ref 2), (1, .int a1), (2, .int a2), (3, .int a3)] (mX10_add s3 (120 : Int32)) Q)))) : BV MX11_addMark 2 118 [(0, .ref 2), (1, .int a1), (2, .int a2), (3, .int a3)] s Q := by
  refine JT_aload_n (q := 0) dX11_addMark_118 rfl rfl ?_
  refine JS_getR (x := 244) dX11_addMark_119 flX11_93 BS_2 (Nat.le_of_ble_eq_true rfl) (Nat.le_of_ble_eq_true rfl) (Or.inl ⟨_, ct_11_13⟩) RF_2_13 ?_
  refine JT_bipush (v := 32) dX11_addMark_122 bp_32 ?_
  obtain ⟨o8, h⟩ := h
  refine JS_callVV (M' := MX10_add) (d' := 0) (As := [.int (32 : Int32)]) (rest := []) (P := (fun wm9 => (mX10_add s (32 : Int32)) = wm9)) dX11_addMark_124 cvX11_275 okX10_add rfl (Nat.le_of_ble_eq_true rfl) BS_244 (Nat.le_of_ble_eq_true rfl) (Nat.le_of_ble_eq_true rfl) hci_10 (Nat.le_of_ble_eq_true rfl) (Nat.le_of_ble_eq_true rfl) (pX10_add  ((32 : Int32)) o8 rfl) (fun wm9 hq9 => ?_)
  subst hq9
  refine JT_aload_n (q := 0) dX11_addMark_127 rfl rfl ?_
  refine JS_getR (x := 244) dX11_addMark_128 flX11_93 BS_2 (Nat.le_of_ble_eq_true rfl) (Nat.le_of_ble_eq_true rfl) (Or.inl ⟨_, ct_11_13⟩) RF_2_13 ?_
  refine JT_aload_n (q := 0) dX11_addMark_131 rfl rfl ?_
  refine JS_getR (x := 5) dX11_addMark_132 flX11_19 BS_2 (Nat.le_of_ble_eq_true rfl) (Nat.le_of_ble_eq_true rfl) (Or.inl ⟨_, ct_11_1⟩) RF_2_1 ?_
  refine JS_getR (x := 9) dX11_addMark_135 flX11_290 BS_5 (Nat.le_of_ble_eq_true rfl) (Nat.le_of_ble_eq_true rfl) (Or.inr ⟨_, ct_6_3⟩) RF_5_3 ?_
  refine JT_aload_n (q := 0) dX11_addMark_138 rfl rfl ?_
  refine JS_getR (x := 31) dX11_addMark_139 flX11_41 BS_2 (Nat.le_of_ble_eq_true rfl) (Nat.le_of_ble_eq_true rfl) (Or.inl ⟨_, ct_11_5⟩) RF_2_5 ?_
  refine JS_getR (x := 35) dX11_addMark_142 flX11_223 BS_31 (Nat.le_of_ble_eq_true rfl) (Nat.le_of_ble_eq_true rfl) (Or.inr ⟨_, ct_4_3⟩) RF_31_3 ?_
  refine JT_iload_n (q := 1) dX11_addMark_145 rfl rfl ?_
  obtain ⟨o1, h⟩ := h
  refine JS_iald dX11_addMark_146 BS_35 (Nat.le_of_ble_eq_true rfl) (Nat.le_of_ble_eq_true rfl) o1 ?_
  obtain ⟨o2, h⟩ := h
  refine JS_lald dX11_addMark_147 BS_9 (Nat.le_of_ble_eq_true rfl) (Nat.le_of_ble_eq_true rfl) o2 ?_
  refine JS_callVV (M' := MX10_addName) (d' := 1) (As := [.long (gL (mX10_add s (32 : Int32)) 9 ((gI (mX10_add s (32 : Int32)) 35 (a1).toNatClampNeg)).toNatClampNeg)]) (rest := []) dX11_addMark_148 cvX11_280 okX10_addName rfl (Nat.le_of_ble_eq_true rfl) BS_244 (Nat.le_of_ble_eq_true rfl) (Nat.le_of_ble_eq_true rfl) hci_10 (Nat.le_of_ble_eq_true rfl) (Nat.le_of_ble_eq_true rfl) h (fun s3 h => ?_)
  refine JT_aload_n (q := 0) dX11_addMark_151 rfl rfl ?_
  refine JS_getR (x := 31) dX11_addMark_152 flX11_41 BS_2 (Nat.le_of_ble_eq_true rfl) (Nat.le_of_ble_eq_true rfl) (Or.inl ⟨_, ct_11_5⟩) RF_2_5 ?_
  refine JS_getR (x := 37) dX11_addMark_155 flX11_229 BS_31 (Nat.le_of_ble_eq_true rfl) (Nat.le_of_ble_eq_true rfl) (Or.inr ⟨_, ct_4_5⟩) RF_31_5 ?_
  refine JT_iload_n (q := 1) dX11_addMark_158 rfl rfl ?_
  obtain ⟨o5, h⟩ := h
  refine JS_iald dX11_addMark_159 BS_37 (Nat.le_of_ble_eq_true rfl) (Nat.le_of_ble_eq_true rfl) o5 ?_
  refine JT_iconst (v := 1) dX11_addMark_160 ic_1 ?_
  refine JT_icmp_ne (tgt := 173) dX11_addMark_161 (by decide) (fun hc7 => ?_) (fun hc7 => ?_)
  · have h := h.1 hc7
    exact JT_sub [0, 1, 2, 3] rfl h
  · have h := h.2 hc7
    refine JT_aload_n (q := 0) dX11_addMark_164 rfl rfl ?_
    refine JS_getR (x := 244) dX11_addMark_165 flX11_93 BS_2 (Nat.le_of_ble_eq_true rfl) (Nat.le_of_ble_eq_true rfl) (Or.inl ⟨_, ct_11_13⟩) RF_2_13 ?_
    refine JT_bipush (v := 120) dX11_addMark_168 bp_120 ?_
    obtain ⟨o6, h⟩ := h
    refine JS_callVV (M' := MX10_add) (d' := 0) (As := [.int (120 : Int32)]) (rest := []) (P := (fun wm9 => (mX10_add s3 (120 : Int32)) = wm9)) dX11_addMark_170 cvX11_275 okX10_add rfl (Nat.le_of_ble_eq_true rfl) BS_244 (Nat.le_of_ble_eq_true rfl) (Nat.le_of_ble_eq_true rfl) hci_10 (Nat.le_of_ble_eq_true rfl) (Nat.le_of_ble_eq_true rfl) (pX10_add  ((120 : Int32)) o6 rfl) (fun wm9 hq9 => ?_)
    subst hq9
    exact JT_sub [0, 1, 2, 3] rfl h
set_option maxRecDepth 20000 in
theorem bX11_addMark_173 (a1 : Int32) (a2 : Int32) (a3 : Int32) {s : SM} {Q : SM → Prop} (h : vp_in a1 60 ∧ ((¬ (gI s 37 (a1).toNatClampNeg) = (2 : Int32) → rX10_add s (59 : Int32) ∧ Q (mX10_add s (59 : Int32))) ∧ ((gI s 37 (a1).toNatClampNeg) = (2 : Int32) → rX10_add s (111 : Int32) ∧ rX10_add (mX10_add s (111 : Int32)) (59 : Int32) ∧ Q (mX10_add (mX10_add s (111 : Int32)) (59 : Int32))))) : BV MX11_addMark 2 173 [(0, .ref 2), (1, .int a1), (2, .int a2), (3, .int a3)] s Q := by
  refine JT_aload_n (q := 0) dX11_addMark_173 rfl rfl ?_
  refine JS_getR (x := 31) dX11_addMark_174 flX11_41 BS_2 (Nat.le_of_ble_eq_true rfl) (Nat.le_of_ble_eq_true rfl) (Or.inl ⟨_, ct_11_5⟩) RF_2_5 ?_
  refine JS_getR (x := 37) dX11_addMark_177 flX11_229 BS_31 (Nat.le_of_ble_eq_true rfl) (Nat.le_of_ble_eq_true rfl) (Or.inr ⟨_, ct_4_5⟩) RF_31_5 ?_
  refine JT_iload_n (q := 1) dX11_addMark_180 rfl rfl ?_
  obtain ⟨o1, h⟩ := h
  refine JS_iald dX11_addMark_181 BS_37 (Nat.le_of_ble_eq_true rfl) (Nat.le_of_ble_eq_true rfl) o1 ?_
  refine JT_iconst (v := 2) dX11_addMark_182 ic_2 ?_
  refine JT_icmp_ne (tgt := 195) dX11_addMark_183 (by decide) (fun hc5 => ?_) (fun hc5 => ?_)
  · have h := h.1 hc5
    refine JT_aload_n (q := 0) dX11_addMark_195 rfl rfl ?_
    refine JS_getR (x := 244) dX11_addMark_196 flX11_93 BS_2 (Nat.le_of_ble_eq_true rfl) (Nat.le_of_ble_eq_true rfl) (Or.inl ⟨_, ct_11_13⟩) RF_2_13 ?_
    refine JT_bipush (v := 59) dX11_addMark_199 bp_59 ?_
    obtain ⟨o2, h⟩ := h
    refine JS_callVV (M' := MX10_add) (d' := 0) (As := [.int (59 : Int32)]) (rest := []) (P := (fun wm9 => (mX10_add s (59 : Int32)) = wm9)) dX11_addMark_201 cvX11_275 okX10_add rfl (Nat.le_of_ble_eq_true rfl) BS_244 (Nat.le_of_ble_eq_true rfl) (Nat.le_of_ble_eq_true rfl) hci_10 (Nat.le_of_ble_eq_true rfl) (Nat.le_of_ble_eq_true rfl) (pX10_add  ((59 : Int32)) o2 rfl) (fun wm9 hq9 => ?_)
    subst hq9
    exact JS_vret dX11_addMark_204 rfl h
  · have h := h.2 hc5
    refine JT_aload_n (q := 0) dX11_addMark_186 rfl rfl ?_
    refine JS_getR (x := 244) dX11_addMark_187 flX11_93 BS_2 (Nat.le_of_ble_eq_true rfl) (Nat.le_of_ble_eq_true rfl) (Or.inl ⟨_, ct_11_13⟩) RF_2_13 ?_
    refine JT_bipush (v := 111) dX11_addMark_190 bp_111 ?_
    obtain ⟨o4, h⟩ := h
    refine JS_callVV (M' := MX10_add) (d' := 0) (As := [.int (111 : Int32)]) (rest := []) (P := (fun wm9 => (mX10_add s (111 : Int32)) = wm9)) dX11_addMark_192 cvX11_275 okX10_add rfl (Nat.le_of_ble_eq_true rfl) BS_244 (Nat.le_of_ble_eq_true rfl) (Nat.le_of_ble_eq_true rfl) hci_10 (Nat.le_of_ble_eq_true rfl) (Nat.le_of_ble_eq_true rfl) (pX10_add  ((111 : Int32)) o4 rfl) (fun wm9 hq9 => ?_)
    subst hq9
    refine JT_aload_n (q := 0) dX11_addMark_195 rfl rfl ?_
    refine JS_getR (x := 244) dX11_addMark_196 flX11_93 BS_2 (Nat.le_of_ble_eq_true rfl) (Nat.le_of_ble_eq_true rfl) (Or.inl ⟨_, ct_11_13⟩) RF_2_13 ?_
    refine JT_bipush (v := 59) dX11_addMark_199 bp_59 ?_
    obtain ⟨o3, h⟩ := h
    refine JS_callVV (M' := MX10_add) (d' := 0) (As := [.int (59 : Int32)]) (rest := []) (P := (fun wm9 => (mX10_add (mX10_add s (111 : Int32)) (59 : Int32)) = wm9)) dX11_addMark_201 cvX11_275 okX10_add rfl (Nat.le_of_ble_eq_true rfl) BS_244 (Nat.le_of_ble_eq_true rfl) (Nat.le_of_ble_eq_true rfl) hci_10 (Nat.le_of_ble_eq_true rfl) (Nat.le_of_ble_eq_true rfl) (pX10_add  ((59 : Int32)) o3 rfl) (fun wm9 hq9 => ?_)
    subst hq9
    exact JS_vret dX11_addMark_204 rfl h
set_option maxRecDepth 20000 in
theorem bX11_addMark (a1 : Int32) (a2 : Int32) {s : SM} {Q : SM → Prop} (h : ((¬ a2 = 0 → vp_in a1 60 ∧ rX10_add s (if a2 = 0 then (43 : Int32) else (45 : Int32)) ∧ rX10_add (mX10_add s (if a2 = 0 then (43 : Int32) else (45 : Int32))) (32 : Int32) ∧ vp_in (gI s 32 (a1).toNatClampNeg) 9 ∧ KV MX10_addName 1 [.ref 244, .long (gL (mX10_add (mX10_add s (if a2 = 0 then (43 : Int32) else (45 : Int32))) (32 : Int32)) 6 ((gI s 32 (a1).toNatClampNeg)).toNatClampNeg)] (mX10_add (mX10_add s (if a2 = 0 then (43 : Int32) else (45 : Int32))) (32 : Int32)) (fun s3 => rX10_add s3 (32 : Int32) ∧ rX4_isScarred (mX10_add s3 (32 : Int32)) 31 5 a1 a2 ∧ (((vX4_isScarred (mX10_add s3 (32 : Int32)) 31 5 a1 a2) = 0 → vp_in a1 60 ∧ KV MX10_addNumber 1 [.ref 244, .int (gI (mX10_add s3 (32 : Int32)) 34 (a1).toNatClampNeg)] (mX10_add s3 (32 : Int32)) (fun s6 => BV MX11_addMark 2 118 [(0, .ref 2), (1, .int a1), (2, .int a2), (3, .int (gI s 32 (a1).toNatClampNeg))] s6 Q)) ∧ (¬ (vX4_isScarred (mX10_add s3 (32 : Int32)) 31 5 a1 a2) = 0 → rX10_add (mX10_add s3 (32 : Int32)) (63 : Int32) ∧ BV MX11_addMark 2 118 [(0, .ref 2), (1, .int a1), (2, .int a2), (3, .int (gI s 32 (a1).toNatClampNeg))] (mX10_add (mX10_add s3 (32 : Int32)) (63 : Int32)) Q)))) ∧ (a2 = 0 → vp_in a1 60 ∧ rX10_add s (if a2 = 0 then (43 : Int32) else (45 : Int32)) ∧ rX10_add (mX10_add s (if a2 = 0 then (43 : Int32) else (45 : Int32))) (32 : Int32) ∧ vp_in (gI s 33 (a1).toNatClampNeg) 9 ∧ KV MX10_addName 1 [.ref 244, .long (gL (mX10_add (mX10_add s (if a2 = 0 then (43 : Int32) else (45 : Int32))) (32 : Int32)) 6 ((gI s 33 (a1).toNatClampNeg)).toNatClampNeg)] (mX10_add (mX10_add s (if a2 = 0 then (43 : Int32) else (45 : Int32))) (32 : Int32)) (fun s18 => rX10_add s18 (32 : Int32) ∧ rX4_isScarred (mX10_add s18 (32 : Int32)) 31 5 a1 a2 ∧ (((vX4_isScarred (mX10_add s18 (32 : Int32)) 31 5 a1 a2) = 0 → vp_in a1 60 ∧ KV MX10_addNumber 1 [.ref 244, .int (gI (mX10_add s18 (32 : Int32)) 34 (a1).toNatClampNeg)] (mX10_add s18 (32 : Int32)) (fun s21 => BV MX11_addMark 2 118 [(0, .ref 2), (1, .int a1), (2, .int a2), (3, .int (gI s 33 (a1).toNatClampNeg))] s21 Q)) ∧ (¬ (vX4_isScarred (mX10_add s18 (32 : Int32)) 31 5 a1 a2) = 0 → rX10_add (mX10_add s18 (32 : Int32)) (63 : Int32) ∧ BV MX11_addMark 2 118 [(0, .ref 2), (1, .int a1), (2, .int a2), (3, .int (gI s 33 (a1).toNatClampNeg))] (mX10_add (mX10_add s18 (32 : Int32)) (63 : Int32)) Q)))))) : KV MX11_addMark 2 [.ref 2, .int a1, .int a2] s Q := by
  show BV MX11_addMark 2 0 [(0, .ref 2), (1, .int a1), (2, .int a2)] s Q
  refine JT_iload_n (q := 2) dX11_addMark_0 rfl rfl ?_
  refine JT_if_ne (tgt := 16) dX11_addMark_1 (by decide) (fun hc31 => ?_) (fun hc31 => ?_)
  · have h := h.1 hc31
    refine JT_aload_n (q := 0) dX11_addMark_16 rfl rfl ?_
    refine JS_getR (x := 31) dX11_addMark_17 flX11_41 BS_2 (Nat.le_of_ble_eq_true rfl) (Nat.le_of_ble_eq_true rfl) (Or.inl ⟨_, ct_11_5⟩) RF_2_5 ?_
    refine JS_getR (x := 32) dX11_addMark_20 flX11_214 BS_31 (Nat.le_of_ble_eq_true rfl) (Nat.le_of_ble_eq_true rfl) (Or.inr ⟨_, ct_4_0⟩) RF_31_0 ?_
    refine JT_iload_n (q := 1) dX11_addMark_23 rfl rfl ?_
    obtain ⟨o1, h⟩ := h
    refine JS_iald dX11_addMark_24 BS_32 (Nat.le_of_ble_eq_true rfl) (Nat.le_of_ble_eq_true rfl) o1 ?_
    refine JT_istore_n (lv' := [(3, .int (gI s 32 (a1).toNatClampNeg)), (0, .ref 2), (1, .int a1), (2, .int a2)]) dX11_addMark_25 rfl (Nat.le_of_ble_eq_true rfl) rfl ?_
    refine JT_aload_n (q := 1) dX11_addMark_26 rfl rfl ?_
    refine JS_getR (x := 244) dX11_addMark_27 flX11_93 BS_2 (Nat.le_of_ble_eq_true rfl) (Nat.le_of_ble_eq_true rfl) (Or.inl ⟨_, ct_11_13⟩) RF_2_13 ?_
    refine JT_iload_n (q := 3) dX11_addMark_30 rfl rfl ?_
    have hj14 : ∀ v : Int32, v = (if a2 = 0 then (43 : Int32) else (45 : Int32)) → JT MX11_addMark 2 0 0 41 [(3, .int (gI s 32 (a1).toNatClampNeg)), (0, .ref 2), (1, .int a1), (2, .int a2)] [.int v, .ref 244] (std s) (KQv Q) := by
      intro v hv
      subst hv
      obtain ⟨o13, h⟩ := h
      refine JS_callVV (M' := MX10_add) (d' := 0) (As := [.int (if a2 = 0 then (43 : Int32) else (45 : Int32))]) (rest := []) (P := (fun wm9 => (mX10_add s (if a2 = 0 then (43 : Int32) else (45 : Int32))) = wm9)) dX11_addMark_41 cvX11_275 okX10_add rfl (Nat.le_of_ble_eq_true rfl) BS_244 (Nat.le_of_ble_eq_true rfl) (Nat.le_of_ble_eq_true rfl) hci_10 (Nat.le_of_ble_eq_true rfl) (Nat.le_of_ble_eq_true rfl) (pX10_add  ((if a2 = 0 then (43 : Int32) else (45 : Int32))) o13 rfl) (fun wm9 hq9 => ?_)
      subst hq9
      refine JT_aload_n (q := 1) dX11_addMark_44 rfl rfl ?_
      refine JS_getR (x := 244) dX11_addMark_45 flX11_93 BS_2 (Nat.le_of_ble_eq_true rfl) (Nat.le_of_ble_eq_true rfl) (Or.inl ⟨_, ct_11_13⟩) RF_2_13 ?_
      refine JT_bipush (v := 32) dX11_addMark_48 bp_32 ?_
      obtain ⟨o12, h⟩ := h
      refine JS_callVV (M' := MX10_add) (d' := 0) (As := [.int (32 : Int32)]) (rest := []) (P := (fun wm9 => (mX10_add (mX10_add s (if a2 = 0 then (43 : Int32) else (45 : Int32))) (32 : Int32)) = wm9)) dX11_addMark_50 cvX11_275 okX10_add rfl (Nat.le_of_ble_eq_true rfl) BS_244 (Nat.le_of_ble_eq_true rfl) (Nat.le_of_ble_eq_true rfl) hci_10 (Nat.le_of_ble_eq_true rfl) (Nat.le_of_ble_eq_true rfl) (pX10_add  ((32 : Int32)) o12 rfl) (fun wm9 hq9 => ?_)
      subst hq9
      refine JT_aload_n (q := 1) dX11_addMark_53 rfl rfl ?_
      refine JS_getR (x := 244) dX11_addMark_54 flX11_93 BS_2 (Nat.le_of_ble_eq_true rfl) (Nat.le_of_ble_eq_true rfl) (Or.inl ⟨_, ct_11_13⟩) RF_2_13 ?_
      refine JT_aload_n (q := 1) dX11_addMark_57 rfl rfl ?_
      refine JS_getR (x := 5) dX11_addMark_58 flX11_19 BS_2 (Nat.le_of_ble_eq_true rfl) (Nat.le_of_ble_eq_true rfl) (Or.inl ⟨_, ct_11_1⟩) RF_2_1 ?_
      refine JS_getR (x := 6) dX11_addMark_61 flX11_276 BS_5 (Nat.le_of_ble_eq_true rfl) (Nat.le_of_ble_eq_true rfl) (Or.inr ⟨_, ct_6_0⟩) RF_5_0 ?_
      refine JT_iload_n (q := 0) dX11_addMark_64 rfl rfl ?_
      obtain ⟨o2, h⟩ := h
      refine JS_lald dX11_addMark_65 BS_6 (Nat.le_of_ble_eq_true rfl) (Nat.le_of_ble_eq_true rfl) o2 ?_
      refine JS_callVV (M' := MX10_addName) (d' := 1) (As := [.long (gL (mX10_add (mX10_add s (if a2 = 0 then (43 : Int32) else (45 : Int32))) (32 : Int32)) 6 ((gI s 32 (a1).toNatClampNeg)).toNatClampNeg)]) (rest := []) dX11_addMark_66 cvX11_280 okX10_addName rfl (Nat.le_of_ble_eq_true rfl) BS_244 (Nat.le_of_ble_eq_true rfl) (Nat.le_of_ble_eq_true rfl) hci_10 (Nat.le_of_ble_eq_true rfl) (Nat.le_of_ble_eq_true rfl) h (fun s3 h => ?_)
      refine JT_aload_n (q := 1) dX11_addMark_69 rfl rfl ?_
      refine JS_getR (x := 244) dX11_addMark_70 flX11_93 BS_2 (Nat.le_of_ble_eq_true rfl) (Nat.le_of_ble_eq_true rfl) (Or.inl ⟨_, ct_11_13⟩) RF_2_13 ?_
      refine JT_bipush (v := 32) dX11_addMark_73 bp_32 ?_
      obtain ⟨o11, h⟩ := h
      refine JS_callVV (M' := MX10_add) (d' := 0) (As := [.int (32 : Int32)]) (rest := []) (P := (fun wm9 => (mX10_add s3 (32 : Int32)) = wm9)) dX11_addMark_75 cvX11_275 okX10_add rfl (Nat.le_of_ble_eq_true rfl) BS_244 (Nat.le_of_ble_eq_true rfl) (Nat.le_of_ble_eq_true rfl) hci_10 (Nat.le_of_ble_eq_true rfl) (Nat.le_of_ble_eq_true rfl) (pX10_add  ((32 : Int32)) o11 rfl) (fun wm9 hq9 => ?_)
      subst hq9
      refine JT_aload_n (q := 1) dX11_addMark_78 rfl rfl ?_
      refine JS_getR (x := 31) dX11_addMark_79 flX11_41 BS_2 (Nat.le_of_ble_eq_true rfl) (Nat.le_of_ble_eq_true rfl) (Or.inl ⟨_, ct_11_5⟩) RF_2_5 ?_
      refine JT_iload_n (q := 2) dX11_addMark_82 rfl rfl ?_
      refine JT_iload_n (q := 3) dX11_addMark_83 rfl rfl ?_
      obtain ⟨o10, h⟩ := h
      refine JS_callVI (M' := MX4_isScarred) (d' := 1) (As := [.int a1, .int a2]) (rest := []) (P := (fun zv9 wm9 => (vX4_isScarred (mX10_add s3 (32 : Int32)) 31 5 a1 a2) = zv9 ∧ (mX10_add s3 (32 : Int32)) = wm9)) dX11_addMark_84 cvX11_284 okX4_isScarred rfl (Nat.le_of_ble_eq_true rfl) BS_31 (Nat.le_of_ble_eq_true rfl) (Nat.le_of_ble_eq_true rfl) hci_4 (Nat.le_of_ble_eq_true rfl) (Nat.le_of_ble_eq_true rfl) (pX4_isScarred hL_31 (a1) (a2) o10 ⟨rfl, rfl⟩) (fun zv9 wm9 hq9 => ?_)
      obtain ⟨rfl, rfl⟩ := hq9
      refine JT_if_eq (tgt := 102) dX11_addMark_87 (by decide) (fun hc9 => ?_) (fun hc9 => ?_)
      · have h := h.1 hc9
        refine JT_aload_n (q := 1) dX11_addMark_102 rfl rfl ?_
        refine JS_getR (x := 244) dX11_addMark_103 flX11_93 BS_2 (Nat.le_of_ble_eq_true rfl) (Nat.le_of_ble_eq_true rfl) (Or.inl ⟨_, ct_11_13⟩) RF_2_13 ?_
        refine JT_aload_n (q := 1) dX11_addMark_106 rfl rfl ?_
        refine JS_getR (x := 31) dX11_addMark_107 flX11_41 BS_2 (Nat.le_of_ble_eq_true rfl) (Nat.le_of_ble_eq_true rfl) (Or.inl ⟨_, ct_11_5⟩) RF_2_5 ?_
        refine JS_getR (x := 34) dX11_addMark_110 flX11_220 BS_31 (Nat.le_of_ble_eq_true rfl) (Nat.le_of_ble_eq_true rfl) (Or.inr ⟨_, ct_4_2⟩) RF_31_2 ?_
        refine JT_iload_n (q := 2) dX11_addMark_113 rfl rfl ?_
        obtain ⟨o5, h⟩ := h
        refine JS_iald dX11_addMark_114 BS_34 (Nat.le_of_ble_eq_true rfl) (Nat.le_of_ble_eq_true rfl) o5 ?_
        refine JS_callVV (M' := MX10_addNumber) (d' := 1) (As := [.int (gI (mX10_add s3 (32 : Int32)) 34 (a1).toNatClampNeg)]) (rest := []) dX11_addMark_115 cvX11_287 okX10_addNumber rfl (Nat.le_of_ble_eq_true rfl) BS_244 (Nat.le_of_ble_eq_true rfl) (Nat.le_of_ble_eq_true rfl) hci_10 (Nat.le_of_ble_eq_true rfl) (Nat.le_of_ble_eq_true rfl) h (fun s6 h => ?_)
        exact JT_sub [1, 2, 3, 0] rfl h
      · have h := h.2 hc9
        refine JT_aload_n (q := 1) dX11_addMark_90 rfl rfl ?_
        refine JS_getR (x := 244) dX11_addMark_91 flX11_93 BS_2 (Nat.le_of_ble_eq_true rfl) (Nat.le_of_ble_eq_true rfl) (Or.inl ⟨_, ct_11_13⟩) RF_2_13 ?_
        refine JT_bipush (v := 63) dX11_addMark_94 bp_63 ?_
        obtain ⟨o8, h⟩ := h
        refine JS_callVV (M' := MX10_add) (d' := 0) (As := [.int (63 : Int32)]) (rest := []) (P := (fun wm9 => (mX10_add (mX10_add s3 (32 : Int32)) (63 : Int32)) = wm9)) dX11_addMark_96 cvX11_275 okX10_add rfl (Nat.le_of_ble_eq_true rfl) BS_244 (Nat.le_of_ble_eq_true rfl) (Nat.le_of_ble_eq_true rfl) hci_10 (Nat.le_of_ble_eq_true rfl) (Nat.le_of_ble_eq_true rfl) (pX10_add  ((63 : Int32)) o8 rfl) (fun wm9 hq9 => ?_)
        subst hq9
        refine JT_goto (tgt := 118) dX11_addMark_99 (by decide) ?_
        exact JT_sub [1, 2, 3, 0] rfl h
    refine JT_if_ne (tgt := 39) dX11_addMark_31 (by decide) (fun hc15 => ?_) (fun hc15 => ?_)
    · refine JT_bipush (v := 45) dX11_addMark_39 bp_45 ?_
      exact hj14 _ (by rw [if_neg hc15])
    · refine JT_bipush (v := 43) dX11_addMark_34 bp_43 ?_
      refine JT_goto (tgt := 41) dX11_addMark_36 (by decide) ?_
      exact hj14 _ (by rw [if_pos hc15])
  · have h := h.2 hc31
    refine JT_aload_n (q := 0) dX11_addMark_4 rfl rfl ?_
    refine JS_getR (x := 31) dX11_addMark_5 flX11_41 BS_2 (Nat.le_of_ble_eq_true rfl) (Nat.le_of_ble_eq_true rfl) (Or.inl ⟨_, ct_11_5⟩) RF_2_5 ?_
    refine JS_getR (x := 33) dX11_addMark_8 flX11_217 BS_31 (Nat.le_of_ble_eq_true rfl) (Nat.le_of_ble_eq_true rfl) (Or.inr ⟨_, ct_4_1⟩) RF_31_1 ?_
    refine JT_iload_n (q := 1) dX11_addMark_11 rfl rfl ?_
    obtain ⟨o16, h⟩ := h
    refine JS_iald dX11_addMark_12 BS_33 (Nat.le_of_ble_eq_true rfl) (Nat.le_of_ble_eq_true rfl) o16 ?_
    refine JT_goto (tgt := 25) dX11_addMark_13 (by decide) ?_
    refine JT_istore_n (lv' := [(3, .int (gI s 33 (a1).toNatClampNeg)), (0, .ref 2), (1, .int a1), (2, .int a2)]) dX11_addMark_25 rfl (Nat.le_of_ble_eq_true rfl) rfl ?_
    refine JT_aload_n (q := 1) dX11_addMark_26 rfl rfl ?_
    refine JS_getR (x := 244) dX11_addMark_27 flX11_93 BS_2 (Nat.le_of_ble_eq_true rfl) (Nat.le_of_ble_eq_true rfl) (Or.inl ⟨_, ct_11_13⟩) RF_2_13 ?_
    refine JT_iload_n (q := 3) dX11_addMark_30 rfl rfl ?_
    have hj29 : ∀ v : Int32, v = (if a2 = 0 then (43 : Int32) else (45 : Int32)) → JT MX11_addMark 2 0 0 41 [(3, .int (gI s 33 (a1).toNatClampNeg)), (0, .ref 2), (1, .int a1), (2, .int a2)] [.int v, .ref 244] (std s) (KQv Q) := by
      intro v hv
      subst hv
      obtain ⟨o28, h⟩ := h
      refine JS_callVV (M' := MX10_add) (d' := 0) (As := [.int (if a2 = 0 then (43 : Int32) else (45 : Int32))]) (rest := []) (P := (fun wm9 => (mX10_add s (if a2 = 0 then (43 : Int32) else (45 : Int32))) = wm9)) dX11_addMark_41 cvX11_275 okX10_add rfl (Nat.le_of_ble_eq_true rfl) BS_244 (Nat.le_of_ble_eq_true rfl) (Nat.le_of_ble_eq_true rfl) hci_10 (Nat.le_of_ble_eq_true rfl) (Nat.le_of_ble_eq_true rfl) (pX10_add  ((if a2 = 0 then (43 : Int32) else (45 : Int32))) o28 rfl) (fun wm9 hq9 => ?_)
      subst hq9
      refine JT_aload_n (q := 1) dX11_addMark_44 rfl rfl ?_
      refine JS_getR (x := 244) dX11_addMark_45 flX11_93 BS_2 (Nat.le_of_ble_eq_true rfl) (Nat.le_of_ble_eq_true rfl) (Or.inl ⟨_, ct_11_13⟩) RF_2_13 ?_
      refine JT_bipush (v := 32) dX11_addMark_48 bp_32 ?_
      obtain ⟨o27, h⟩ := h
      refine JS_callVV (M' := MX10_add) (d' := 0) (As := [.int (32 : Int32)]) (rest := []) (P := (fun wm9 => (mX10_add (mX10_add s (if a2 = 0 then (43 : Int32) else (45 : Int32))) (32 : Int32)) = wm9)) dX11_addMark_50 cvX11_275 okX10_add rfl (Nat.le_of_ble_eq_true rfl) BS_244 (Nat.le_of_ble_eq_true rfl) (Nat.le_of_ble_eq_true rfl) hci_10 (Nat.le_of_ble_eq_true rfl) (Nat.le_of_ble_eq_true rfl) (pX10_add  ((32 : Int32)) o27 rfl) (fun wm9 hq9 => ?_)
      subst hq9
      refine JT_aload_n (q := 1) dX11_addMark_53 rfl rfl ?_
      refine JS_getR (x := 244) dX11_addMark_54 flX11_93 BS_2 (Nat.le_of_ble_eq_true rfl) (Nat.le_of_ble_eq_true rfl) (Or.inl ⟨_, ct_11_13⟩) RF_2_13 ?_
      refine JT_aload_n (q := 1) dX11_addMark_57 rfl rfl ?_
      refine JS_getR (x := 5) dX11_addMark_58 flX11_19 BS_2 (Nat.le_of_ble_eq_true rfl) (Nat.le_of_ble_eq_true rfl) (Or.inl ⟨_, ct_11_1⟩) RF_2_1 ?_
      refine JS_getR (x := 6) dX11_addMark_61 flX11_276 BS_5 (Nat.le_of_ble_eq_true rfl) (Nat.le_of_ble_eq_true rfl) (Or.inr ⟨_, ct_6_0⟩) RF_5_0 ?_
      refine JT_iload_n (q := 0) dX11_addMark_64 rfl rfl ?_
      obtain ⟨o17, h⟩ := h
      refine JS_lald dX11_addMark_65 BS_6 (Nat.le_of_ble_eq_true rfl) (Nat.le_of_ble_eq_true rfl) o17 ?_
      refine JS_callVV (M' := MX10_addName) (d' := 1) (As := [.long (gL (mX10_add (mX10_add s (if a2 = 0 then (43 : Int32) else (45 : Int32))) (32 : Int32)) 6 ((gI s 33 (a1).toNatClampNeg)).toNatClampNeg)]) (rest := []) dX11_addMark_66 cvX11_280 okX10_addName rfl (Nat.le_of_ble_eq_true rfl) BS_244 (Nat.le_of_ble_eq_true rfl) (Nat.le_of_ble_eq_true rfl) hci_10 (Nat.le_of_ble_eq_true rfl) (Nat.le_of_ble_eq_true rfl) h (fun s18 h => ?_)
      refine JT_aload_n (q := 1) dX11_addMark_69 rfl rfl ?_
      refine JS_getR (x := 244) dX11_addMark_70 flX11_93 BS_2 (Nat.le_of_ble_eq_true rfl) (Nat.le_of_ble_eq_true rfl) (Or.inl ⟨_, ct_11_13⟩) RF_2_13 ?_
      refine JT_bipush (v := 32) dX11_addMark_73 bp_32 ?_
      obtain ⟨o26, h⟩ := h
      refine JS_callVV (M' := MX10_add) (d' := 0) (As := [.int (32 : Int32)]) (rest := []) (P := (fun wm9 => (mX10_add s18 (32 : Int32)) = wm9)) dX11_addMark_75 cvX11_275 okX10_add rfl (Nat.le_of_ble_eq_true rfl) BS_244 (Nat.le_of_ble_eq_true rfl) (Nat.le_of_ble_eq_true rfl) hci_10 (Nat.le_of_ble_eq_true rfl) (Nat.le_of_ble_eq_true rfl) (pX10_add  ((32 : Int32)) o26 rfl) (fun wm9 hq9 => ?_)
      subst hq9
      refine JT_aload_n (q := 1) dX11_addMark_78 rfl rfl ?_
      refine JS_getR (x := 31) dX11_addMark_79 flX11_41 BS_2 (Nat.le_of_ble_eq_true rfl) (Nat.le_of_ble_eq_true rfl) (Or.inl ⟨_, ct_11_5⟩) RF_2_5 ?_
      refine JT_iload_n (q := 2) dX11_addMark_82 rfl rfl ?_
      refine JT_iload_n (q := 3) dX11_addMark_83 rfl rfl ?_
      obtain ⟨o25, h⟩ := h
      refine JS_callVI (M' := MX4_isScarred) (d' := 1) (As := [.int a1, .int a2]) (rest := []) (P := (fun zv9 wm9 => (vX4_isScarred (mX10_add s18 (32 : Int32)) 31 5 a1 a2) = zv9 ∧ (mX10_add s18 (32 : Int32)) = wm9)) dX11_addMark_84 cvX11_284 okX4_isScarred rfl (Nat.le_of_ble_eq_true rfl) BS_31 (Nat.le_of_ble_eq_true rfl) (Nat.le_of_ble_eq_true rfl) hci_4 (Nat.le_of_ble_eq_true rfl) (Nat.le_of_ble_eq_true rfl) (pX4_isScarred hL_31 (a1) (a2) o25 ⟨rfl, rfl⟩) (fun zv9 wm9 hq9 => ?_)
      obtain ⟨rfl, rfl⟩ := hq9
      refine JT_if_eq (tgt := 102) dX11_addMark_87 (by decide) (fun hc24 => ?_) (fun hc24 => ?_)
      · have h := h.1 hc24
        refine JT_aload_n (q := 1) dX11_addMark_102 rfl rfl ?_
        refine JS_getR (x := 244) dX11_addMark_103 flX11_93 BS_2 (Nat.le_of_ble_eq_true rfl) (Nat.le_of_ble_eq_true rfl) (Or.inl ⟨_, ct_11_13⟩) RF_2_13 ?_
        refine JT_aload_n (q := 1) dX11_addMark_106 rfl rfl ?_
        refine JS_getR (x := 31) dX11_addMark_107 flX11_41 BS_2 (Nat.le_of_ble_eq_true rfl) (Nat.le_of_ble_eq_true rfl) (Or.inl ⟨_, ct_11_5⟩) RF_2_5 ?_
        refine JS_getR (x := 34) dX11_addMark_110 flX11_220 BS_31 (Nat.le_of_ble_eq_true rfl) (Nat.le_of_ble_eq_true rfl) (Or.inr ⟨_, ct_4_2⟩) RF_31_2 ?_
        refine JT_iload_n (q := 2) dX11_addMark_113 rfl rfl ?_
        obtain ⟨o20, h⟩ := h
        refine JS_iald dX11_addMark_114 BS_34 (Nat.le_of_ble_eq_true rfl) (Nat.le_of_ble_eq_true rfl) o20 ?_
        refine JS_callVV (M' := MX10_addNumber) (d' := 1) (As := [.int (gI (mX10_add s18 (32 : Int32)) 34 (a1).toNatClampNeg)]) (rest := []) dX11_addMark_115 cvX11_287 okX10_addNumber rfl (Nat.le_of_ble_eq_true rfl) BS_244 (Nat.le_of_ble_eq_true rfl) (Nat.le_of_ble_eq_true rfl) hci_10 (Nat.le_of_ble_eq_true rfl) (Nat.le_of_ble_eq_true rfl) h (fun s21 h => ?_)
        exact JT_sub [1, 2, 3, 0] rfl h
      · have h := h.2 hc24
        refine JT_aload_n (q := 1) dX11_addMark_90 rfl rfl ?_
        refine JS_getR (x := 244) dX11_addMark_91 flX11_93 BS_2 (Nat.le_of_ble_eq_true rfl) (Nat.le_of_ble_eq_true rfl) (Or.inl ⟨_, ct_11_13⟩) RF_2_13 ?_
        refine JT_bipush (v := 63) dX11_addMark_94 bp_63 ?_
        obtain ⟨o23, h⟩ := h
        refine JS_callVV (M' := MX10_add) (d' := 0) (As := [.int (63 : Int32)]) (rest := []) (P := (fun wm9 => (mX10_add (mX10_add s18 (32 : Int32)) (63 : Int32)) = wm9)) dX11_addMark_96 cvX11_275 okX10_add rfl (Nat.le_of_ble_eq_true rfl) BS_244 (Nat.le_of_ble_eq_true rfl) (Nat.le_of_ble_eq_true rfl) hci_10 (Nat.le_of_ble_eq_true rfl) (Nat.le_of_ble_eq_true rfl) (pX10_add  ((63 : Int32)) o23 rfl) (fun wm9 hq9 => ?_)
        subst hq9
        refine JT_goto (tgt := 118) dX11_addMark_99 (by decide) ?_
        exact JT_sub [1, 2, 3, 0] rfl h
    refine JT_if_ne (tgt := 39) dX11_addMark_31 (by decide) (fun hc30 => ?_) (fun hc30 => ?_)
    · refine JT_bipush (v := 45) dX11_addMark_39 bp_45 ?_
      exact hj29 _ (by rw [if_neg hc30])
    · refine JT_bipush (v := 43) dX11_addMark_34 bp_43 ?_
      refine JT_goto (tgt := 41) dX11_addMark_36 (by decide) ?_
      exact hj29 _ (by rw [if_pos hc30])
set_option maxRecDepth 20000 in
theorem bX11_between_30 (a1 : Int32) (a2 : Int32) (a3 : Int32) (a4 : Int32) (a5 : Int32) {s : SM} {Q : Int32 → SM → Prop} (h : (((gI s 31 9) ≤ a5 → Q (if a3 = (-1 : Int32) then a4 else (-1 : Int32)) s) ∧ (¬ (gI s 31 9) ≤ a5 → rX4_isOpen s 31 5 a5 ∧ (((vX4_isOpen s 31 5 a5) = 0 → BI MX11_between 2 30 [(0, .ref 2), (1, .int a1), (2, .int a2), (3, .int a3), (4, .int a4), (5, .int (a5 + 1))] s Q) ∧ (¬ (vX4_isOpen s 31 5 a5) = 0 → vp_in a5 60 ∧ ((¬ (gI s 32 (a5).toNatClampNeg) = a1 → BI MX11_between 2 30 [(0, .ref 2), (1, .int a1), (2, .int a2), (3, .int a3), (4, .int a4), (5, .int (a5 + 1))] s Q) ∧ ((gI s 32 (a5).toNatClampNeg) = a1 → vp_in a5 60 ∧ ((¬ (gI s 33 (a5).toNatClampNeg) = a2 → BI MX11_between 2 30 [(0, .ref 2), (1, .int a1), (2, .int a2), (3, .int a3), (4, .int a4), (5, .int (a5 + 1))] s Q) ∧ ((gI s 33 (a5).toNatClampNeg) = a2 → ((¬ a4 = a3 → BI MX11_between 2 30 [(0, .ref 2), (1, .int a1), (2, .int a2), (3, .int a3), (4, .int (a4 + 1)), (5, .int (a5 + 1))] s Q) ∧ (a4 = a3 → Q a5 s))))))))))) : BI MX11_between 2 30 [(0, .ref 2), (1, .int a1), (2, .int a2), (3, .int a3), (4, .int a4), (5, .int a5)] s Q := by
  refine JT_iload (q := 5) dX11_between_30 rfl ?_
  refine JT_aload_n (q := 0) dX11_between_32 rfl rfl ?_
  refine JS_getR (x := 31) dX11_between_33 flX11_41 BS_2 (Nat.le_of_ble_eq_true rfl) (Nat.le_of_ble_eq_true rfl) (Or.inl ⟨_, ct_11_5⟩) RF_2_5 ?_
  refine JS_getI dX11_between_36 flX11_162 BS_31 (Nat.le_of_ble_eq_true rfl) (Nat.le_of_ble_eq_true rfl) (Or.inl ct_4_9) ?_
  refine JT_icmp_ge (tgt := 100) dX11_between_39 (by decide) (fun hc10 => ?_) (fun hc10 => ?_)
  · have h := h.1 hc10
    refine JT_iload_n (q := 3) dX11_between_100 rfl rfl ?_
    refine JT_iconst (v := -1) dX11_between_101 ic_m1 ?_
    have hj1 : ∀ v : Int32, v = (if a3 = (-1 : Int32) then a4 else (-1 : Int32)) → JT MX11_between 2 0 0 111 [(0, .ref 2), (1, .int a1), (2, .int a2), (3, .int a3), (4, .int a4), (5, .int a5)] [.int v] (std s) (KQ Q) := by
      intro v hv
      subst hv
      exact JS_iret dX11_between_111 rfl rfl h
    refine JT_icmp_ne (tgt := 110) dX11_between_102 (by decide) (fun hc2 => ?_) (fun hc2 => ?_)
    · refine JT_iconst (v := -1) dX11_between_110 ic_m1 ?_
      exact hj1 _ (by rw [if_neg hc2])
    · refine JT_iload (q := 4) dX11_between_105 rfl ?_
      refine JT_goto (tgt := 111) dX11_between_107 (by decide) ?_
      exact hj1 _ (by rw [if_pos hc2])
  · have h := h.2 hc10
    refine JT_aload_n (q := 0) dX11_between_42 rfl rfl ?_
    refine JS_getR (x := 31) dX11_between_43 flX11_41 BS_2 (Nat.le_of_ble_eq_true rfl) (Nat.le_of_ble_eq_true rfl) (Or.inl ⟨_, ct_11_5⟩) RF_2_5 ?_
    refine JT_iload (q := 5) dX11_between_46 rfl ?_
    obtain ⟨o9, h⟩ := h
    refine JS_callVI (M' := MX4_isOpen) (d' := 1) (As := [.int a5]) (rest := []) (P := (fun zv9 wm9 => (vX4_isOpen s 31 5 a5) = zv9 ∧ s = wm9)) dX11_between_48 cvX11_251 okX4_isOpen rfl (Nat.le_of_ble_eq_true rfl) BS_31 (Nat.le_of_ble_eq_true rfl) (Nat.le_of_ble_eq_true rfl) hci_4 (Nat.le_of_ble_eq_true rfl) (Nat.le_of_ble_eq_true rfl) (pX4_isOpen hL_31 (a5) o9 ⟨rfl, rfl⟩) (fun zv9 wm9 hq9 => ?_)
    obtain ⟨rfl, rfl⟩ := hq9
    refine JT_if_eq (tgt := 94) dX11_between_51 (by decide) (fun hc8 => ?_) (fun hc8 => ?_)
    · have h := h.1 hc8
      refine JT_iinc (q := 5) (v := (a5 + 1)) (lv' := [(5, .int (a5 + 1)), (0, .ref 2), (1, .int a1), (2, .int a2), (3, .int a3), (4, .int a4)]) dX11_between_94 rfl (by rfl) (Nat.le_of_ble_eq_true rfl) rfl ?_
      refine JT_goto (tgt := 30) dX11_between_97 (by decide) ?_
      exact JT_sub [1, 2, 3, 4, 5, 0] rfl h
    · have h := h.2 hc8
      refine JT_aload_n (q := 0) dX11_between_54 rfl rfl ?_
      refine JS_getR (x := 31) dX11_between_55 flX11_41 BS_2 (Nat.le_of_ble_eq_true rfl) (Nat.le_of_ble_eq_true rfl) (Or.inl ⟨_, ct_11_5⟩) RF_2_5 ?_
      refine JS_getR (x := 32) dX11_between_58 flX11_214 BS_31 (Nat.le_of_ble_eq_true rfl) (Nat.le_of_ble_eq_true rfl) (Or.inr ⟨_, ct_4_0⟩) RF_31_0 ?_
      refine JT_iload (q := 5) dX11_between_61 rfl ?_
      obtain ⟨o3, h⟩ := h
      refine JS_iald dX11_between_63 BS_32 (Nat.le_of_ble_eq_true rfl) (Nat.le_of_ble_eq_true rfl) o3 ?_
      refine JT_iload_n (q := 1) dX11_between_64 rfl rfl ?_
      refine JT_icmp_ne (tgt := 94) dX11_between_65 (by decide) (fun hc7 => ?_) (fun hc7 => ?_)
      · have h := h.1 hc7
        refine JT_iinc (q := 5) (v := (a5 + 1)) (lv' := [(5, .int (a5 + 1)), (0, .ref 2), (1, .int a1), (2, .int a2), (3, .int a3), (4, .int a4)]) dX11_between_94 rfl (by rfl) (Nat.le_of_ble_eq_true rfl) rfl ?_
        refine JT_goto (tgt := 30) dX11_between_97 (by decide) ?_
        exact JT_sub [1, 2, 3, 4, 5, 0] rfl h
      · have h := h.2 hc7
        refine JT_aload_n (q := 0) dX11_between_68 rfl rfl ?_
        refine JS_getR (x := 31) dX11_between_69 flX11_41 BS_2 (Nat.le_of_ble_eq_true rfl) (Nat.le_of_ble_eq_true rfl) (Or.inl ⟨_, ct_11_5⟩) RF_2_5 ?_
        refine JS_getR (x := 33) dX11_between_72 flX11_217 BS_31 (Nat.le_of_ble_eq_true rfl) (Nat.le_of_ble_eq_true rfl) (Or.inr ⟨_, ct_4_1⟩) RF_31_1 ?_
        refine JT_iload (q := 5) dX11_between_75 rfl ?_
        obtain ⟨o4, h⟩ := h
        refine JS_iald dX11_between_77 BS_33 (Nat.le_of_ble_eq_true rfl) (Nat.le_of_ble_eq_true rfl) o4 ?_
        refine JT_iload_n (q := 2) dX11_between_78 rfl rfl ?_
        refine JT_icmp_ne (tgt := 94) dX11_between_79 (by decide) (fun hc6 => ?_) (fun hc6 => ?_)
        · have h := h.1 hc6
          refine JT_iinc (q := 5) (v := (a5 + 1)) (lv' := [(5, .int (a5 + 1)), (0, .ref 2), (1, .int a1), (2, .int a2), (3, .int a3), (4, .int a4)]) dX11_between_94 rfl (by rfl) (Nat.le_of_ble_eq_true rfl) rfl ?_
          refine JT_goto (tgt := 30) dX11_between_97 (by decide) ?_
          exact JT_sub [1, 2, 3, 4, 5, 0] rfl h
        · have h := h.2 hc6
          refine JT_iload (q := 4) dX11_between_82 rfl ?_
          refine JT_iload_n (q := 3) dX11_between_84 rfl rfl ?_
          refine JT_icmp_ne (tgt := 91) dX11_between_85 (by decide) (fun hc5 => ?_) (fun hc5 => ?_)
          · have h := h.1 hc5
            refine JT_iinc (q := 4) (v := (a4 + 1)) (lv' := [(4, .int (a4 + 1)), (0, .ref 2), (1, .int a1), (2, .int a2), (3, .int a3), (5, .int a5)]) dX11_between_91 rfl (by rfl) (Nat.le_of_ble_eq_true rfl) rfl ?_
            refine JT_iinc (q := 5) (v := (a5 + 1)) (lv' := [(5, .int (a5 + 1)), (4, .int (a4 + 1)), (0, .ref 2), (1, .int a1), (2, .int a2), (3, .int a3)]) dX11_between_94 rfl (by rfl) (Nat.le_of_ble_eq_true rfl) rfl ?_
            refine JT_goto (tgt := 30) dX11_between_97 (by decide) ?_
            exact JT_sub [2, 3, 4, 5, 1, 0] rfl h
          · have h := h.2 hc5
            refine JT_iload (q := 5) dX11_between_88 rfl ?_
            exact JS_iret dX11_between_90 rfl rfl h
set_option maxRecDepth 20000 in
theorem bX11_between (a1 : Int32) (a2 : Int32) (a3 : Int32) {s : SM} {Q : Int32 → SM → Prop} (h : (((vX6_hasBody s 5 a1) = 0 → Q (-1 : Int32) s) ∧ (¬ (vX6_hasBody s 5 a1) = 0 → ((¬ (vX6_hasBody s 5 a2) = 0 → BI MX11_between 2 30 [(0, .ref 2), (1, .int a1), (2, .int a2), (3, .int a3), (4, .int (0 : Int32)), (5, .int (0 : Int32))] s Q) ∧ ((vX6_hasBody s 5 a2) = 0 → Q (-1 : Int32) s))))) : KI MX11_between 2 [.ref 2, .int a1, .int a2, .int a3] s Q := by
  show BI MX11_between 2 0 [(0, .ref 2), (1, .int a1), (2, .int a2), (3, .int a3)] s Q
  refine JT_aload_n (q := 0) dX11_between_0 rfl rfl ?_
  refine JS_getR (x := 5) dX11_between_1 flX11_19 BS_2 (Nat.le_of_ble_eq_true rfl) (Nat.le_of_ble_eq_true rfl) (Or.inl ⟨_, ct_11_1⟩) RF_2_1 ?_
  refine JT_iload_n (q := 1) dX11_between_4 rfl rfl ?_
  refine JS_callVI (M' := MX6_hasBody) (d' := 0) (As := [.int a1]) (rest := []) (P := (fun zv9 wm9 => (vX6_hasBody s 5 a1) = zv9 ∧ s = wm9)) dX11_between_5 cvX11_172 okX6_hasBody rfl (Nat.le_of_ble_eq_true rfl) BS_5 (Nat.le_of_ble_eq_true rfl) (Nat.le_of_ble_eq_true rfl) hci_6 (Nat.le_of_ble_eq_true rfl) (Nat.le_of_ble_eq_true rfl) (pX6_hasBody hp_5 (a1)  ⟨rfl, rfl⟩) (fun zv9 wm9 hq9 => ?_)
  obtain ⟨rfl, rfl⟩ := hq9
  refine JT_if_eq (tgt := 22) dX11_between_8 (by decide) (fun hc3 => ?_) (fun hc3 => ?_)
  · have h := h.1 hc3
    refine JT_iconst (v := -1) dX11_between_22 ic_m1 ?_
    exact JS_iret dX11_between_23 rfl rfl h
  · have h := h.2 hc3
    refine JT_aload_n (q := 0) dX11_between_11 rfl rfl ?_
    refine JS_getR (x := 5) dX11_between_12 flX11_19 BS_2 (Nat.le_of_ble_eq_true rfl) (Nat.le_of_ble_eq_true rfl) (Or.inl ⟨_, ct_11_1⟩) RF_2_1 ?_
    refine JT_iload_n (q := 2) dX11_between_15 rfl rfl ?_
    refine JS_callVI (M' := MX6_hasBody) (d' := 0) (As := [.int a2]) (rest := []) (P := (fun zv9 wm9 => (vX6_hasBody s 5 a2) = zv9 ∧ s = wm9)) dX11_between_16 cvX11_172 okX6_hasBody rfl (Nat.le_of_ble_eq_true rfl) BS_5 (Nat.le_of_ble_eq_true rfl) (Nat.le_of_ble_eq_true rfl) hci_6 (Nat.le_of_ble_eq_true rfl) (Nat.le_of_ble_eq_true rfl) (pX6_hasBody hp_5 (a2)  ⟨rfl, rfl⟩) (fun zv9 wm9 hq9 => ?_)
    obtain ⟨rfl, rfl⟩ := hq9
    refine JT_if_ne (tgt := 24) dX11_between_19 (by decide) (fun hc1 => ?_) (fun hc1 => ?_)
    · have h := h.1 hc1
      refine JT_iconst (v := 0) dX11_between_24 ic_0 ?_
      refine JT_istore (lv' := [(4, .int (0 : Int32)), (0, .ref 2), (1, .int a1), (2, .int a2), (3, .int a3)]) dX11_between_25 (Nat.le_of_ble_eq_true rfl) rfl ?_
      refine JT_iconst (v := 0) dX11_between_27 ic_0 ?_
      refine JT_istore (lv' := [(5, .int (0 : Int32)), (4, .int (0 : Int32)), (0, .ref 2), (1, .int a1), (2, .int a2), (3, .int a3)]) dX11_between_28 (Nat.le_of_ble_eq_true rfl) rfl ?_
      exact JT_sub [2, 3, 4, 5, 1, 0] rfl h
    · have h := h.2 hc1
      refine JT_iconst (v := -1) dX11_between_22 ic_m1 ?_
      exact JS_iret dX11_between_23 rfl rfl h
set_option maxRecDepth 20000 in
theorem bX11_fullest_7 (a1 : Int32) (a2 : Int32) (a3 : Int32) (a4 : Int32) {s : SM} {Q : Int32 → SM → Prop} (h : ((a1 < a4 → BI MX11_fullest 2 50 [(0, .ref 2), (1, .int a1), (2, .int a2), (3, .int a3), (4, .int a4)] s Q) ∧ (¬ a1 < a4 → (((9 : Int32) ≤ a4 → BI MX11_fullest 2 50 [(0, .ref 2), (1, .int a1), (2, .int a2), (3, .int a3), (4, .int a4)] s Q) ∧ (¬ (9 : Int32) ≤ a4 → KI MX4_leastLeft 1 [.ref 31, .int a2] s (fun x2 s1 => BI MX11_fullest 2 7 [(0, .ref 2), (1, .int a1), (2, .int (a2 ||| (if x2 = (-1 : Int32) then (0 : Int32) else ((1 : Int32) <<< (x2 &&& 31))))), (3, .int x2), (4, .int (a4 + 1))] s1 Q)))))) : BI MX11_fullest 2 7 [(0, .ref 2), (1, .int a1), (2, .int a2), (3, .int a3), (4, .int a4)] s Q := by
  refine JT_iload (q := 4) dX11_fullest_7 rfl ?_
  refine JT_iload_n (q := 1) dX11_fullest_9 rfl rfl ?_
  refine JT_icmp_gt (tgt := 50) dX11_fullest_10 (by decide) (fun hc6 => ?_) (fun hc6 => ?_)
  · have h := h.1 hc6
    exact JT_sub [0, 1, 2, 3, 4] rfl h
  · have h := h.2 hc6
    refine JT_iload (q := 4) dX11_fullest_13 rfl ?_
    refine JT_bipush (v := 9) dX11_fullest_15 bp_9 ?_
    refine JT_icmp_ge (tgt := 50) dX11_fullest_17 (by decide) (fun hc5 => ?_) (fun hc5 => ?_)
    · have h := h.1 hc5
      exact JT_sub [0, 1, 2, 3, 4] rfl h
    · have h := h.2 hc5
      refine JT_aload_n (q := 0) dX11_fullest_20 rfl rfl ?_
      refine JS_getR (x := 31) dX11_fullest_21 flX11_41 BS_2 (Nat.le_of_ble_eq_true rfl) (Nat.le_of_ble_eq_true rfl) (Or.inl ⟨_, ct_11_5⟩) RF_2_5 ?_
      refine JT_iload_n (q := 2) dX11_fullest_24 rfl rfl ?_
      refine JS_callVI (M' := MX4_leastLeft) (d' := 1) (As := [.int a2]) (rest := []) dX11_fullest_25 cvX11_260 okX4_leastLeft rfl (Nat.le_of_ble_eq_true rfl) BS_31 (Nat.le_of_ble_eq_true rfl) (Nat.le_of_ble_eq_true rfl) hci_4 (Nat.le_of_ble_eq_true rfl) (Nat.le_of_ble_eq_true rfl) h (fun x2 s1 h => ?_)
      refine JT_istore_n (lv' := [(3, .int x2), (0, .ref 2), (1, .int a1), (2, .int a2), (4, .int a4)]) dX11_fullest_28 rfl (Nat.le_of_ble_eq_true rfl) rfl ?_
      refine JT_iload_n (q := 3) dX11_fullest_29 rfl rfl ?_
      refine JT_iload_n (q := 0) dX11_fullest_30 rfl rfl ?_
      refine JT_iconst (v := -1) dX11_fullest_31 ic_m1 ?_
      have hj3 : ∀ v : Int32, v = (if x2 = (-1 : Int32) then (0 : Int32) else ((1 : Int32) <<< (x2 &&& 31))) → JT MX11_fullest 2 0 0 42 [(3, .int x2), (0, .ref 2), (1, .int a1), (2, .int a2), (4, .int a4)] [.int v, .int a2] (std s1) (KQ Q) := by
        intro v hv
        subst hv
        refine JT_ior dX11_fullest_42 ?_
        refine JT_istore_n (lv' := [(2, .int (a2 ||| (if x2 = (-1 : Int32) then (0 : Int32) else ((1 : Int32) <<< (x2 &&& 31))))), (3, .int x2), (0, .ref 2), (1, .int a1), (4, .int a4)]) dX11_fullest_43 rfl (Nat.le_of_ble_eq_true rfl) rfl ?_
        refine JT_iinc (q := 4) (v := (a4 + 1)) (lv' := [(4, .int (a4 + 1)), (2, .int (a2 ||| (if x2 = (-1 : Int32) then (0 : Int32) else ((1 : Int32) <<< (x2 &&& 31))))), (3, .int x2), (0, .ref 2), (1, .int a1)]) dX11_fullest_44 rfl (by rfl) (Nat.le_of_ble_eq_true rfl) rfl ?_
        refine JT_goto (tgt := 7) dX11_fullest_47 (by decide) ?_
        exact JT_sub [3, 4, 1, 2, 0] rfl h
      refine JT_icmp_ne (tgt := 39) dX11_fullest_32 (by decide) (fun hc4 => ?_) (fun hc4 => ?_)
      · refine JT_iconst (v := 1) dX11_fullest_39 ic_1 ?_
        refine JT_iload_n (q := 0) dX11_fullest_40 rfl rfl ?_
        refine JT_ishl dX11_fullest_41 ?_
        exact hj3 _ (by rw [if_neg hc4])
      · refine JT_iconst (v := 0) dX11_fullest_35 ic_0 ?_
        refine JT_goto (tgt := 42) dX11_fullest_36 (by decide) ?_
        exact hj3 _ (by rw [if_pos hc4])
set_option maxRecDepth 20000 in
theorem bX11_fullest_50 (a1 : Int32) (a2 : Int32) (a3 : Int32) (a4 : Int32) {s : SM} {Q : Int32 → SM → Prop} (h : Q (if (9 : Int32) ≤ a1 then (-1 : Int32) else a3) s) : BI MX11_fullest 2 50 [(0, .ref 2), (1, .int a1), (2, .int a2), (3, .int a3), (4, .int a4)] s Q := by
  refine JT_iload_n (q := 1) dX11_fullest_50 rfl rfl ?_
  refine JT_bipush (v := 9) dX11_fullest_51 bp_9 ?_
  have hj1 : ∀ v : Int32, v = (if (9 : Int32) ≤ a1 then (-1 : Int32) else a3) → JT MX11_fullest 2 0 0 61 [(0, .ref 2), (1, .int a1), (2, .int a2), (3, .int a3), (4, .int a4)] [.int v] (std s) (KQ Q) := by
    intro v hv
    subst hv
    exact JS_iret dX11_fullest_61 rfl rfl h
  refine JT_icmp_ge (tgt := 60) dX11_fullest_53 (by decide) (fun hc2 => ?_) (fun hc2 => ?_)
  · refine JT_iconst (v := -1) dX11_fullest_60 ic_m1 ?_
    exact hj1 _ (by rw [if_pos hc2])
  · refine JT_iload_n (q := 3) dX11_fullest_56 rfl rfl ?_
    refine JT_goto (tgt := 61) dX11_fullest_57 (by decide) ?_
    exact hj1 _ (by rw [if_neg hc2])
set_option maxRecDepth 20000 in
theorem bX11_fullest (a1 : Int32) {s : SM} {Q : Int32 → SM → Prop} (h : BI MX11_fullest 2 7 [(0, .ref 2), (1, .int a1), (2, .int (0 : Int32)), (3, .int (-1 : Int32)), (4, .int (0 : Int32))] s Q) : KI MX11_fullest 2 [.ref 2, .int a1] s Q := by
  show BI MX11_fullest 2 0 [(0, .ref 2), (1, .int a1)] s Q
  refine JT_iconst (v := 0) dX11_fullest_0 ic_0 ?_
  refine JT_istore_n (lv' := [(2, .int (0 : Int32)), (0, .ref 2), (1, .int a1)]) dX11_fullest_1 rfl (Nat.le_of_ble_eq_true rfl) rfl ?_
  refine JT_iconst (v := -1) dX11_fullest_2 ic_m1 ?_
  refine JT_istore_n (lv' := [(3, .int (-1 : Int32)), (2, .int (0 : Int32)), (0, .ref 2), (1, .int a1)]) dX11_fullest_3 rfl (Nat.le_of_ble_eq_true rfl) rfl ?_
  refine JT_iconst (v := 0) dX11_fullest_4 ic_0 ?_
  refine JT_istore (lv' := [(4, .int (0 : Int32)), (3, .int (-1 : Int32)), (2, .int (0 : Int32)), (0, .ref 2), (1, .int a1)]) dX11_fullest_5 (Nat.le_of_ble_eq_true rfl) rfl ?_
  exact JT_sub [3, 4, 2, 1, 0] rfl h
set_option maxRecDepth 20000 in
theorem bX11_owes_27 (a1 : Int32) (a2 : Int32) (a3 : Int32) (a4 : Int32) {s : SM} {Q : Int32 → SM → Prop} (h : (((gI s 31 9) ≤ a4 → Q a3 s) ∧ (¬ (gI s 31 9) ≤ a4 → rX4_isOpen s 31 5 a4 ∧ (((vX4_isOpen s 31 5 a4) = 0 → BI MX11_owes 2 27 [(0, .ref 2), (1, .int a1), (2, .int a2), (3, .int a3), (4, .int (a4 + 1))] s Q) ∧ (¬ (vX4_isOpen s 31 5 a4) = 0 → ((¬ a2 = 0 → vp_in a4 60 ∧ ((¬ a2 = 0 → vp_in a4 60 ∧ BI MX11_owes 2 27 [(0, .ref 2), (1, .int a1), (2, .int a2), (3, .int (a3 ||| (if (gI s 33 (a4).toNatClampNeg) = a1 then ((1 : Int32) <<< ((gI s 32 (a4).toNatClampNeg) &&& 31)) else (0 : Int32)))), (4, .int (a4 + 1))] s Q) ∧ (a2 = 0 → vp_in a4 60 ∧ BI MX11_owes 2 27 [(0, .ref 2), (1, .int a1), (2, .int a2), (3, .int (a3 ||| (if (gI s 33 (a4).toNatClampNeg) = a1 then ((1 : Int32) <<< ((gI s 33 (a4).toNatClampNeg) &&& 31)) else (0 : Int32)))), (4, .int (a4 + 1))] s Q))) ∧ (a2 = 0 → vp_in a4 60 ∧ ((¬ a2 = 0 → vp_in a4 60 ∧ BI MX11_owes 2 27 [(0, .ref 2), (1, .int a1), (2, .int a2), (3, .int (a3 ||| (if (gI s 32 (a4).toNatClampNeg) = a1 then ((1 : Int32) <<< ((gI s 32 (a4).toNatClampNeg) &&& 31)) else (0 : Int32)))), (4, .int (a4 + 1))] s Q) ∧ (a2 = 0 → vp_in a4 60 ∧ BI MX11_owes 2 27 [(0, .ref 2), (1, .int a1), (2, .int a2), (3, .int (a3 ||| (if (gI s 32 (a4).toNatClampNeg) = a1 then ((1 : Int32) <<< ((gI s 33 (a4).toNatClampNeg) &&& 31)) else (0 : Int32)))), (4, .int (a4 + 1))] s Q))))))))) : BI MX11_owes 2 27 [(0, .ref 2), (1, .int a1), (2, .int a2), (3, .int a3), (4, .int a4)] s Q := by
  refine JT_iload (q := 4) dX11_owes_27 rfl ?_
  refine JT_aload_n (q := 0) dX11_owes_29 rfl rfl ?_
  refine JS_getR (x := 31) dX11_owes_30 flX11_41 BS_2 (Nat.le_of_ble_eq_true rfl) (Nat.le_of_ble_eq_true rfl) (Or.inl ⟨_, ct_11_5⟩) RF_2_5 ?_
  refine JS_getI dX11_owes_33 flX11_162 BS_31 (Nat.le_of_ble_eq_true rfl) (Nat.le_of_ble_eq_true rfl) (Or.inl ct_4_9) ?_
  refine JT_icmp_ge (tgt := 132) dX11_owes_36 (by decide) (fun hc20 => ?_) (fun hc20 => ?_)
  · have h := h.1 hc20
    refine JT_iload_n (q := 3) dX11_owes_132 rfl rfl ?_
    exact JS_iret dX11_owes_133 rfl rfl h
  · have h := h.2 hc20
    refine JT_aload_n (q := 0) dX11_owes_39 rfl rfl ?_
    refine JS_getR (x := 31) dX11_owes_40 flX11_41 BS_2 (Nat.le_of_ble_eq_true rfl) (Nat.le_of_ble_eq_true rfl) (Or.inl ⟨_, ct_11_5⟩) RF_2_5 ?_
    refine JT_iload (q := 4) dX11_owes_43 rfl ?_
    obtain ⟨o19, h⟩ := h
    refine JS_callVI (M' := MX4_isOpen) (d' := 1) (As := [.int a4]) (rest := []) (P := (fun zv9 wm9 => (vX4_isOpen s 31 5 a4) = zv9 ∧ s = wm9)) dX11_owes_45 cvX11_251 okX4_isOpen rfl (Nat.le_of_ble_eq_true rfl) BS_31 (Nat.le_of_ble_eq_true rfl) (Nat.le_of_ble_eq_true rfl) hci_4 (Nat.le_of_ble_eq_true rfl) (Nat.le_of_ble_eq_true rfl) (pX4_isOpen hL_31 (a4) o19 ⟨rfl, rfl⟩) (fun zv9 wm9 hq9 => ?_)
    obtain ⟨rfl, rfl⟩ := hq9
    refine JT_if_eq (tgt := 126) dX11_owes_48 (by decide) (fun hc18 => ?_) (fun hc18 => ?_)
    · have h := h.1 hc18
      refine JT_iinc (q := 4) (v := (a4 + 1)) (lv' := [(4, .int (a4 + 1)), (0, .ref 2), (1, .int a1), (2, .int a2), (3, .int a3)]) dX11_owes_126 rfl (by rfl) (Nat.le_of_ble_eq_true rfl) rfl ?_
      refine JT_goto (tgt := 27) dX11_owes_129 (by decide) ?_
      exact JT_sub [1, 2, 3, 4, 0] rfl h
    · have h := h.2 hc18
      refine JT_iload_n (q := 2) dX11_owes_51 rfl rfl ?_
      refine JT_if_ne (tgt := 68) dX11_owes_52 (by decide) (fun hc17 => ?_) (fun hc17 => ?_)
      · have h := h.1 hc17
        refine JT_aload_n (q := 0) dX11_owes_68 rfl rfl ?_
        refine JS_getR (x := 31) dX11_owes_69 flX11_41 BS_2 (Nat.le_of_ble_eq_true rfl) (Nat.le_of_ble_eq_true rfl) (Or.inl ⟨_, ct_11_5⟩) RF_2_5 ?_
        refine JS_getR (x := 33) dX11_owes_72 flX11_217 BS_31 (Nat.le_of_ble_eq_true rfl) (Nat.le_of_ble_eq_true rfl) (Or.inr ⟨_, ct_4_1⟩) RF_31_1 ?_
        refine JT_iload (q := 4) dX11_owes_75 rfl ?_
        obtain ⟨o1, h⟩ := h
        refine JS_iald dX11_owes_77 BS_33 (Nat.le_of_ble_eq_true rfl) (Nat.le_of_ble_eq_true rfl) o1 ?_
        refine JT_istore (lv' := [(5, .int (gI s 33 (a4).toNatClampNeg)), (0, .ref 2), (1, .int a1), (2, .int a2), (3, .int a3), (4, .int a4)]) dX11_owes_78 (Nat.le_of_ble_eq_true rfl) rfl ?_
        refine JT_iload_n (q := 3) dX11_owes_80 rfl rfl ?_
        refine JT_if_ne (tgt := 97) dX11_owes_81 (by decide) (fun hc8 => ?_) (fun hc8 => ?_)
        · have h := h.1 hc8
          refine JT_aload_n (q := 1) dX11_owes_97 rfl rfl ?_
          refine JS_getR (x := 31) dX11_owes_98 flX11_41 BS_2 (Nat.le_of_ble_eq_true rfl) (Nat.le_of_ble_eq_true rfl) (Or.inl ⟨_, ct_11_5⟩) RF_2_5 ?_
          refine JS_getR (x := 32) dX11_owes_101 flX11_214 BS_31 (Nat.le_of_ble_eq_true rfl) (Nat.le_of_ble_eq_true rfl) (Or.inr ⟨_, ct_4_0⟩) RF_31_0 ?_
          refine JT_iload (q := 5) dX11_owes_104 rfl ?_
          obtain ⟨o2, h⟩ := h
          refine JS_iald dX11_owes_106 BS_32 (Nat.le_of_ble_eq_true rfl) (Nat.le_of_ble_eq_true rfl) o2 ?_
          refine JT_istore (lv' := [(6, .int (gI s 32 (a4).toNatClampNeg)), (5, .int (gI s 33 (a4).toNatClampNeg)), (0, .ref 2), (1, .int a1), (2, .int a2), (3, .int a3), (4, .int a4)]) dX11_owes_107 (Nat.le_of_ble_eq_true rfl) rfl ?_
          refine JT_iload_n (q := 5) dX11_owes_109 rfl rfl ?_
          refine JT_iload (q := 1) dX11_owes_110 rfl ?_
          refine JT_iload_n (q := 3) dX11_owes_112 rfl rfl ?_
          have hj3 : ∀ v : Int32, v = (if (gI s 33 (a4).toNatClampNeg) = a1 then ((1 : Int32) <<< ((gI s 32 (a4).toNatClampNeg) &&& 31)) else (0 : Int32)) → JT MX11_owes 2 0 0 124 [(6, .int (gI s 32 (a4).toNatClampNeg)), (5, .int (gI s 33 (a4).toNatClampNeg)), (0, .ref 2), (1, .int a1), (2, .int a2), (3, .int a3), (4, .int a4)] [.int v, .int a3] (std s) (KQ Q) := by
            intro v hv
            subst hv
            refine JT_ior dX11_owes_124 ?_
            refine JT_istore_n (lv' := [(3, .int (a3 ||| (if (gI s 33 (a4).toNatClampNeg) = a1 then ((1 : Int32) <<< ((gI s 32 (a4).toNatClampNeg) &&& 31)) else (0 : Int32)))), (6, .int (gI s 32 (a4).toNatClampNeg)), (5, .int (gI s 33 (a4).toNatClampNeg)), (0, .ref 2), (1, .int a1), (2, .int a2), (4, .int a4)]) dX11_owes_125 rfl (Nat.le_of_ble_eq_true rfl) rfl ?_
            refine JT_iinc (q := 6) (v := (a4 + 1)) (lv' := [(4, .int (a4 + 1)), (3, .int (a3 ||| (if (gI s 33 (a4).toNatClampNeg) = a1 then ((1 : Int32) <<< ((gI s 32 (a4).toNatClampNeg) &&& 31)) else (0 : Int32)))), (6, .int (gI s 32 (a4).toNatClampNeg)), (5, .int (gI s 33 (a4).toNatClampNeg)), (0, .ref 2), (1, .int a1), (2, .int a2)]) dX11_owes_126 rfl (by rfl) (Nat.le_of_ble_eq_true rfl) rfl ?_
            refine JT_goto (tgt := 27) dX11_owes_129 (by decide) ?_
            exact JT_sub [4, 5, 6, 1, 0] rfl h
          refine JT_icmp_ne (tgt := 123) dX11_owes_113 (by decide) (fun hc4 => ?_) (fun hc4 => ?_)
          · refine JT_iconst (v := 0) dX11_owes_123 ic_0 ?_
            exact hj3 _ (by rw [if_neg hc4])
          · refine JT_iconst (v := 1) dX11_owes_116 ic_1 ?_
            refine JT_iload (q := 0) dX11_owes_117 rfl ?_
            refine JT_ishl dX11_owes_119 ?_
            refine JT_goto (tgt := 124) dX11_owes_120 (by decide) ?_
            exact hj3 _ (by rw [if_pos hc4])
        · have h := h.2 hc8
          refine JT_aload_n (q := 1) dX11_owes_84 rfl rfl ?_
          refine JS_getR (x := 31) dX11_owes_85 flX11_41 BS_2 (Nat.le_of_ble_eq_true rfl) (Nat.le_of_ble_eq_true rfl) (Or.inl ⟨_, ct_11_5⟩) RF_2_5 ?_
          refine JS_getR (x := 33) dX11_owes_88 flX11_217 BS_31 (Nat.le_of_ble_eq_true rfl) (Nat.le_of_ble_eq_true rfl) (Or.inr ⟨_, ct_4_1⟩) RF_31_1 ?_
          refine JT_iload (q := 5) dX11_owes_91 rfl ?_
          obtain ⟨o5, h⟩ := h
          refine JS_iald dX11_owes_93 BS_33 (Nat.le_of_ble_eq_true rfl) (Nat.le_of_ble_eq_true rfl) o5 ?_
          refine JT_goto (tgt := 107) dX11_owes_94 (by decide) ?_
          refine JT_istore (lv' := [(6, .int (gI s 33 (a4).toNatClampNeg)), (5, .int (gI s 33 (a4).toNatClampNeg)), (0, .ref 2), (1, .int a1), (2, .int a2), (3, .int a3), (4, .int a4)]) dX11_owes_107 (Nat.le_of_ble_eq_true rfl) rfl ?_
          refine JT_iload_n (q := 5) dX11_owes_109 rfl rfl ?_
          refine JT_iload (q := 1) dX11_owes_110 rfl ?_
          refine JT_iload_n (q := 3) dX11_owes_112 rfl rfl ?_
          have hj6 : ∀ v : Int32, v = (if (gI s 33 (a4).toNatClampNeg) = a1 then ((1 : Int32) <<< ((gI s 33 (a4).toNatClampNeg) &&& 31)) else (0 : Int32)) → JT MX11_owes 2 0 0 124 [(6, .int (gI s 33 (a4).toNatClampNeg)), (5, .int (gI s 33 (a4).toNatClampNeg)), (0, .ref 2), (1, .int a1), (2, .int a2), (3, .int a3), (4, .int a4)] [.int v, .int a3] (std s) (KQ Q) := by
            intro v hv
            subst hv
            refine JT_ior dX11_owes_124 ?_
            refine JT_istore_n (lv' := [(3, .int (a3 ||| (if (gI s 33 (a4).toNatClampNeg) = a1 then ((1 : Int32) <<< ((gI s 33 (a4).toNatClampNeg) &&& 31)) else (0 : Int32)))), (6, .int (gI s 33 (a4).toNatClampNeg)), (5, .int (gI s 33 (a4).toNatClampNeg)), (0, .ref 2), (1, .int a1), (2, .int a2), (4, .int a4)]) dX11_owes_125 rfl (Nat.le_of_ble_eq_true rfl) rfl ?_
            refine JT_iinc (q := 6) (v := (a4 + 1)) (lv' := [(4, .int (a4 + 1)), (3, .int (a3 ||| (if (gI s 33 (a4).toNatClampNeg) = a1 then ((1 : Int32) <<< ((gI s 33 (a4).toNatClampNeg) &&& 31)) else (0 : Int32)))), (6, .int (gI s 33 (a4).toNatClampNeg)), (5, .int (gI s 33 (a4).toNatClampNeg)), (0, .ref 2), (1, .int a1), (2, .int a2)]) dX11_owes_126 rfl (by rfl) (Nat.le_of_ble_eq_true rfl) rfl ?_
            refine JT_goto (tgt := 27) dX11_owes_129 (by decide) ?_
            exact JT_sub [4, 5, 6, 1, 0] rfl h
          refine JT_icmp_ne (tgt := 123) dX11_owes_113 (by decide) (fun hc7 => ?_) (fun hc7 => ?_)
          · refine JT_iconst (v := 0) dX11_owes_123 ic_0 ?_
            exact hj6 _ (by rw [if_neg hc7])
          · refine JT_iconst (v := 1) dX11_owes_116 ic_1 ?_
            refine JT_iload (q := 0) dX11_owes_117 rfl ?_
            refine JT_ishl dX11_owes_119 ?_
            refine JT_goto (tgt := 124) dX11_owes_120 (by decide) ?_
            exact hj6 _ (by rw [if_pos hc7])
      · have h := h.2 hc17
        refine JT_aload_n (q := 0) dX11_owes_55 rfl rfl ?_
        refine JS_getR (x := 31) dX11_owes_56 flX11_41 BS_2 (Nat.le_of_ble_eq_true rfl) (Nat.le_of_ble_eq_true rfl) (Or.inl ⟨_, ct_11_5⟩) RF_2_5 ?_
        refine JS_getR (x := 32) dX11_owes_59 flX11_214 BS_31 (Nat.le_of_ble_eq_true rfl) (Nat.le_of_ble_eq_true rfl) (Or.inr ⟨_, ct_4_0⟩) RF_31_0 ?_
        refine JT_iload (q := 4) dX11_owes_62 rfl ?_
        obtain ⟨o9, h⟩ := h
        refine JS_iald dX11_owes_64 BS_32 (Nat.le_of_ble_eq_true rfl) (Nat.le_of_ble_eq_true rfl) o9 ?_
        refine JT_goto (tgt := 78) dX11_owes_65 (by decide) ?_
        refine JT_istore (lv' := [(5, .int (gI s 32 (a4).toNatClampNeg)), (0, .ref 2), (1, .int a1), (2, .int a2), (3, .int a3), (4, .int a4)]) dX11_owes_78 (Nat.le_of_ble_eq_true rfl) rfl ?_
        refine JT_iload_n (q := 3) dX11_owes_80 rfl rfl ?_
        refine JT_if_ne (tgt := 97) dX11_owes_81 (by decide) (fun hc16 => ?_) (fun hc16 => ?_)
        · have h := h.1 hc16
          refine JT_aload_n (q := 1) dX11_owes_97 rfl rfl ?_
          refine JS_getR (x := 31) dX11_owes_98 flX11_41 BS_2 (Nat.le_of_ble_eq_true rfl) (Nat.le_of_ble_eq_true rfl) (Or.inl ⟨_, ct_11_5⟩) RF_2_5 ?_
          refine JS_getR (x := 32) dX11_owes_101 flX11_214 BS_31 (Nat.le_of_ble_eq_true rfl) (Nat.le_of_ble_eq_true rfl) (Or.inr ⟨_, ct_4_0⟩) RF_31_0 ?_
          refine JT_iload (q := 5) dX11_owes_104 rfl ?_
          obtain ⟨o10, h⟩ := h
          refine JS_iald dX11_owes_106 BS_32 (Nat.le_of_ble_eq_true rfl) (Nat.le_of_ble_eq_true rfl) o10 ?_
          refine JT_istore (lv' := [(6, .int (gI s 32 (a4).toNatClampNeg)), (5, .int (gI s 32 (a4).toNatClampNeg)), (0, .ref 2), (1, .int a1), (2, .int a2), (3, .int a3), (4, .int a4)]) dX11_owes_107 (Nat.le_of_ble_eq_true rfl) rfl ?_
          refine JT_iload_n (q := 5) dX11_owes_109 rfl rfl ?_
          refine JT_iload (q := 1) dX11_owes_110 rfl ?_
          refine JT_iload_n (q := 3) dX11_owes_112 rfl rfl ?_
          have hj11 : ∀ v : Int32, v = (if (gI s 32 (a4).toNatClampNeg) = a1 then ((1 : Int32) <<< ((gI s 32 (a4).toNatClampNeg) &&& 31)) else (0 : Int32)) → JT MX11_owes 2 0 0 124 [(6, .int (gI s 32 (a4).toNatClampNeg)), (5, .int (gI s 32 (a4).toNatClampNeg)), (0, .ref 2), (1, .int a1), (2, .int a2), (3, .int a3), (4, .int a4)] [.int v, .int a3] (std s) (KQ Q) := by
            intro v hv
            subst hv
            refine JT_ior dX11_owes_124 ?_
            refine JT_istore_n (lv' := [(3, .int (a3 ||| (if (gI s 32 (a4).toNatClampNeg) = a1 then ((1 : Int32) <<< ((gI s 32 (a4).toNatClampNeg) &&& 31)) else (0 : Int32)))), (6, .int (gI s 32 (a4).toNatClampNeg)), (5, .int (gI s 32 (a4).toNatClampNeg)), (0, .ref 2), (1, .int a1), (2, .int a2), (4, .int a4)]) dX11_owes_125 rfl (Nat.le_of_ble_eq_true rfl) rfl ?_
            refine JT_iinc (q := 6) (v := (a4 + 1)) (lv' := [(4, .int (a4 + 1)), (3, .int (a3 ||| (if (gI s 32 (a4).toNatClampNeg) = a1 then ((1 : Int32) <<< ((gI s 32 (a4).toNatClampNeg) &&& 31)) else (0 : Int32)))), (6, .int (gI s 32 (a4).toNatClampNeg)), (5, .int (gI s 32 (a4).toNatClampNeg)), (0, .ref 2), (1, .int a1), (2, .int a2)]) dX11_owes_126 rfl (by rfl) (Nat.le_of_ble_eq_true rfl) rfl ?_
            refine JT_goto (tgt := 27) dX11_owes_129 (by decide) ?_
            exact JT_sub [4, 5, 6, 1, 0] rfl h
          refine JT_icmp_ne (tgt := 123) dX11_owes_113 (by decide) (fun hc12 => ?_) (fun hc12 => ?_)
          · refine JT_iconst (v := 0) dX11_owes_123 ic_0 ?_
            exact hj11 _ (by rw [if_neg hc12])
          · refine JT_iconst (v := 1) dX11_owes_116 ic_1 ?_
            refine JT_iload (q := 0) dX11_owes_117 rfl ?_
            refine JT_ishl dX11_owes_119 ?_
            refine JT_goto (tgt := 124) dX11_owes_120 (by decide) ?_
            exact hj11 _ (by rw [if_pos hc12])
        · have h := h.2 hc16
          refine JT_aload_n (q := 1) dX11_owes_84 rfl rfl ?_
          refine JS_getR (x := 31) dX11_owes_85 flX11_41 BS_2 (Nat.le_of_ble_eq_true rfl) (Nat.le_of_ble_eq_true rfl) (Or.inl ⟨_, ct_11_5⟩) RF_2_5 ?_
          refine JS_getR (x := 33) dX11_owes_88 flX11_217 BS_31 (Nat.le_of_ble_eq_true rfl) (Nat.le_of_ble_eq_true rfl) (Or.inr ⟨_, ct_4_1⟩) RF_31_1 ?_
          refine JT_iload (q := 5) dX11_owes_91 rfl ?_
          obtain ⟨o13, h⟩ := h
          refine JS_iald dX11_owes_93 BS_33 (Nat.le_of_ble_eq_true rfl) (Nat.le_of_ble_eq_true rfl) o13 ?_
          refine JT_goto (tgt := 107) dX11_owes_94 (by decide) ?_
          refine JT_istore (lv' := [(6, .int (gI s 33 (a4).toNatClampNeg)), (5, .int (gI s 32 (a4).toNatClampNeg)), (0, .ref 2), (1, .int a1), (2, .int a2), (3, .int a3), (4, .int a4)]) dX11_owes_107 (Nat.le_of_ble_eq_true rfl) rfl ?_
          refine JT_iload_n (q := 5) dX11_owes_109 rfl rfl ?_
          refine JT_iload (q := 1) dX11_owes_110 rfl ?_
          refine JT_iload_n (q := 3) dX11_owes_112 rfl rfl ?_
          have hj14 : ∀ v : Int32, v = (if (gI s 32 (a4).toNatClampNeg) = a1 then ((1 : Int32) <<< ((gI s 33 (a4).toNatClampNeg) &&& 31)) else (0 : Int32)) → JT MX11_owes 2 0 0 124 [(6, .int (gI s 33 (a4).toNatClampNeg)), (5, .int (gI s 32 (a4).toNatClampNeg)), (0, .ref 2), (1, .int a1), (2, .int a2), (3, .int a3), (4, .int a4)] [.int v, .int a3] (std s) (KQ Q) := by
            intro v hv
            subst hv
            refine JT_ior dX11_owes_124 ?_
            refine JT_istore_n (lv' := [(3, .int (a3 ||| (if (gI s 32 (a4).toNatClampNeg) = a1 then ((1 : Int32) <<< ((gI s 33 (a4).toNatClampNeg) &&& 31)) else (0 : Int32)))), (6, .int (gI s 33 (a4).toNatClampNeg)), (5, .int (gI s 32 (a4).toNatClampNeg)), (0, .ref 2), (1, .int a1), (2, .int a2), (4, .int a4)]) dX11_owes_125 rfl (Nat.le_of_ble_eq_true rfl) rfl ?_
            refine JT_iinc (q := 6) (v := (a4 + 1)) (lv' := [(4, .int (a4 + 1)), (3, .int (a3 ||| (if (gI s 32 (a4).toNatClampNeg) = a1 then ((1 : Int32) <<< ((gI s 33 (a4).toNatClampNeg) &&& 31)) else (0 : Int32)))), (6, .int (gI s 33 (a4).toNatClampNeg)), (5, .int (gI s 32 (a4).toNatClampNeg)), (0, .ref 2), (1, .int a1), (2, .int a2)]) dX11_owes_126 rfl (by rfl) (Nat.le_of_ble_eq_true rfl) rfl ?_
            refine JT_goto (tgt := 27) dX11_owes_129 (by decide) ?_
            exact JT_sub [4, 5, 6, 1, 0] rfl h
          refine JT_icmp_ne (tgt := 123) dX11_owes_113 (by decide) (fun hc15 => ?_) (fun hc15 => ?_)
          · refine JT_iconst (v := 0) dX11_owes_123 ic_0 ?_
            exact hj14 _ (by rw [if_neg hc15])
          · refine JT_iconst (v := 1) dX11_owes_116 ic_1 ?_
            refine JT_iload (q := 0) dX11_owes_117 rfl ?_
            refine JT_ishl dX11_owes_119 ?_
            refine JT_goto (tgt := 124) dX11_owes_120 (by decide) ?_
            exact hj14 _ (by rw [if_pos hc15])
set_option maxRecDepth 20000 in
theorem bX11_owes (a1 : Int32) (a2 : Int32) {s : SM} {Q : Int32 → SM → Prop} (h : (((vX6_hasBody s 5 a1) = 0 → Q (-1 : Int32) s) ∧ (¬ (vX6_hasBody s 5 a1) = 0 → ((a2 < 0 → Q (-1 : Int32) s) ∧ (¬ a2 < 0 → ((a2 ≤ (1 : Int32) → BI MX11_owes 2 27 [(0, .ref 2), (1, .int a1), (2, .int a2), (3, .int (0 : Int32)), (4, .int (0 : Int32))] s Q) ∧ (¬ a2 ≤ (1 : Int32) → Q (-1 : Int32) s))))))) : KI MX11_owes 2 [.ref 2, .int a1, .int a2] s Q := by
  show BI MX11_owes 2 0 [(0, .ref 2), (1, .int a1), (2, .int a2)] s Q
  refine JT_aload_n (q := 0) dX11_owes_0 rfl rfl ?_
  refine JS_getR (x := 5) dX11_owes_1 flX11_19 BS_2 (Nat.le_of_ble_eq_true rfl) (Nat.le_of_ble_eq_true rfl) (Or.inl ⟨_, ct_11_1⟩) RF_2_1 ?_
  refine JT_iload_n (q := 1) dX11_owes_4 rfl rfl ?_
  refine JS_callVI (M' := MX6_hasBody) (d' := 0) (As := [.int a1]) (rest := []) (P := (fun zv9 wm9 => (vX6_hasBody s 5 a1) = zv9 ∧ s = wm9)) dX11_owes_5 cvX11_172 okX6_hasBody rfl (Nat.le_of_ble_eq_true rfl) BS_5 (Nat.le_of_ble_eq_true rfl) (Nat.le_of_ble_eq_true rfl) hci_6 (Nat.le_of_ble_eq_true rfl) (Nat.le_of_ble_eq_true rfl) (pX6_hasBody hp_5 (a1)  ⟨rfl, rfl⟩) (fun zv9 wm9 hq9 => ?_)
  obtain ⟨rfl, rfl⟩ := hq9
  refine JT_if_eq (tgt := 20) dX11_owes_8 (by decide) (fun hc3 => ?_) (fun hc3 => ?_)
  · have h := h.1 hc3
    refine JT_iconst (v := -1) dX11_owes_20 ic_m1 ?_
    exact JS_iret dX11_owes_21 rfl rfl h
  · have h := h.2 hc3
    refine JT_iload_n (q := 2) dX11_owes_11 rfl rfl ?_
    refine JT_if_lt (tgt := 20) dX11_owes_12 (by decide) (fun hc2 => ?_) (fun hc2 => ?_)
    · have h := h.1 hc2
      refine JT_iconst (v := -1) dX11_owes_20 ic_m1 ?_
      exact JS_iret dX11_owes_21 rfl rfl h
    · have h := h.2 hc2
      refine JT_iload_n (q := 2) dX11_owes_15 rfl rfl ?_
      refine JT_iconst (v := 1) dX11_owes_16 ic_1 ?_
      refine JT_icmp_le (tgt := 22) dX11_owes_17 (by decide) (fun hc1 => ?_) (fun hc1 => ?_)
      · have h := h.1 hc1
        refine JT_iconst (v := 0) dX11_owes_22 ic_0 ?_
        refine JT_istore_n (lv' := [(3, .int (0 : Int32)), (0, .ref 2), (1, .int a1), (2, .int a2)]) dX11_owes_23 rfl (Nat.le_of_ble_eq_true rfl) rfl ?_
        refine JT_iconst (v := 0) dX11_owes_24 ic_0 ?_
        refine JT_istore (lv' := [(4, .int (0 : Int32)), (3, .int (0 : Int32)), (0, .ref 2), (1, .int a1), (2, .int a2)]) dX11_owes_25 (Nat.le_of_ble_eq_true rfl) rfl ?_
        exact JT_sub [2, 3, 4, 1, 0] rfl h
      · have h := h.2 hc1
        refine JT_iconst (v := -1) dX11_owes_20 ic_m1 ?_
        exact JS_iret dX11_owes_21 rfl rfl h
set_option maxRecDepth 20000 in
theorem bX11_trade_23 (a1 : Int32) (a2 : Int32) (a3 : Int32) (a4 : Int32) {s : SM} {Q : Int32 → SM → Prop} (h : (((gI s 31 9) ≤ a4 → Q a3 s) ∧ (¬ (gI s 31 9) ≤ a4 → vp_in a4 60 ∧ ((¬ (gI s 36 (a4).toNatClampNeg) = a1 → BI MX11_trade 2 23 [(0, .ref 2), (1, .int a1), (2, .int a2), (3, .int a3), (4, .int (a4 + 1))] s Q) ∧ ((gI s 36 (a4).toNatClampNeg) = a1 → ((a2 = 0 → BI MX11_trade 2 69 [(0, .ref 2), (1, .int a1), (2, .int a2), (3, .int a3), (4, .int a4)] s Q) ∧ (¬ a2 = 0 → vp_in a4 60 ∧ ((¬ (gI s 37 (a4).toNatClampNeg) = (a2 - (1 : Int32)) → BI MX11_trade 2 23 [(0, .ref 2), (1, .int a1), (2, .int a2), (3, .int a3), (4, .int (a4 + 1))] s Q) ∧ ((gI s 37 (a4).toNatClampNeg) = (a2 - (1 : Int32)) → BI MX11_trade 2 69 [(0, .ref 2), (1, .int a1), (2, .int a2), (3, .int a3), (4, .int a4)] s Q))))))))) : BI MX11_trade 2 23 [(0, .ref 2), (1, .int a1), (2, .int a2), (3, .int a3), (4, .int a4)] s Q := by
  refine JT_iload (q := 4) dX11_trade_23 rfl ?_
  refine JT_aload_n (q := 0) dX11_trade_25 rfl rfl ?_
  refine JS_getR (x := 31) dX11_trade_26 flX11_41 BS_2 (Nat.le_of_ble_eq_true rfl) (Nat.le_of_ble_eq_true rfl) (Or.inl ⟨_, ct_11_5⟩) RF_2_5 ?_
  refine JS_getI dX11_trade_29 flX11_162 BS_31 (Nat.le_of_ble_eq_true rfl) (Nat.le_of_ble_eq_true rfl) (Or.inl ct_4_9) ?_
  refine JT_icmp_ge (tgt := 87) dX11_trade_32 (by decide) (fun hc6 => ?_) (fun hc6 => ?_)
  · have h := h.1 hc6
    refine JT_iload_n (q := 3) dX11_trade_87 rfl rfl ?_
    exact JS_iret dX11_trade_88 rfl rfl h
  · have h := h.2 hc6
    refine JT_aload_n (q := 0) dX11_trade_35 rfl rfl ?_
    refine JS_getR (x := 31) dX11_trade_36 flX11_41 BS_2 (Nat.le_of_ble_eq_true rfl) (Nat.le_of_ble_eq_true rfl) (Or.inl ⟨_, ct_11_5⟩) RF_2_5 ?_
    refine JS_getR (x := 36) dX11_trade_39 flX11_226 BS_31 (Nat.le_of_ble_eq_true rfl) (Nat.le_of_ble_eq_true rfl) (Or.inr ⟨_, ct_4_4⟩) RF_31_4 ?_
    refine JT_iload (q := 4) dX11_trade_42 rfl ?_
    obtain ⟨o1, h⟩ := h
    refine JS_iald dX11_trade_44 BS_36 (Nat.le_of_ble_eq_true rfl) (Nat.le_of_ble_eq_true rfl) o1 ?_
    refine JT_iload_n (q := 1) dX11_trade_45 rfl rfl ?_
    refine JT_icmp_ne (tgt := 81) dX11_trade_46 (by decide) (fun hc5 => ?_) (fun hc5 => ?_)
    · have h := h.1 hc5
      refine JT_iinc (q := 4) (v := (a4 + 1)) (lv' := [(4, .int (a4 + 1)), (0, .ref 2), (1, .int a1), (2, .int a2), (3, .int a3)]) dX11_trade_81 rfl (by rfl) (Nat.le_of_ble_eq_true rfl) rfl ?_
      refine JT_goto (tgt := 23) dX11_trade_84 (by decide) ?_
      exact JT_sub [1, 2, 3, 4, 0] rfl h
    · have h := h.2 hc5
      refine JT_iload_n (q := 2) dX11_trade_49 rfl rfl ?_
      refine JT_if_eq (tgt := 69) dX11_trade_50 (by decide) (fun hc4 => ?_) (fun hc4 => ?_)
      · have h := h.1 hc4
        exact JT_sub [0, 1, 2, 3, 4] rfl h
      · have h := h.2 hc4
        refine JT_aload_n (q := 0) dX11_trade_53 rfl rfl ?_
        refine JS_getR (x := 31) dX11_trade_54 flX11_41 BS_2 (Nat.le_of_ble_eq_true rfl) (Nat.le_of_ble_eq_true rfl) (Or.inl ⟨_, ct_11_5⟩) RF_2_5 ?_
        refine JS_getR (x := 37) dX11_trade_57 flX11_229 BS_31 (Nat.le_of_ble_eq_true rfl) (Nat.le_of_ble_eq_true rfl) (Or.inr ⟨_, ct_4_5⟩) RF_31_5 ?_
        refine JT_iload (q := 4) dX11_trade_60 rfl ?_
        obtain ⟨o2, h⟩ := h
        refine JS_iald dX11_trade_62 BS_37 (Nat.le_of_ble_eq_true rfl) (Nat.le_of_ble_eq_true rfl) o2 ?_
        refine JT_iload_n (q := 2) dX11_trade_63 rfl rfl ?_
        refine JT_iconst (v := 1) dX11_trade_64 ic_1 ?_
        refine JT_isub dX11_trade_65 ?_
        refine JT_icmp_ne (tgt := 81) dX11_trade_66 (by decide) (fun hc3 => ?_) (fun hc3 => ?_)
        · have h := h.1 hc3
          refine JT_iinc (q := 4) (v := (a4 + 1)) (lv' := [(4, .int (a4 + 1)), (0, .ref 2), (1, .int a1), (2, .int a2), (3, .int a3)]) dX11_trade_81 rfl (by rfl) (Nat.le_of_ble_eq_true rfl) rfl ?_
          refine JT_goto (tgt := 23) dX11_trade_84 (by decide) ?_
          exact JT_sub [1, 2, 3, 4, 0] rfl h
        · have h := h.2 hc3
          exact JT_sub [0, 1, 2, 3, 4] rfl h
set_option maxRecDepth 20000 in
theorem bX11_trade_69 (a1 : Int32) (a2 : Int32) (a3 : Int32) (a4 : Int32) {s : SM} {Q : Int32 → SM → Prop} (h : rX4_valueOf s 31 5 a4 ∧ BI MX11_trade 2 23 [(0, .ref 2), (1, .int a1), (2, .int a2), (3, .int (a3 + (vX4_valueOf s 31 5 a4))), (4, .int (a4 + 1))] s Q) : BI MX11_trade 2 69 [(0, .ref 2), (1, .int a1), (2, .int a2), (3, .int a3), (4, .int a4)] s Q := by
  refine JT_iload_n (q := 3) dX11_trade_69 rfl rfl ?_
  refine JT_aload_n (q := 0) dX11_trade_70 rfl rfl ?_
  refine JS_getR (x := 31) dX11_trade_71 flX11_41 BS_2 (Nat.le_of_ble_eq_true rfl) (Nat.le_of_ble_eq_true rfl) (Or.inl ⟨_, ct_11_5⟩) RF_2_5 ?_
  refine JT_iload (q := 4) dX11_trade_74 rfl ?_
  obtain ⟨o1, h⟩ := h
  refine JS_callVI (M' := MX4_valueOf) (d' := 1) (As := [.int a4]) (rest := [.int a3]) (P := (fun zv9 wm9 => (vX4_valueOf s 31 5 a4) = zv9 ∧ s = wm9)) dX11_trade_76 cvX11_238 okX4_valueOf rfl (Nat.le_of_ble_eq_true rfl) BS_31 (Nat.le_of_ble_eq_true rfl) (Nat.le_of_ble_eq_true rfl) hci_4 (Nat.le_of_ble_eq_true rfl) (Nat.le_of_ble_eq_true rfl) (pX4_valueOf hL_31 (a4) o1 ⟨rfl, rfl⟩) (fun zv9 wm9 hq9 => ?_)
  obtain ⟨rfl, rfl⟩ := hq9
  refine JT_iadd dX11_trade_79 ?_
  refine JT_istore_n (lv' := [(3, .int (a3 + (vX4_valueOf s 31 5 a4))), (0, .ref 2), (1, .int a1), (2, .int a2), (4, .int a4)]) dX11_trade_80 rfl (Nat.le_of_ble_eq_true rfl) rfl ?_
  refine JT_iinc (q := 4) (v := (a4 + 1)) (lv' := [(4, .int (a4 + 1)), (3, .int (a3 + (vX4_valueOf s 31 5 a4))), (0, .ref 2), (1, .int a1), (2, .int a2)]) dX11_trade_81 rfl (by rfl) (Nat.le_of_ble_eq_true rfl) rfl ?_
  refine JT_goto (tgt := 23) dX11_trade_84 (by decide) ?_
  exact JT_sub [2, 3, 4, 1, 0] rfl h
set_option maxRecDepth 20000 in
theorem bX11_trade (a1 : Int32) (a2 : Int32) {s : SM} {Q : Int32 → SM → Prop} (h : (((vX11_isYear s a1) = 0 → Q (-1 : Int32) s) ∧ (¬ (vX11_isYear s a1) = 0 → ((a2 < 0 → Q (-1 : Int32) s) ∧ (¬ a2 < 0 → ((a2 ≤ (3 : Int32) → BI MX11_trade 2 23 [(0, .ref 2), (1, .int a1), (2, .int a2), (3, .int (0 : Int32)), (4, .int (0 : Int32))] s Q) ∧ (¬ a2 ≤ (3 : Int32) → Q (-1 : Int32) s))))))) : KI MX11_trade 2 [.ref 2, .int a1, .int a2] s Q := by
  show BI MX11_trade 2 0 [(0, .ref 2), (1, .int a1), (2, .int a2)] s Q
  refine JT_iload_n (q := 1) dX11_trade_0 rfl rfl ?_
  refine JS_callSI (M' := MX11_isYear) (d' := 0) (As := [.int a1]) (rest := []) (P := (fun zv9 wm9 => (vX11_isYear s a1) = zv9 ∧ s = wm9)) dX11_trade_1 cvX11_248 okX11_isYear rfl (Nat.le_of_ble_eq_true rfl) (Nat.le_of_ble_eq_true rfl) (Nat.le_of_ble_eq_true rfl) (pX11_isYear  (a1)  ⟨rfl, rfl⟩) (fun zv9 wm9 hq9 => ?_)
  obtain ⟨rfl, rfl⟩ := hq9
  refine JT_if_eq (tgt := 16) dX11_trade_4 (by decide) (fun hc3 => ?_) (fun hc3 => ?_)
  · have h := h.1 hc3
    refine JT_iconst (v := -1) dX11_trade_16 ic_m1 ?_
    exact JS_iret dX11_trade_17 rfl rfl h
  · have h := h.2 hc3
    refine JT_iload_n (q := 2) dX11_trade_7 rfl rfl ?_
    refine JT_if_lt (tgt := 16) dX11_trade_8 (by decide) (fun hc2 => ?_) (fun hc2 => ?_)
    · have h := h.1 hc2
      refine JT_iconst (v := -1) dX11_trade_16 ic_m1 ?_
      exact JS_iret dX11_trade_17 rfl rfl h
    · have h := h.2 hc2
      refine JT_iload_n (q := 2) dX11_trade_11 rfl rfl ?_
      refine JT_iconst (v := 3) dX11_trade_12 ic_3 ?_
      refine JT_icmp_le (tgt := 18) dX11_trade_13 (by decide) (fun hc1 => ?_) (fun hc1 => ?_)
      · have h := h.1 hc1
        refine JT_iconst (v := 0) dX11_trade_18 ic_0 ?_
        refine JT_istore_n (lv' := [(3, .int (0 : Int32)), (0, .ref 2), (1, .int a1), (2, .int a2)]) dX11_trade_19 rfl (Nat.le_of_ble_eq_true rfl) rfl ?_
        refine JT_iconst (v := 0) dX11_trade_20 ic_0 ?_
        refine JT_istore (lv' := [(4, .int (0 : Int32)), (3, .int (0 : Int32)), (0, .ref 2), (1, .int a1), (2, .int a2)]) dX11_trade_21 (Nat.le_of_ble_eq_true rfl) rfl ?_
        exact JT_sub [2, 3, 4, 1, 0] rfl h
      · have h := h.2 hc1
        refine JT_iconst (v := -1) dX11_trade_16 ic_m1 ?_
        exact JS_iret dX11_trade_17 rfl rfl h
set_option maxRecDepth 20000 in
theorem bX11_witness_86 (a1 : Int32) (a2 : Int32) (a3 : Int32) {s : SM} {Q : Int32 → SM → Prop} (h : Q (if (if a2 = (-1 : Int32) then a3 else a2) = (-1 : Int32) then (-1 : Int32) else ((1 : Int32) <<< ((if a2 = (-1 : Int32) then a3 else a2) &&& 31))) s) : BI MX11_witness 2 86 [(0, .ref 2), (1, .int a1), (2, .int a2), (3, .int a3)] s Q := by
  refine JT_iload_n (q := 2) dX11_witness_86 rfl rfl ?_
  refine JT_iconst (v := -1) dX11_witness_87 ic_m1 ?_
  have hj3 : ∀ v : Int32, v = (if a2 = (-1 : Int32) then a3 else a2) → JT MX11_witness 2 0 0 96 [(0, .ref 2), (1, .int a1), (2, .int a2), (3, .int a3)] [.int v] (std s) (KQ Q) := by
    intro v hv
    subst hv
    refine JT_istore (lv' := [(4, .int (if a2 = (-1 : Int32) then a3 else a2)), (0, .ref 2), (1, .int a1), (2, .int a2), (3, .int a3)]) dX11_witness_96 (Nat.le_of_ble_eq_true rfl) rfl ?_
    refine JT_iload (q := 0) dX11_witness_98 rfl ?_
    refine JT_iconst (v := -1) dX11_witness_100 ic_m1 ?_
    have hj1 : ∀ v : Int32, v = (if (if a2 = (-1 : Int32) then a3 else a2) = (-1 : Int32) then (-1 : Int32) else ((1 : Int32) <<< ((if a2 = (-1 : Int32) then a3 else a2) &&& 31))) → JT MX11_witness 2 0 0 112 [(4, .int (if a2 = (-1 : Int32) then a3 else a2)), (0, .ref 2), (1, .int a1), (2, .int a2), (3, .int a3)] [.int v] (std s) (KQ Q) := by
      intro v hv
      subst hv
      exact JS_iret dX11_witness_112 rfl rfl h
    refine JT_icmp_ne (tgt := 108) dX11_witness_101 (by decide) (fun hc2 => ?_) (fun hc2 => ?_)
    · refine JT_iconst (v := 1) dX11_witness_108 ic_1 ?_
      refine JT_iload (q := 0) dX11_witness_109 rfl ?_
      refine JT_ishl dX11_witness_111 ?_
      exact hj1 _ (by rw [if_neg hc2])
    · refine JT_iconst (v := -1) dX11_witness_104 ic_m1 ?_
      refine JT_goto (tgt := 112) dX11_witness_105 (by decide) ?_
      exact hj1 _ (by rw [if_pos hc2])
  refine JT_icmp_ne (tgt := 95) dX11_witness_88 (by decide) (fun hc4 => ?_) (fun hc4 => ?_)
  · refine JT_iload_n (q := 2) dX11_witness_95 rfl rfl ?_
    exact hj3 _ (by rw [if_neg hc4])
  · refine JT_iload_n (q := 3) dX11_witness_91 rfl rfl ?_
    refine JT_goto (tgt := 96) dX11_witness_92 (by decide) ?_
    exact hj3 _ (by rw [if_pos hc4])
set_option maxRecDepth 20000 in
theorem bX11_witness (a1 : Int32) {s : SM} {Q : Int32 → SM → Prop} (h : ((¬ (vX4_hasDeal s 31 5 a1) = 0 → rX4_unscarredBearer s 31 5 a1 (0 : Int32) ∧ rX4_unscarredBearer s 31 5 a1 (1 : Int32) ∧ vp_in a1 60 ∧ vp_in (gI s 35 (a1).toNatClampNeg) 6 ∧ ((¬ (gI s 11 ((gI s 35 (a1).toNatClampNeg)).toNatClampNeg) = (4 : Int32) → (((vX4_unscarredBearer s 31 5 a1 (0 : Int32)) = (-1 : Int32) → BI MX11_witness 2 86 [(0, .ref 2), (1, .int a1), (2, .int (vX4_unscarredBearer s 31 5 a1 (0 : Int32))), (3, .int (vX4_unscarredBearer s 31 5 a1 (1 : Int32)))] s Q) ∧ (¬ (vX4_unscarredBearer s 31 5 a1 (0 : Int32)) = (-1 : Int32) → ((¬ (vX4_unscarredBearer s 31 5 a1 (1 : Int32)) = (-1 : Int32) → Q ((1 : Int32) <<< ((if (vX4_unscarredBearer s 31 5 a1 (1 : Int32)) < (vX4_unscarredBearer s 31 5 a1 (0 : Int32)) then (vX4_unscarredBearer s 31 5 a1 (1 : Int32)) else (vX4_unscarredBearer s 31 5 a1 (0 : Int32))) &&& 31)) s) ∧ ((vX4_unscarredBearer s 31 5 a1 (1 : Int32)) = (-1 : Int32) → BI MX11_witness 2 86 [(0, .ref 2), (1, .int a1), (2, .int (vX4_unscarredBearer s 31 5 a1 (0 : Int32))), (3, .int (vX4_unscarredBearer s 31 5 a1 (1 : Int32)))] s Q))))) ∧ ((gI s 11 ((gI s 35 (a1).toNatClampNeg)).toNatClampNeg) = (4 : Int32) → Q (if (vX4_unscarredBearer s 31 5 a1 (0 : Int32)) = (-1 : Int32) then (-1 : Int32) else (if (vX4_unscarredBearer s 31 5 a1 (1 : Int32)) = (-1 : Int32) then (-1 : Int32) else (((1 : Int32) <<< ((vX4_unscarredBearer s 31 5 a1 (0 : Int32)) &&& 31)) ||| ((1 : Int32) <<< ((vX4_unscarredBearer s 31 5 a1 (1 : Int32)) &&& 31))))) s))) ∧ ((vX4_hasDeal s 31 5 a1) = 0 → Q (-1 : Int32) s))) : KI MX11_witness 2 [.ref 2, .int a1] s Q := by
  show BI MX11_witness 2 0 [(0, .ref 2), (1, .int a1)] s Q
  refine JT_aload_n (q := 0) dX11_witness_0 rfl rfl ?_
  refine JS_getR (x := 31) dX11_witness_1 flX11_41 BS_2 (Nat.le_of_ble_eq_true rfl) (Nat.le_of_ble_eq_true rfl) (Or.inl ⟨_, ct_11_5⟩) RF_2_5 ?_
  refine JT_iload_n (q := 1) dX11_witness_4 rfl rfl ?_
  refine JS_callVI (M' := MX4_hasDeal) (d' := 0) (As := [.int a1]) (rest := []) (P := (fun zv9 wm9 => (vX4_hasDeal s 31 5 a1) = zv9 ∧ s = wm9)) dX11_witness_5 cvX11_211 okX4_hasDeal rfl (Nat.le_of_ble_eq_true rfl) BS_31 (Nat.le_of_ble_eq_true rfl) (Nat.le_of_ble_eq_true rfl) hci_4 (Nat.le_of_ble_eq_true rfl) (Nat.le_of_ble_eq_true rfl) (pX4_hasDeal hL_31 (a1)  ⟨rfl, rfl⟩) (fun zv9 wm9 hq9 => ?_)
  obtain ⟨rfl, rfl⟩ := hq9
  refine JT_if_ne (tgt := 13) dX11_witness_8 (by decide) (fun hc11 => ?_) (fun hc11 => ?_)
  · have h := h.1 hc11
    refine JT_aload_n (q := 0) dX11_witness_13 rfl rfl ?_
    refine JS_getR (x := 31) dX11_witness_14 flX11_41 BS_2 (Nat.le_of_ble_eq_true rfl) (Nat.le_of_ble_eq_true rfl) (Or.inl ⟨_, ct_11_5⟩) RF_2_5 ?_
    refine JT_iload_n (q := 1) dX11_witness_17 rfl rfl ?_
    refine JT_iconst (v := 0) dX11_witness_18 ic_0 ?_
    obtain ⟨o10, h⟩ := h
    refine JS_callVI (M' := MX4_unscarredBearer) (d' := 1) (As := [.int a1, .int (0 : Int32)]) (rest := []) (P := (fun zv9 wm9 => (vX4_unscarredBearer s 31 5 a1 (0 : Int32)) = zv9 ∧ s = wm9)) dX11_witness_19 cvX11_419 okX4_unscarredBearer rfl (Nat.le_of_ble_eq_true rfl) BS_31 (Nat.le_of_ble_eq_true rfl) (Nat.le_of_ble_eq_true rfl) hci_4 (Nat.le_of_ble_eq_true rfl) (Nat.le_of_ble_eq_true rfl) (pX4_unscarredBearer hL_31 (a1) ((0 : Int32)) o10 ⟨rfl, rfl⟩) (fun zv9 wm9 hq9 => ?_)
    obtain ⟨rfl, rfl⟩ := hq9
    refine JT_istore_n (lv' := [(2, .int (vX4_unscarredBearer s 31 5 a1 (0 : Int32))), (0, .ref 2), (1, .int a1)]) dX11_witness_22 rfl (Nat.le_of_ble_eq_true rfl) rfl ?_
    refine JT_aload_n (q := 1) dX11_witness_23 rfl rfl ?_
    refine JS_getR (x := 31) dX11_witness_24 flX11_41 BS_2 (Nat.le_of_ble_eq_true rfl) (Nat.le_of_ble_eq_true rfl) (Or.inl ⟨_, ct_11_5⟩) RF_2_5 ?_
    refine JT_iload_n (q := 2) dX11_witness_27 rfl rfl ?_
    refine JT_iconst (v := 1) dX11_witness_28 ic_1 ?_
    obtain ⟨o9, h⟩ := h
    refine JS_callVI (M' := MX4_unscarredBearer) (d' := 1) (As := [.int a1, .int (1 : Int32)]) (rest := []) (P := (fun zv9 wm9 => (vX4_unscarredBearer s 31 5 a1 (1 : Int32)) = zv9 ∧ s = wm9)) dX11_witness_29 cvX11_419 okX4_unscarredBearer rfl (Nat.le_of_ble_eq_true rfl) BS_31 (Nat.le_of_ble_eq_true rfl) (Nat.le_of_ble_eq_true rfl) hci_4 (Nat.le_of_ble_eq_true rfl) (Nat.le_of_ble_eq_true rfl) (pX4_unscarredBearer hL_31 (a1) ((1 : Int32)) o9 ⟨rfl, rfl⟩) (fun zv9 wm9 hq9 => ?_)
    obtain ⟨rfl, rfl⟩ := hq9
    refine JT_istore_n (lv' := [(3, .int (vX4_unscarredBearer s 31 5 a1 (1 : Int32))), (2, .int (vX4_unscarredBearer s 31 5 a1 (0 : Int32))), (0, .ref 2), (1, .int a1)]) dX11_witness_32 rfl (Nat.le_of_ble_eq_true rfl) rfl ?_
    refine JT_aload_n (q := 2) dX11_witness_33 rfl rfl ?_
    refine JS_getR (x := 5) dX11_witness_34 flX11_19 BS_2 (Nat.le_of_ble_eq_true rfl) (Nat.le_of_ble_eq_true rfl) (Or.inl ⟨_, ct_11_1⟩) RF_2_1 ?_
    refine JS_getR (x := 11) dX11_witness_37 flX11_208 BS_5 (Nat.le_of_ble_eq_true rfl) (Nat.le_of_ble_eq_true rfl) (Or.inr ⟨_, ct_6_5⟩) RF_5_5 ?_
    refine JT_aload_n (q := 2) dX11_witness_40 rfl rfl ?_
    refine JS_getR (x := 31) dX11_witness_41 flX11_41 BS_2 (Nat.le_of_ble_eq_true rfl) (Nat.le_of_ble_eq_true rfl) (Or.inl ⟨_, ct_11_5⟩) RF_2_5 ?_
    refine JS_getR (x := 35) dX11_witness_44 flX11_223 BS_31 (Nat.le_of_ble_eq_true rfl) (Nat.le_of_ble_eq_true rfl) (Or.inr ⟨_, ct_4_3⟩) RF_31_3 ?_
    refine JT_iload_n (q := 3) dX11_witness_47 rfl rfl ?_
    obtain ⟨o1, h⟩ := h
    refine JS_iald dX11_witness_48 BS_35 (Nat.le_of_ble_eq_true rfl) (Nat.le_of_ble_eq_true rfl) o1 ?_
    obtain ⟨o2, h⟩ := h
    refine JS_iald dX11_witness_49 BS_11 (Nat.le_of_ble_eq_true rfl) (Nat.le_of_ble_eq_true rfl) o2 ?_
    refine JT_iconst (v := 4) dX11_witness_50 ic_4 ?_
    refine JT_icmp_ne (tgt := 76) dX11_witness_51 (by decide) (fun hc8 => ?_) (fun hc8 => ?_)
    · have h := h.1 hc8
      refine JT_iload_n (q := 1) dX11_witness_76 rfl rfl ?_
      refine JT_iconst (v := -1) dX11_witness_77 ic_m1 ?_
      refine JT_icmp_eq (tgt := 86) dX11_witness_78 (by decide) (fun hc4 => ?_) (fun hc4 => ?_)
      · have h := h.1 hc4
        exact JT_sub [2, 3, 1, 0] rfl h
      · have h := h.2 hc4
        refine JT_iload_n (q := 0) dX11_witness_81 rfl rfl ?_
        refine JT_iconst (v := -1) dX11_witness_82 ic_m1 ?_
        refine JT_icmp_ne (tgt := 113) dX11_witness_83 (by decide) (fun hc3 => ?_) (fun hc3 => ?_)
        · have h := h.1 hc3
          refine JT_iconst (v := 1) dX11_witness_113 ic_1 ?_
          refine JT_iload_n (q := 1) dX11_witness_114 rfl rfl ?_
          refine JT_iload_n (q := 0) dX11_witness_115 rfl rfl ?_
          refine JT_mmin (d2 := 1) dX11_witness_116 mlX11_422 (Nat.le_of_ble_eq_true rfl) rfl ?_
          refine JT_ishl dX11_witness_119 ?_
          exact JS_iret dX11_witness_120 rfl rfl h
        · have h := h.2 hc3
          exact JT_sub [2, 3, 1, 0] rfl h
    · have h := h.2 hc8
      refine JT_iload_n (q := 1) dX11_witness_54 rfl rfl ?_
      refine JT_iconst (v := -1) dX11_witness_55 ic_m1 ?_
      have hj5 : ∀ v : Int32, v = (if (vX4_unscarredBearer s 31 5 a1 (0 : Int32)) = (-1 : Int32) then (-1 : Int32) else (if (vX4_unscarredBearer s 31 5 a1 (1 : Int32)) = (-1 : Int32) then (-1 : Int32) else (((1 : Int32) <<< ((vX4_unscarredBearer s 31 5 a1 (0 : Int32)) &&& 31)) ||| ((1 : Int32) <<< ((vX4_unscarredBearer s 31 5 a1 (1 : Int32)) &&& 31))))) → JT MX11_witness 2 0 0 75 [(3, .int (vX4_unscarredBearer s 31 5 a1 (1 : Int32))), (2, .int (vX4_unscarredBearer s 31 5 a1 (0 : Int32))), (0, .ref 2), (1, .int a1)] [.int v] (std s) (KQ Q) := by
        intro v hv
        subst hv
        exact JS_iret dX11_witness_75 rfl rfl h
      refine JT_icmp_eq (tgt := 64) dX11_witness_56 (by decide) (fun hc6 => ?_) (fun hc6 => ?_)
      · refine JT_iconst (v := -1) dX11_witness_64 ic_m1 ?_
        refine JT_goto (tgt := 75) dX11_witness_65 (by decide) ?_
        exact hj5 _ (by rw [if_pos hc6])
      · refine JT_iload_n (q := 0) dX11_witness_59 rfl rfl ?_
        refine JT_iconst (v := -1) dX11_witness_60 ic_m1 ?_
        refine JT_icmp_ne (tgt := 68) dX11_witness_61 (by decide) (fun hc7 => ?_) (fun hc7 => ?_)
        · refine JT_iconst (v := 1) dX11_witness_68 ic_1 ?_
          refine JT_iload_n (q := 1) dX11_witness_69 rfl rfl ?_
          refine JT_ishl dX11_witness_70 ?_
          refine JT_iconst (v := 1) dX11_witness_71 ic_1 ?_
          refine JT_iload_n (q := 0) dX11_witness_72 rfl rfl ?_
          refine JT_ishl dX11_witness_73 ?_
          refine JT_ior dX11_witness_74 ?_
          exact hj5 _ (by rw [if_neg hc6, if_neg hc7])
        · refine JT_iconst (v := -1) dX11_witness_64 ic_m1 ?_
          refine JT_goto (tgt := 75) dX11_witness_65 (by decide) ?_
          exact hj5 _ (by rw [if_neg hc6, if_pos hc7])
  · have h := h.2 hc11
    refine JT_iconst (v := -1) dX11_witness_11 ic_m1 ?_
    exact JS_iret dX11_witness_12 rfl rfl h
set_option maxRecDepth 20000 in
theorem bX12_aged (a1 : Int32) (a2 : Int32) {s : SM} {Q : Int32 → SM → Prop} (h : (((vX12_isBody (pI s 248 0 (0 : Int32)) a1) = 0 → Q (-1 : Int32) (pI s 248 0 (0 : Int32))) ∧ (¬ (vX12_isBody (pI s 248 0 (0 : Int32)) a1) = 0 → (((vX12_isIn (pI s 248 0 (0 : Int32)) a2 (0 : Int32) (99 : Int32)) = 0 → Q (-1 : Int32) (pI s 248 0 (0 : Int32))) ∧ (¬ (vX12_isIn (pI s 248 0 (0 : Int32)) a2 (0 : Int32) (99 : Int32)) = 0 → KI MX12_marksOn 1 [.ref 248, .int a1, .int a2] (pI s 248 0 (0 : Int32)) (fun x2 s1 => Q x2 s1)))))) : KI MX12_aged 2 [.ref 248, .int a1, .int a2] s Q := by
  show BI MX12_aged 2 0 [(0, .ref 248), (1, .int a1), (2, .int a2)] s Q
  refine JT_aload_n (q := 0) dX12_aged_0 rfl rfl ?_
  refine JT_iconst (v := 0) dX12_aged_1 ic_0 ?_
  refine JS_putI dX12_aged_2 flX12_1 BS_248 (Nat.le_of_ble_eq_true rfl) (Nat.le_of_ble_eq_true rfl) ct_12_0 ?_
  refine JT_aload_n (q := 0) dX12_aged_5 rfl rfl ?_
  refine JT_iload_n (q := 1) dX12_aged_6 rfl rfl ?_
  refine JS_callVI (M' := MX12_isBody) (d' := 1) (As := [.int a1]) (rest := []) (P := (fun zv9 wm9 => (vX12_isBody (pI s 248 0 (0 : Int32)) a1) = zv9 ∧ (pI s 248 0 (0 : Int32)) = wm9)) dX12_aged_7 cvX12_287 okX12_isBody rfl (Nat.le_of_ble_eq_true rfl) BS_248 (Nat.le_of_ble_eq_true rfl) (Nat.le_of_ble_eq_true rfl) hci_12 (Nat.le_of_ble_eq_true rfl) (Nat.le_of_ble_eq_true rfl) (pX12_isBody  (a1)  ⟨rfl, rfl⟩) (fun zv9 wm9 hq9 => ?_)
  obtain ⟨rfl, rfl⟩ := hq9
  refine JT_if_eq (tgt := 32) dX12_aged_10 (by decide) (fun hc5 => ?_) (fun hc5 => ?_)
  · have h := h.1 hc5
    refine JT_iconst (v := -1) dX12_aged_32 ic_m1 ?_
    exact JS_iret dX12_aged_33 rfl rfl h
  · have h := h.2 hc5
    refine JT_iload_n (q := 2) dX12_aged_13 rfl rfl ?_
    refine JT_iconst (v := 0) dX12_aged_14 ic_0 ?_
    refine JT_bipush (v := 99) dX12_aged_15 bp_99 ?_
    refine JS_callSI (M' := MX12_isIn) (d' := 0) (As := [.int a2, .int (0 : Int32), .int (99 : Int32)]) (rest := []) (P := (fun zv9 wm9 => (vX12_isIn (pI s 248 0 (0 : Int32)) a2 (0 : Int32) (99 : Int32)) = zv9 ∧ (pI s 248 0 (0 : Int32)) = wm9)) dX12_aged_17 cvX12_202 okX12_isIn rfl (Nat.le_of_ble_eq_true rfl) (Nat.le_of_ble_eq_true rfl) (Nat.le_of_ble_eq_true rfl) (pX12_isIn  (a2) ((0 : Int32)) ((99 : Int32))  ⟨rfl, rfl⟩) (fun zv9 wm9 hq9 => ?_)
    obtain ⟨rfl, rfl⟩ := hq9
    refine JT_if_eq (tgt := 32) dX12_aged_20 (by decide) (fun hc3 => ?_) (fun hc3 => ?_)
    · have h := h.1 hc3
      refine JT_iconst (v := -1) dX12_aged_32 ic_m1 ?_
      exact JS_iret dX12_aged_33 rfl rfl h
    · have h := h.2 hc3
      refine JT_aload_n (q := 0) dX12_aged_23 rfl rfl ?_
      refine JT_iload_n (q := 1) dX12_aged_24 rfl rfl ?_
      refine JT_iload_n (q := 2) dX12_aged_25 rfl rfl ?_
      refine JS_callVI (M' := MX12_marksOn) (d' := 1) (As := [.int a1, .int a2]) (rest := []) dX12_aged_26 cvX12_303 okX12_marksOn rfl (Nat.le_of_ble_eq_true rfl) BS_248 (Nat.le_of_ble_eq_true rfl) (Nat.le_of_ble_eq_true rfl) hci_12 (Nat.le_of_ble_eq_true rfl) (Nat.le_of_ble_eq_true rfl) h (fun x2 s1 h => ?_)
      refine JT_goto (tgt := 33) dX12_aged_29 (by decide) ?_
      exact JS_iret dX12_aged_33 rfl rfl h
set_option maxRecDepth 20000 in
theorem bX12_dotOf (a1 : Int32) {s : SM} {Q : Int32 → SM → Prop} (h : rX12_sizeOf s a1 ∧ (((vX12_sizeOf s a1) ≤ (gI s 250 ((3 : Int32)).toNatClampNeg) → rX12_sizeOf s a1 ∧ Q (vX12_sizeOf s a1) s) ∧ (¬ (vX12_sizeOf s a1) ≤ (gI s 250 ((3 : Int32)).toNatClampNeg) → Q (gI s 250 ((3 : Int32)).toNatClampNeg) s))) : KI MX12_dotOf 2 [.ref 248, .int a1] s Q := by
  show BI MX12_dotOf 2 0 [(0, .ref 248), (1, .int a1)] s Q
  refine JT_aload_n (q := 0) dX12_dotOf_0 rfl rfl ?_
  refine JS_getR (x := 250) dX12_dotOf_1 flX12_33 BS_248 (Nat.le_of_ble_eq_true rfl) (Nat.le_of_ble_eq_true rfl) (Or.inr ⟨_, ct_12_6⟩) RF_248_6 ?_
  refine JT_iconst (v := 3) dX12_dotOf_4 ic_3 ?_
  refine JS_iald dX12_dotOf_5 BS_250 (Nat.le_of_ble_eq_true rfl) (Nat.le_of_ble_eq_true rfl) (by unfold vp_in; decide) ?_
  refine JT_aload_n (q := 0) dX12_dotOf_6 rfl rfl ?_
  refine JT_iload_n (q := 1) dX12_dotOf_7 rfl rfl ?_
  obtain ⟨o3, h⟩ := h
  refine JS_callVI (M' := MX12_sizeOf) (d' := 1) (As := [.int a1]) (rest := [.int (gI s 250 ((3 : Int32)).toNatClampNeg)]) (P := (fun zv9 wm9 => (vX12_sizeOf s a1) = zv9 ∧ s = wm9)) dX12_dotOf_8 cvX12_268 okX12_sizeOf rfl (Nat.le_of_ble_eq_true rfl) BS_248 (Nat.le_of_ble_eq_true rfl) (Nat.le_of_ble_eq_true rfl) hci_12 (Nat.le_of_ble_eq_true rfl) (Nat.le_of_ble_eq_true rfl) (pX12_sizeOf  (a1) o3 ⟨rfl, rfl⟩) (fun zv9 wm9 hq9 => ?_)
  obtain ⟨rfl, rfl⟩ := hq9
  refine JT_icmp_ge (tgt := 23) dX12_dotOf_11 (by decide) (fun hc2 => ?_) (fun hc2 => ?_)
  · have h := h.1 hc2
    refine JT_aload_n (q := 0) dX12_dotOf_23 rfl rfl ?_
    refine JT_iload_n (q := 1) dX12_dotOf_24 rfl rfl ?_
    obtain ⟨o1, h⟩ := h
    refine JS_callVI (M' := MX12_sizeOf) (d' := 1) (As := [.int a1]) (rest := []) (P := (fun zv9 wm9 => (vX12_sizeOf s a1) = zv9 ∧ s = wm9)) dX12_dotOf_25 cvX12_268 okX12_sizeOf rfl (Nat.le_of_ble_eq_true rfl) BS_248 (Nat.le_of_ble_eq_true rfl) (Nat.le_of_ble_eq_true rfl) hci_12 (Nat.le_of_ble_eq_true rfl) (Nat.le_of_ble_eq_true rfl) (pX12_sizeOf  (a1) o1 ⟨rfl, rfl⟩) (fun zv9 wm9 hq9 => ?_)
    obtain ⟨rfl, rfl⟩ := hq9
    exact JS_iret dX12_dotOf_28 rfl rfl h
  · have h := h.2 hc2
    refine JT_aload_n (q := 0) dX12_dotOf_14 rfl rfl ?_
    refine JS_getR (x := 250) dX12_dotOf_15 flX12_33 BS_248 (Nat.le_of_ble_eq_true rfl) (Nat.le_of_ble_eq_true rfl) (Or.inr ⟨_, ct_12_6⟩) RF_248_6 ?_
    refine JT_iconst (v := 3) dX12_dotOf_18 ic_3 ?_
    refine JS_iald dX12_dotOf_19 BS_250 (Nat.le_of_ble_eq_true rfl) (Nat.le_of_ble_eq_true rfl) (by unfold vp_in; decide) ?_
    refine JT_goto (tgt := 28) dX12_dotOf_20 (by decide) ?_
    exact JS_iret dX12_dotOf_28 rfl rfl h
set_option maxRecDepth 20000 in
def vX12_dotOf (s : SM) (a1 : Int32) : Int32 := (if (vX12_sizeOf s a1) ≤ (gI s 250 ((3 : Int32)).toNatClampNeg) then (vX12_sizeOf s a1) else (gI s 250 ((3 : Int32)).toNatClampNeg))
set_option maxRecDepth 20000 in
def rX12_dotOf (s : SM) (a1 : Int32) : Prop := rX12_sizeOf s a1 ∧ ((vX12_sizeOf s a1) ≤ (gI s 250 ((3 : Int32)).toNatClampNeg) → rX12_sizeOf s a1)
set_option maxRecDepth 20000 in
theorem pX12_dotOf (a1 : Int32) {s : SM} {Q : Int32 → SM → Prop} (hr : rX12_dotOf s a1) (h : Q (vX12_dotOf s a1) s) : KI MX12_dotOf 2 [.ref 248, .int a1] s Q := by
  refine bX12_dotOf a1 ?_
  unfold rX12_dotOf at hr
  unfold vX12_dotOf at h
  refine ⟨hr.1, ?_⟩
  replace hr := hr.2
  refine ⟨fun c => ?_, fun c => ?_⟩
  · replace hr := hr c
    try simp only [if_pos c] at h
    refine ⟨hr, ?_⟩
    first | exact h | contradiction
  · try simp only [if_neg c] at h
    first | exact h | contradiction
set_option maxRecDepth 20000 in
theorem bX12_fresh (a1 : Int32) {s : SM} {Q : Int32 → SM → Prop} (h : KI MX12_isName 0 [.ref 248] s (fun x2 s1 => ((¬ x2 = 0 → KI MX12_find 0 [.ref 248, .int (15 : Int32), .int (gI s1 251 ((0 : Int32)).toNatClampNeg)] s1 (fun x4 s3 => ((0 ≤ x4 → Q (vX12_bad s3 (3 : Int32)) (mX12_bad s3 (3 : Int32))) ∧ (¬ 0 ≤ x4 → KI MX12_find 0 [.ref 248, .int (24 : Int32), .int (gI s3 251 ((1 : Int32)).toNatClampNeg)] s3 (fun x7 s6 => ((x7 < 0 → vp_in a1 30 ∧ KV MX12_next 1 [.ref 248] (pL s6 253 (a1).toNatClampNeg (gL s6 248 17)) (fun s9 => Q (1 : Int32) s9)) ∧ (¬ x7 < 0 → Q (vX12_bad s6 (3 : Int32)) (mX12_bad s6 (3 : Int32))))))))) ∧ (x2 = 0 → Q (vX12_bad s1 (1 : Int32)) (mX12_bad s1 (1 : Int32)))))) : KI MX12_fresh 2 [.ref 248, .int a1] s Q := by
  show BI MX12_fresh 2 0 [(0, .ref 248), (1, .int a1)] s Q
  refine JT_aload_n (q := 0) dX12_fresh_0 rfl rfl ?_
  refine JS_callVI (M' := MX12_isName) (d' := 0) (As := []) (rest := []) dX12_fresh_1 cvX12_209 okX12_isName rfl (Nat.le_of_ble_eq_true rfl) BS_248 (Nat.le_of_ble_eq_true rfl) (Nat.le_of_ble_eq_true rfl) hci_12 (Nat.le_of_ble_eq_true rfl) (Nat.le_of_ble_eq_true rfl) h (fun x2 s1 h => ?_)
  refine JT_if_ne (tgt := 13) dX12_fresh_4 (by decide) (fun hc15 => ?_) (fun hc15 => ?_)
  · have h := h.1 hc15
    refine JT_aload_n (q := 0) dX12_fresh_13 rfl rfl ?_
    refine JT_bipush (v := 15) dX12_fresh_14 bp_15 ?_
    refine JT_aload_n (q := 0) dX12_fresh_16 rfl rfl ?_
    refine JS_getR (x := 251) dX12_fresh_17 flX12_37 BS_248 (Nat.le_of_ble_eq_true rfl) (Nat.le_of_ble_eq_true rfl) (Or.inr ⟨_, ct_12_7⟩) RF_248_7 ?_
    refine JT_iconst (v := 0) dX12_fresh_20 ic_0 ?_
    refine JS_iald dX12_fresh_21 BS_251 (Nat.le_of_ble_eq_true rfl) (Nat.le_of_ble_eq_true rfl) (by unfold vp_in; decide) ?_
    refine JS_callVI (M' := MX12_find) (d' := 0) (As := [.int (15 : Int32), .int (gI s1 251 ((0 : Int32)).toNatClampNeg)]) (rest := []) dX12_fresh_22 cvX12_213 okX12_find rfl (Nat.le_of_ble_eq_true rfl) BS_248 (Nat.le_of_ble_eq_true rfl) (Nat.le_of_ble_eq_true rfl) hci_12 (Nat.le_of_ble_eq_true rfl) (Nat.le_of_ble_eq_true rfl) h (fun x4 s3 h => ?_)
    refine JT_if_ge (tgt := 43) dX12_fresh_25 (by decide) (fun hc13 => ?_) (fun hc13 => ?_)
    · have h := h.1 hc13
      refine JT_aload_n (q := 0) dX12_fresh_43 rfl rfl ?_
      refine JT_iconst (v := 3) dX12_fresh_44 ic_3 ?_
      refine JS_callVI (M' := MX12_bad) (d' := 0) (As := [.int (3 : Int32)]) (rest := []) (P := (fun zv9 wm9 => (vX12_bad s3 (3 : Int32)) = zv9 ∧ (mX12_bad s3 (3 : Int32)) = wm9)) dX12_fresh_45 cvX12_196 okX12_bad rfl (Nat.le_of_ble_eq_true rfl) BS_248 (Nat.le_of_ble_eq_true rfl) (Nat.le_of_ble_eq_true rfl) hci_12 (Nat.le_of_ble_eq_true rfl) (Nat.le_of_ble_eq_true rfl) (pX12_bad  ((3 : Int32))  ⟨rfl, rfl⟩) (fun zv9 wm9 hq9 => ?_)
      obtain ⟨rfl, rfl⟩ := hq9
      exact JS_iret dX12_fresh_48 rfl (n01 (zX12_bad s3 (3 : Int32))) h
    · have h := h.2 hc13
      refine JT_aload_n (q := 0) dX12_fresh_28 rfl rfl ?_
      refine JT_bipush (v := 24) dX12_fresh_29 bp_24 ?_
      refine JT_aload_n (q := 0) dX12_fresh_31 rfl rfl ?_
      refine JS_getR (x := 251) dX12_fresh_32 flX12_37 BS_248 (Nat.le_of_ble_eq_true rfl) (Nat.le_of_ble_eq_true rfl) (Or.inr ⟨_, ct_12_7⟩) RF_248_7 ?_
      refine JT_iconst (v := 1) dX12_fresh_35 ic_1 ?_
      refine JS_iald dX12_fresh_36 BS_251 (Nat.le_of_ble_eq_true rfl) (Nat.le_of_ble_eq_true rfl) (by unfold vp_in; decide) ?_
      refine JS_callVI (M' := MX12_find) (d' := 0) (As := [.int (24 : Int32), .int (gI s3 251 ((1 : Int32)).toNatClampNeg)]) (rest := []) dX12_fresh_37 cvX12_213 okX12_find rfl (Nat.le_of_ble_eq_true rfl) BS_248 (Nat.le_of_ble_eq_true rfl) (Nat.le_of_ble_eq_true rfl) hci_12 (Nat.le_of_ble_eq_true rfl) (Nat.le_of_ble_eq_true rfl) h (fun x7 s6 h => ?_)
      refine JT_if_lt (tgt := 49) dX12_fresh_40 (by decide) (fun hc12 => ?_) (fun hc12 => ?_)
      · have h := h.1 hc12
        refine JT_aload_n (q := 0) dX12_fresh_49 rfl rfl ?_
        refine JS_getR (x := 253) dX12_fresh_50 flX12_43 BS_248 (Nat.le_of_ble_eq_true rfl) (Nat.le_of_ble_eq_true rfl) (Or.inr ⟨_, ct_12_9⟩) RF_248_9 ?_
        refine JT_iload_n (q := 1) dX12_fresh_53 rfl rfl ?_
        refine JT_aload_n (q := 0) dX12_fresh_54 rfl rfl ?_
        refine JS_getL dX12_fresh_55 flX12_183 BS_248 (Nat.le_of_ble_eq_true rfl) (Nat.le_of_ble_eq_true rfl) ct_12_17 ?_
        obtain ⟨o8, h⟩ := h
        refine JS_last dX12_fresh_58 BS_253 (Nat.le_of_ble_eq_true rfl) (Nat.le_of_ble_eq_true rfl) o8 ?_
        refine JT_aload_n (q := 0) dX12_fresh_59 rfl rfl ?_
        refine JS_callVV (M' := MX12_next) (d' := 1) (As := []) (rest := []) dX12_fresh_60 cvX12_199 okX12_next rfl (Nat.le_of_ble_eq_true rfl) BS_248 (Nat.le_of_ble_eq_true rfl) (Nat.le_of_ble_eq_true rfl) hci_12 (Nat.le_of_ble_eq_true rfl) (Nat.le_of_ble_eq_true rfl) h (fun s9 h => ?_)
        refine JT_iconst (v := 1) dX12_fresh_63 ic_1 ?_
        exact JS_iret dX12_fresh_64 rfl (n01 (Or.inr rfl)) h
      · have h := h.2 hc12
        refine JT_aload_n (q := 0) dX12_fresh_43 rfl rfl ?_
        refine JT_iconst (v := 3) dX12_fresh_44 ic_3 ?_
        refine JS_callVI (M' := MX12_bad) (d' := 0) (As := [.int (3 : Int32)]) (rest := []) (P := (fun zv9 wm9 => (vX12_bad s6 (3 : Int32)) = zv9 ∧ (mX12_bad s6 (3 : Int32)) = wm9)) dX12_fresh_45 cvX12_196 okX12_bad rfl (Nat.le_of_ble_eq_true rfl) BS_248 (Nat.le_of_ble_eq_true rfl) (Nat.le_of_ble_eq_true rfl) hci_12 (Nat.le_of_ble_eq_true rfl) (Nat.le_of_ble_eq_true rfl) (pX12_bad  ((3 : Int32))  ⟨rfl, rfl⟩) (fun zv9 wm9 hq9 => ?_)
        obtain ⟨rfl, rfl⟩ := hq9
        exact JS_iret dX12_fresh_48 rfl (n01 (zX12_bad s6 (3 : Int32))) h
  · have h := h.2 hc15
    refine JT_aload_n (q := 0) dX12_fresh_7 rfl rfl ?_
    refine JT_iconst (v := 1) dX12_fresh_8 ic_1 ?_
    refine JS_callVI (M' := MX12_bad) (d' := 0) (As := [.int (1 : Int32)]) (rest := []) (P := (fun zv9 wm9 => (vX12_bad s1 (1 : Int32)) = zv9 ∧ (mX12_bad s1 (1 : Int32)) = wm9)) dX12_fresh_9 cvX12_196 okX12_bad rfl (Nat.le_of_ble_eq_true rfl) BS_248 (Nat.le_of_ble_eq_true rfl) (Nat.le_of_ble_eq_true rfl) hci_12 (Nat.le_of_ble_eq_true rfl) (Nat.le_of_ble_eq_true rfl) (pX12_bad  ((1 : Int32))  ⟨rfl, rfl⟩) (fun zv9 wm9 hq9 => ?_)
    obtain ⟨rfl, rfl⟩ := hq9
    exact JS_iret dX12_fresh_12 rfl (n01 (zX12_bad s1 (1 : Int32))) h
set_option maxRecDepth 20000 in
theorem bX12_isKnown (a1 : Int32) (a2 : Int32) {s : SM} {Q : Int32 → SM → Prop} (h : rX12_isRead s a1 (0 : Int32) a2 ∧ rX12_isRead s a1 (1 : Int32) a2 ∧ rX12_sortOf s a1 ∧ Q (if (vX12_sortOf s a1) = (4 : Int32) then (if (vX12_isRead s a1 (0 : Int32) a2) = 0 then (0 : Int32) else (if (vX12_isRead s a1 (1 : Int32) a2) = 0 then (0 : Int32) else (1 : Int32))) else (if (vX12_isRead s a1 (0 : Int32) a2) = 0 then (if (vX12_isRead s a1 (1 : Int32) a2) = 0 then (0 : Int32) else (1 : Int32)) else (1 : Int32))) s) : KI MX12_isKnown 2 [.ref 248, .int a1, .int a2] s Q := by
  show BI MX12_isKnown 2 0 [(0, .ref 248), (1, .int a1), (2, .int a2)] s Q
  refine JT_aload_n (q := 0) dX12_isKnown_0 rfl rfl ?_
  refine JT_iload_n (q := 1) dX12_isKnown_1 rfl rfl ?_
  refine JT_iconst (v := 0) dX12_isKnown_2 ic_0 ?_
  refine JT_iload_n (q := 2) dX12_isKnown_3 rfl rfl ?_
  obtain ⟨o9, h⟩ := h
  refine JS_callVI (M' := MX12_isRead) (d' := 1) (As := [.int a1, .int (0 : Int32), .int a2]) (rest := []) (P := (fun zv9 wm9 => (vX12_isRead s a1 (0 : Int32) a2) = zv9 ∧ s = wm9)) dX12_isKnown_4 cvX12_284 okX12_isRead rfl (Nat.le_of_ble_eq_true rfl) BS_248 (Nat.le_of_ble_eq_true rfl) (Nat.le_of_ble_eq_true rfl) hci_12 (Nat.le_of_ble_eq_true rfl) (Nat.le_of_ble_eq_true rfl) (pX12_isRead  (a1) ((0 : Int32)) (a2) o9 ⟨rfl, rfl⟩) (fun zv9 wm9 hq9 => ?_)
  obtain ⟨rfl, rfl⟩ := hq9
  refine JT_istore_n (lv' := [(3, .int (vX12_isRead s a1 (0 : Int32) a2)), (0, .ref 248), (1, .int a1), (2, .int a2)]) dX12_isKnown_7 rfl (Nat.le_of_ble_eq_true rfl) rfl ?_
  refine JT_aload_n (q := 1) dX12_isKnown_8 rfl rfl ?_
  refine JT_iload_n (q := 2) dX12_isKnown_9 rfl rfl ?_
  refine JT_iconst (v := 1) dX12_isKnown_10 ic_1 ?_
  refine JT_iload_n (q := 3) dX12_isKnown_11 rfl rfl ?_
  obtain ⟨o8, h⟩ := h
  refine JS_callVI (M' := MX12_isRead) (d' := 1) (As := [.int a1, .int (1 : Int32), .int a2]) (rest := []) (P := (fun zv9 wm9 => (vX12_isRead s a1 (1 : Int32) a2) = zv9 ∧ s = wm9)) dX12_isKnown_12 cvX12_284 okX12_isRead rfl (Nat.le_of_ble_eq_true rfl) BS_248 (Nat.le_of_ble_eq_true rfl) (Nat.le_of_ble_eq_true rfl) hci_12 (Nat.le_of_ble_eq_true rfl) (Nat.le_of_ble_eq_true rfl) (pX12_isRead  (a1) ((1 : Int32)) (a2) o8 ⟨rfl, rfl⟩) (fun zv9 wm9 hq9 => ?_)
  obtain ⟨rfl, rfl⟩ := hq9
  refine JT_istore (lv' := [(4, .int (vX12_isRead s a1 (1 : Int32) a2)), (3, .int (vX12_isRead s a1 (0 : Int32) a2)), (0, .ref 248), (1, .int a1), (2, .int a2)]) dX12_isKnown_15 (Nat.le_of_ble_eq_true rfl) rfl ?_
  refine JT_aload_n (q := 2) dX12_isKnown_17 rfl rfl ?_
  refine JT_iload_n (q := 3) dX12_isKnown_18 rfl rfl ?_
  obtain ⟨o7, h⟩ := h
  refine JS_callVI (M' := MX12_sortOf) (d' := 1) (As := [.int a1]) (rest := []) (P := (fun zv9 wm9 => (vX12_sortOf s a1) = zv9 ∧ s = wm9)) dX12_isKnown_19 cvX12_272 okX12_sortOf rfl (Nat.le_of_ble_eq_true rfl) BS_248 (Nat.le_of_ble_eq_true rfl) (Nat.le_of_ble_eq_true rfl) hci_12 (Nat.le_of_ble_eq_true rfl) (Nat.le_of_ble_eq_true rfl) (pX12_sortOf  (a1) o7 ⟨rfl, rfl⟩) (fun zv9 wm9 hq9 => ?_)
  obtain ⟨rfl, rfl⟩ := hq9
  refine JT_iconst (v := 4) dX12_isKnown_22 ic_4 ?_
  have hj1 : ∀ v : Int32, v = (if (vX12_sortOf s a1) = (4 : Int32) then (if (vX12_isRead s a1 (0 : Int32) a2) = 0 then (0 : Int32) else (if (vX12_isRead s a1 (1 : Int32) a2) = 0 then (0 : Int32) else (1 : Int32))) else (if (vX12_isRead s a1 (0 : Int32) a2) = 0 then (if (vX12_isRead s a1 (1 : Int32) a2) = 0 then (0 : Int32) else (1 : Int32)) else (1 : Int32))) → JT MX12_isKnown 2 0 0 57 [(4, .int (vX12_isRead s a1 (1 : Int32) a2)), (3, .int (vX12_isRead s a1 (0 : Int32) a2)), (0, .ref 248), (1, .int a1), (2, .int a2)] [.int v] (std s) (KQ Q) := by
    intro v hv
    subst hv
    exact JS_iret dX12_isKnown_57 rfl (n01 (i01 (i01 (Or.inl rfl) (i01 (Or.inl rfl) (Or.inr rfl))) (i01 (i01 (Or.inl rfl) (Or.inr rfl)) (Or.inr rfl)))) h
  refine JT_icmp_ne (tgt := 43) dX12_isKnown_23 (by decide) (fun hc2 => ?_) (fun hc2 => ?_)
  · refine JT_iload_n (q := 1) dX12_isKnown_43 rfl rfl ?_
    refine JT_if_ne (tgt := 52) dX12_isKnown_44 (by decide) (fun hc3 => ?_) (fun hc3 => ?_)
    · refine JT_iconst (v := 1) dX12_isKnown_52 ic_1 ?_
      refine JT_goto (tgt := 57) dX12_isKnown_53 (by decide) ?_
      exact hj1 _ (by rw [if_neg hc2, if_neg hc3])
    · refine JT_iload (q := 0) dX12_isKnown_47 rfl ?_
      refine JT_if_eq (tgt := 56) dX12_isKnown_49 (by decide) (fun hc4 => ?_) (fun hc4 => ?_)
      · refine JT_iconst (v := 0) dX12_isKnown_56 ic_0 ?_
        exact hj1 _ (by rw [if_neg hc2, if_pos hc3, if_pos hc4])
      · refine JT_iconst (v := 1) dX12_isKnown_52 ic_1 ?_
        refine JT_goto (tgt := 57) dX12_isKnown_53 (by decide) ?_
        exact hj1 _ (by rw [if_neg hc2, if_pos hc3, if_neg hc4])
  · refine JT_iload_n (q := 1) dX12_isKnown_26 rfl rfl ?_
    refine JT_if_eq (tgt := 39) dX12_isKnown_27 (by decide) (fun hc5 => ?_) (fun hc5 => ?_)
    · refine JT_iconst (v := 0) dX12_isKnown_39 ic_0 ?_
      refine JT_goto (tgt := 57) dX12_isKnown_40 (by decide) ?_
      exact hj1 _ (by rw [if_pos hc2, if_pos hc5])
    · refine JT_iload (q := 0) dX12_isKnown_30 rfl ?_
      refine JT_if_eq (tgt := 39) dX12_isKnown_32 (by decide) (fun hc6 => ?_) (fun hc6 => ?_)
      · refine JT_iconst (v := 0) dX12_isKnown_39 ic_0 ?_
        refine JT_goto (tgt := 57) dX12_isKnown_40 (by decide) ?_
        exact hj1 _ (by rw [if_pos hc2, if_neg hc5, if_pos hc6])
      · refine JT_iconst (v := 1) dX12_isKnown_35 ic_1 ?_
        refine JT_goto (tgt := 57) dX12_isKnown_36 (by decide) ?_
        exact hj1 _ (by rw [if_pos hc2, if_neg hc5, if_neg hc6])
set_option maxRecDepth 20000 in
def vX12_isKnown (s : SM) (a1 : Int32) (a2 : Int32) : Int32 := (if (vX12_sortOf s a1) = (4 : Int32) then (if (vX12_isRead s a1 (0 : Int32) a2) = 0 then (0 : Int32) else (if (vX12_isRead s a1 (1 : Int32) a2) = 0 then (0 : Int32) else (1 : Int32))) else (if (vX12_isRead s a1 (0 : Int32) a2) = 0 then (if (vX12_isRead s a1 (1 : Int32) a2) = 0 then (0 : Int32) else (1 : Int32)) else (1 : Int32)))
set_option maxRecDepth 20000 in
def rX12_isKnown (s : SM) (a1 : Int32) (a2 : Int32) : Prop := rX12_isRead s a1 (0 : Int32) a2 ∧ rX12_isRead s a1 (1 : Int32) a2 ∧ rX12_sortOf s a1
set_option maxRecDepth 20000 in
theorem zX12_isKnown (s : SM) (a1 : Int32) (a2 : Int32) : vX12_isKnown s a1 a2 = 0 ∨ vX12_isKnown s a1 a2 = 1 := (i01 (i01 (Or.inl rfl) (i01 (Or.inl rfl) (Or.inr rfl))) (i01 (i01 (Or.inl rfl) (Or.inr rfl)) (Or.inr rfl)))
set_option maxRecDepth 20000 in
theorem pX12_isKnown (a1 : Int32) (a2 : Int32) {s : SM} {Q : Int32 → SM → Prop} (hr : rX12_isKnown s a1 a2) (h : Q (vX12_isKnown s a1 a2) s) : KI MX12_isKnown 2 [.ref 248, .int a1, .int a2] s Q := by
  refine bX12_isKnown a1 a2 ?_
  unfold rX12_isKnown at hr
  unfold vX12_isKnown at h
  refine ⟨hr.1, ?_⟩
  replace hr := hr.2
  refine ⟨hr.1, ?_⟩
  replace hr := hr.2
  refine ⟨hr, ?_⟩
  first | exact h | contradiction
set_option maxRecDepth 20000 in
theorem bX12_isOpen (a1 : Int32) {s : SM} {Q : Int32 → SM → Prop} (h : (((vX12_isDeal s a1) = 0 → Q (0 : Int32) s) ∧ (¬ (vX12_isDeal s a1) = 0 → rX12_of s a1 (5 : Int32) ∧ Q (if (vX12_of s a1 (5 : Int32)) = 0 then (1 : Int32) else (0 : Int32)) s))) : KI MX12_isOpen 2 [.ref 248, .int a1] s Q := by
  show BI MX12_isOpen 2 0 [(0, .ref 248), (1, .int a1)] s Q
  refine JT_aload_n (q := 0) dX12_isOpen_0 rfl rfl ?_
  refine JT_iload_n (q := 1) dX12_isOpen_1 rfl rfl ?_
  refine JS_callVI (M' := MX12_isDeal) (d' := 1) (As := [.int a1]) (rest := []) (P := (fun zv9 wm9 => (vX12_isDeal s a1) = zv9 ∧ s = wm9)) dX12_isOpen_2 cvX12_262 okX12_isDeal rfl (Nat.le_of_ble_eq_true rfl) BS_248 (Nat.le_of_ble_eq_true rfl) (Nat.le_of_ble_eq_true rfl) hci_12 (Nat.le_of_ble_eq_true rfl) (Nat.le_of_ble_eq_true rfl) (pX12_isDeal  (a1)  ⟨rfl, rfl⟩) (fun zv9 wm9 hq9 => ?_)
  obtain ⟨rfl, rfl⟩ := hq9
  refine JT_if_eq (tgt := 21) dX12_isOpen_5 (by decide) (fun hc4 => ?_) (fun hc4 => ?_)
  · have h := h.1 hc4
    refine JT_iconst (v := 0) dX12_isOpen_21 ic_0 ?_
    exact JS_iret dX12_isOpen_22 rfl (n01 (Or.inl rfl)) h
  · have h := h.2 hc4
    refine JT_aload_n (q := 0) dX12_isOpen_8 rfl rfl ?_
    refine JT_iload_n (q := 1) dX12_isOpen_9 rfl rfl ?_
    refine JT_iconst (v := 5) dX12_isOpen_10 ic_5 ?_
    obtain ⟨o3, h⟩ := h
    refine JS_callVI (M' := MX12_of) (d' := 0) (As := [.int a1, .int (5 : Int32)]) (rest := []) (P := (fun zv9 wm9 => (vX12_of s a1 (5 : Int32)) = zv9 ∧ s = wm9)) dX12_isOpen_11 cvX12_265 okX12_of rfl (Nat.le_of_ble_eq_true rfl) BS_248 (Nat.le_of_ble_eq_true rfl) (Nat.le_of_ble_eq_true rfl) hci_12 (Nat.le_of_ble_eq_true rfl) (Nat.le_of_ble_eq_true rfl) (pX12_of  (a1) ((5 : Int32)) o3 ⟨rfl, rfl⟩) (fun zv9 wm9 hq9 => ?_)
    obtain ⟨rfl, rfl⟩ := hq9
    have hj1 : ∀ v : Int32, v = (if (vX12_of s a1 (5 : Int32)) = 0 then (1 : Int32) else (0 : Int32)) → JT MX12_isOpen 2 0 0 22 [(0, .ref 248), (1, .int a1)] [.int v] (std s) (KQ Q) := by
      intro v hv
      subst hv
      exact JS_iret dX12_isOpen_22 rfl (n01 (i01 (Or.inr rfl) (Or.inl rfl))) h
    refine JT_if_ne (tgt := 21) dX12_isOpen_14 (by decide) (fun hc2 => ?_) (fun hc2 => ?_)
    · refine JT_iconst (v := 0) dX12_isOpen_21 ic_0 ?_
      exact hj1 _ (by rw [if_neg hc2])
    · refine JT_iconst (v := 1) dX12_isOpen_17 ic_1 ?_
      refine JT_goto (tgt := 22) dX12_isOpen_18 (by decide) ?_
      exact hj1 _ (by rw [if_pos hc2])
set_option maxRecDepth 20000 in
def vX12_isOpen (s : SM) (a1 : Int32) : Int32 := (if (vX12_isDeal s a1) = 0 then (0 : Int32) else (if (vX12_of s a1 (5 : Int32)) = 0 then (1 : Int32) else (0 : Int32)))
set_option maxRecDepth 20000 in
def rX12_isOpen (s : SM) (a1 : Int32) : Prop := (¬ (vX12_isDeal s a1) = 0 → rX12_of s a1 (5 : Int32))
set_option maxRecDepth 20000 in
theorem zX12_isOpen (s : SM) (a1 : Int32) : vX12_isOpen s a1 = 0 ∨ vX12_isOpen s a1 = 1 := (i01 (Or.inl rfl) (i01 (Or.inr rfl) (Or.inl rfl)))
set_option maxRecDepth 20000 in
theorem pX12_isOpen (a1 : Int32) {s : SM} {Q : Int32 → SM → Prop} (hr : rX12_isOpen s a1) (h : Q (vX12_isOpen s a1) s) : KI MX12_isOpen 2 [.ref 248, .int a1] s Q := by
  refine bX12_isOpen a1 ?_
  unfold rX12_isOpen at hr
  unfold vX12_isOpen at h
  refine ⟨fun c => ?_, fun c => ?_⟩
  · try simp only [if_pos c] at h
    first | exact h | contradiction
  · replace hr := hr c
    try simp only [if_neg c] at h
    refine ⟨hr, ?_⟩
    first | exact h | contradiction
set_option maxRecDepth 20000 in
theorem bX12_kind (a1 : Int32) (a2 : Int32) {s : SM} {Q : Int32 → SM → Prop} (h : (((vX12_isKind s a1) = 0 → rX12_throwsIf s (1 : Int32) ∧ (((vX12_throwsIf s (1 : Int32)) = 0 → vp_in ((if a2 = 0 then (22 : Int32) else (28 : Int32)) + a1) 787 ∧ Q (gI (mX12_throwsIf s (1 : Int32)) 250 (((if a2 = 0 then (22 : Int32) else (28 : Int32)) + a1)).toNatClampNeg) (mX12_throwsIf s (1 : Int32))) ∧ (¬ (vX12_throwsIf s (1 : Int32)) = 0 → Q (0 : Int32) (mX12_throwsIf s (1 : Int32))))) ∧ (¬ (vX12_isKind s a1) = 0 → rX12_throwsIf s (if (vX12_isIn s a2 (0 : Int32) (1 : Int32)) = 0 then (1 : Int32) else (0 : Int32)) ∧ (((vX12_throwsIf s (if (vX12_isIn s a2 (0 : Int32) (1 : Int32)) = 0 then (1 : Int32) else (0 : Int32))) = 0 → vp_in ((if a2 = 0 then (22 : Int32) else (28 : Int32)) + a1) 787 ∧ Q (gI (mX12_throwsIf s (if (vX12_isIn s a2 (0 : Int32) (1 : Int32)) = 0 then (1 : Int32) else (0 : Int32))) 250 (((if a2 = 0 then (22 : Int32) else (28 : Int32)) + a1)).toNatClampNeg) (mX12_throwsIf s (if (vX12_isIn s a2 (0 : Int32) (1 : Int32)) = 0 then (1 : Int32) else (0 : Int32)))) ∧ (¬ (vX12_throwsIf s (if (vX12_isIn s a2 (0 : Int32) (1 : Int32)) = 0 then (1 : Int32) else (0 : Int32))) = 0 → Q (0 : Int32) (mX12_throwsIf s (if (vX12_isIn s a2 (0 : Int32) (1 : Int32)) = 0 then (1 : Int32) else (0 : Int32)))))))) : KI MX12_kind 2 [.ref 248, .int a1, .int a2] s Q := by
  show BI MX12_kind 2 0 [(0, .ref 248), (1, .int a1), (2, .int a2)] s Q
  refine JT_aload_n (q := 0) dX12_kind_0 rfl rfl ?_
  refine JT_aload_n (q := 0) dX12_kind_1 rfl rfl ?_
  refine JT_iload_n (q := 1) dX12_kind_2 rfl rfl ?_
  refine JS_callVI (M' := MX12_isKind) (d' := 1) (As := [.int a1]) (rest := [.ref 248]) (P := (fun zv9 wm9 => (vX12_isKind s a1) = zv9 ∧ s = wm9)) dX12_kind_3 cvX12_306 okX12_isKind rfl (Nat.le_of_ble_eq_true rfl) BS_248 (Nat.le_of_ble_eq_true rfl) (Nat.le_of_ble_eq_true rfl) hci_12 (Nat.le_of_ble_eq_true rfl) (Nat.le_of_ble_eq_true rfl) (pX12_isKind  (a1)  ⟨rfl, rfl⟩) (fun zv9 wm9 hq9 => ?_)
  obtain ⟨rfl, rfl⟩ := hq9
  refine JT_if_eq (tgt := 18) dX12_kind_6 (by decide) (fun hc14 => ?_) (fun hc14 => ?_)
  · have h := h.1 hc14
    refine JT_iconst (v := 1) dX12_kind_18 ic_1 ?_
    refine JT_goto (tgt := 23) dX12_kind_19 (by decide) ?_
    obtain ⟨o5, h⟩ := h
    refine JS_callVI (M' := MX12_throwsIf) (d' := 0) (As := [.int (1 : Int32)]) (rest := []) (P := (fun zv9 wm9 => (vX12_throwsIf s (1 : Int32)) = zv9 ∧ (mX12_throwsIf s (1 : Int32)) = wm9)) dX12_kind_23 cvX12_290 okX12_throwsIf rfl (Nat.le_of_ble_eq_true rfl) BS_248 (Nat.le_of_ble_eq_true rfl) (Nat.le_of_ble_eq_true rfl) hci_12 (Nat.le_of_ble_eq_true rfl) (Nat.le_of_ble_eq_true rfl) (pX12_throwsIf  ((1 : Int32)) o5 ⟨rfl, rfl⟩) (fun zv9 wm9 hq9 => ?_)
    obtain ⟨rfl, rfl⟩ := hq9
    refine JT_if_eq (tgt := 33) dX12_kind_26 (by decide) (fun hc4 => ?_) (fun hc4 => ?_)
    · have h := h.1 hc4
      refine JT_aload_n (q := 0) dX12_kind_33 rfl rfl ?_
      refine JS_getR (x := 250) dX12_kind_34 flX12_33 BS_248 (Nat.le_of_ble_eq_true rfl) (Nat.le_of_ble_eq_true rfl) (Or.inr ⟨_, ct_12_6⟩) RF_248_6 ?_
      refine JT_iload_n (q := 2) dX12_kind_37 rfl rfl ?_
      have hj2 : ∀ v : Int32, v = (if a2 = 0 then (22 : Int32) else (28 : Int32)) → JT MX12_kind 2 0 0 48 [(0, .ref 248), (1, .int a1), (2, .int a2)] [.int v, .ref 250] (std (mX12_throwsIf s (1 : Int32))) (KQ Q) := by
        intro v hv
        subst hv
        refine JT_iload_n (q := 1) dX12_kind_48 rfl rfl ?_
        refine JT_iadd dX12_kind_49 ?_
        obtain ⟨o1, h⟩ := h
        refine JS_iald dX12_kind_50 BS_250 (Nat.le_of_ble_eq_true rfl) (Nat.le_of_ble_eq_true rfl) o1 ?_
        exact JS_iret dX12_kind_51 rfl rfl h
      refine JT_if_ne (tgt := 46) dX12_kind_38 (by decide) (fun hc3 => ?_) (fun hc3 => ?_)
      · refine JT_bipush (v := 28) dX12_kind_46 bp_28 ?_
        exact hj2 _ (by rw [if_neg hc3])
      · refine JT_bipush (v := 22) dX12_kind_41 bp_22 ?_
        refine JT_goto (tgt := 48) dX12_kind_43 (by decide) ?_
        exact hj2 _ (by rw [if_pos hc3])
    · have h := h.2 hc4
      refine JT_iconst (v := 0) dX12_kind_29 ic_0 ?_
      refine JT_goto (tgt := 51) dX12_kind_30 (by decide) ?_
      exact JS_iret dX12_kind_51 rfl rfl h
  · have h := h.2 hc14
    refine JT_iload_n (q := 2) dX12_kind_9 rfl rfl ?_
    refine JT_iconst (v := 0) dX12_kind_10 ic_0 ?_
    refine JT_iconst (v := 1) dX12_kind_11 ic_1 ?_
    refine JS_callSI (M' := MX12_isIn) (d' := 0) (As := [.int a2, .int (0 : Int32), .int (1 : Int32)]) (rest := [.ref 248]) (P := (fun zv9 wm9 => (vX12_isIn s a2 (0 : Int32) (1 : Int32)) = zv9 ∧ s = wm9)) dX12_kind_12 cvX12_202 okX12_isIn rfl (Nat.le_of_ble_eq_true rfl) (Nat.le_of_ble_eq_true rfl) (Nat.le_of_ble_eq_true rfl) (pX12_isIn  (a2) ((0 : Int32)) ((1 : Int32))  ⟨rfl, rfl⟩) (fun zv9 wm9 hq9 => ?_)
    obtain ⟨rfl, rfl⟩ := hq9
    have hj11 : ∀ v : Int32, v = (if (vX12_isIn s a2 (0 : Int32) (1 : Int32)) = 0 then (1 : Int32) else (0 : Int32)) → JT MX12_kind 2 0 0 23 [(0, .ref 248), (1, .int a1), (2, .int a2)] [.int v, .ref 248] (std s) (KQ Q) := by
      intro v hv
      subst hv
      obtain ⟨o10, h⟩ := h
      refine JS_callVI (M' := MX12_throwsIf) (d' := 0) (As := [.int (if (vX12_isIn s a2 (0 : Int32) (1 : Int32)) = 0 then (1 : Int32) else (0 : Int32))]) (rest := []) (P := (fun zv9 wm9 => (vX12_throwsIf s (if (vX12_isIn s a2 (0 : Int32) (1 : Int32)) = 0 then (1 : Int32) else (0 : Int32))) = zv9 ∧ (mX12_throwsIf s (if (vX12_isIn s a2 (0 : Int32) (1 : Int32)) = 0 then (1 : Int32) else (0 : Int32))) = wm9)) dX12_kind_23 cvX12_290 okX12_throwsIf rfl (Nat.le_of_ble_eq_true rfl) BS_248 (Nat.le_of_ble_eq_true rfl) (Nat.le_of_ble_eq_true rfl) hci_12 (Nat.le_of_ble_eq_true rfl) (Nat.le_of_ble_eq_true rfl) (pX12_throwsIf  ((if (vX12_isIn s a2 (0 : Int32) (1 : Int32)) = 0 then (1 : Int32) else (0 : Int32))) o10 ⟨rfl, rfl⟩) (fun zv9 wm9 hq9 => ?_)
      obtain ⟨rfl, rfl⟩ := hq9
      refine JT_if_eq (tgt := 33) dX12_kind_26 (by decide) (fun hc9 => ?_) (fun hc9 => ?_)
      · have h := h.1 hc9
        refine JT_aload_n (q := 0) dX12_kind_33 rfl rfl ?_
        refine JS_getR (x := 250) dX12_kind_34 flX12_33 BS_248 (Nat.le_of_ble_eq_true rfl) (Nat.le_of_ble_eq_true rfl) (Or.inr ⟨_, ct_12_6⟩) RF_248_6 ?_
        refine JT_iload_n (q := 2) dX12_kind_37 rfl rfl ?_
        have hj7 : ∀ v : Int32, v = (if a2 = 0 then (22 : Int32) else (28 : Int32)) → JT MX12_kind 2 0 0 48 [(0, .ref 248), (1, .int a1), (2, .int a2)] [.int v, .ref 250] (std (mX12_throwsIf s (if (vX12_isIn s a2 (0 : Int32) (1 : Int32)) = 0 then (1 : Int32) else (0 : Int32)))) (KQ Q) := by
          intro v hv
          subst hv
          refine JT_iload_n (q := 1) dX12_kind_48 rfl rfl ?_
          refine JT_iadd dX12_kind_49 ?_
          obtain ⟨o6, h⟩ := h
          refine JS_iald dX12_kind_50 BS_250 (Nat.le_of_ble_eq_true rfl) (Nat.le_of_ble_eq_true rfl) o6 ?_
          exact JS_iret dX12_kind_51 rfl rfl h
        refine JT_if_ne (tgt := 46) dX12_kind_38 (by decide) (fun hc8 => ?_) (fun hc8 => ?_)
        · refine JT_bipush (v := 28) dX12_kind_46 bp_28 ?_
          exact hj7 _ (by rw [if_neg hc8])
        · refine JT_bipush (v := 22) dX12_kind_41 bp_22 ?_
          refine JT_goto (tgt := 48) dX12_kind_43 (by decide) ?_
          exact hj7 _ (by rw [if_pos hc8])
      · have h := h.2 hc9
        refine JT_iconst (v := 0) dX12_kind_29 ic_0 ?_
        refine JT_goto (tgt := 51) dX12_kind_30 (by decide) ?_
        exact JS_iret dX12_kind_51 rfl rfl h
    refine JT_if_ne (tgt := 22) dX12_kind_15 (by decide) (fun hc12 => ?_) (fun hc12 => ?_)
    · refine JT_iconst (v := 0) dX12_kind_22 ic_0 ?_
      exact hj11 _ (by rw [if_neg hc12])
    · refine JT_iconst (v := 1) dX12_kind_18 ic_1 ?_
      refine JT_goto (tgt := 23) dX12_kind_19 (by decide) ?_
      exact hj11 _ (by rw [if_pos hc12])
set_option maxRecDepth 20000 in
def vX12_kind (s : SM) (a1 : Int32) (a2 : Int32) : Int32 := (if (vX12_isKind s a1) = 0 then (if (vX12_throwsIf s (1 : Int32)) = 0 then (gI (mX12_throwsIf s (1 : Int32)) 250 (((if a2 = 0 then (22 : Int32) else (28 : Int32)) + a1)).toNatClampNeg) else (0 : Int32)) else (if (vX12_throwsIf s (if (vX12_isIn s a2 (0 : Int32) (1 : Int32)) = 0 then (1 : Int32) else (0 : Int32))) = 0 then (gI (mX12_throwsIf s (if (vX12_isIn s a2 (0 : Int32) (1 : Int32)) = 0 then (1 : Int32) else (0 : Int32))) 250 (((if a2 = 0 then (22 : Int32) else (28 : Int32)) + a1)).toNatClampNeg) else (0 : Int32)))
set_option maxRecDepth 20000 in
def mX12_kind (s : SM) (a1 : Int32) (a2 : Int32) : SM := (if (vX12_isKind s a1) = 0 then (mX12_throwsIf s (1 : Int32)) else (mX12_throwsIf s (if (vX12_isIn s a2 (0 : Int32) (1 : Int32)) = 0 then (1 : Int32) else (0 : Int32))))
set_option maxRecDepth 20000 in
def rX12_kind (s : SM) (a1 : Int32) (a2 : Int32) : Prop := (((vX12_isKind s a1) = 0 → rX12_throwsIf s (1 : Int32) ∧ ((vX12_throwsIf s (1 : Int32)) = 0 → vp_in ((if a2 = 0 then (22 : Int32) else (28 : Int32)) + a1) 787)) ∧ (¬ (vX12_isKind s a1) = 0 → rX12_throwsIf s (if (vX12_isIn s a2 (0 : Int32) (1 : Int32)) = 0 then (1 : Int32) else (0 : Int32)) ∧ ((vX12_throwsIf s (if (vX12_isIn s a2 (0 : Int32) (1 : Int32)) = 0 then (1 : Int32) else (0 : Int32))) = 0 → vp_in ((if a2 = 0 then (22 : Int32) else (28 : Int32)) + a1) 787)))
set_option maxRecDepth 20000 in
theorem pX12_kind (a1 : Int32) (a2 : Int32) {s : SM} {Q : Int32 → SM → Prop} (hr : rX12_kind s a1 a2) (h : Q (vX12_kind s a1 a2) (mX12_kind s a1 a2)) : KI MX12_kind 2 [.ref 248, .int a1, .int a2] s Q := by
  refine bX12_kind a1 a2 ?_
  unfold rX12_kind at hr
  unfold vX12_kind mX12_kind at h
  refine ⟨fun c => ?_, fun c => ?_⟩
  · replace hr := hr.1 c
    try simp only [if_pos c] at h
    refine ⟨hr.1, ?_⟩
    replace hr := hr.2
    refine ⟨fun c => ?_, fun c => ?_⟩
    · replace hr := hr c
      try simp only [if_pos c] at h
      refine ⟨hr, ?_⟩
      first | exact h | contradiction
    · try simp only [if_neg c] at h
      first | exact h | contradiction
  · replace hr := hr.2 c
    try simp only [if_neg c] at h
    refine ⟨hr.1, ?_⟩
    replace hr := hr.2
    refine ⟨fun c => ?_, fun c => ?_⟩
    · replace hr := hr c
      try simp only [if_pos c] at h
      refine ⟨hr, ?_⟩
      first | exact h | contradiction
    · try simp only [if_neg c] at h
      first | exact h | contradiction
set_option maxRecDepth 20000 in
theorem bX12_leftOf_21 (a1 : Int32) (a2 : Int32) (a3 : Int32) {s : SM} {Q : Int32 → SM → Prop} (h : (((gI s 250 ((34 : Int32)).toNatClampNeg) ≤ a3 → Q a2 s) ∧ (¬ (gI s 250 ((34 : Int32)).toNatClampNeg) ≤ a3 → BI MX12_leftOf 2 35 [(0, .ref 248), (1, .int a1), (2, .int a2), (3, .int a3), (4, .int (0 : Int32))] s Q))) : BI MX12_leftOf 2 21 [(0, .ref 248), (1, .int a1), (2, .int a2), (3, .int a3)] s Q := by
  refine JT_iload_n (q := 3) dX12_leftOf_21 rfl rfl ?_
  refine JT_aload_n (q := 0) dX12_leftOf_22 rfl rfl ?_
  refine JS_getR (x := 250) dX12_leftOf_23 flX12_33 BS_248 (Nat.le_of_ble_eq_true rfl) (Nat.le_of_ble_eq_true rfl) (Or.inr ⟨_, ct_12_6⟩) RF_248_6 ?_
  refine JT_bipush (v := 34) dX12_leftOf_26 bp_34 ?_
  refine JS_iald dX12_leftOf_28 BS_250 (Nat.le_of_ble_eq_true rfl) (Nat.le_of_ble_eq_true rfl) (by unfold vp_in; decide) ?_
  refine JT_icmp_ge (tgt := 75) dX12_leftOf_29 (by decide) (fun hc1 => ?_) (fun hc1 => ?_)
  · have h := h.1 hc1
    refine JT_iload_n (q := 2) dX12_leftOf_75 rfl rfl ?_
    exact JS_iret dX12_leftOf_76 rfl rfl h
  · have h := h.2 hc1
    refine JT_iconst (v := 0) dX12_leftOf_32 ic_0 ?_
    refine JT_istore (lv' := [(4, .int (0 : Int32)), (0, .ref 248), (1, .int a1), (2, .int a2), (3, .int a3)]) dX12_leftOf_33 (Nat.le_of_ble_eq_true rfl) rfl ?_
    exact JT_sub [1, 2, 3, 4, 0] rfl h
set_option maxRecDepth 20000 in
theorem bX12_leftOf_35 (a1 : Int32) (a2 : Int32) (a3 : Int32) (a4 : Int32) {s : SM} {Q : Int32 → SM → Prop} (h : (((2 : Int32) ≤ a4 → BI MX12_leftOf 2 21 [(0, .ref 248), (1, .int a1), (2, .int a2), (3, .int (a3 + 1))] s Q) ∧ (¬ (2 : Int32) ≤ a4 → rX12_of s a3 ((6 : Int32) + a4) ∧ ((¬ (vX12_of s a3 ((6 : Int32) + a4)) = a1 → BI MX12_leftOf 2 35 [(0, .ref 248), (1, .int a1), (2, .int a2), (3, .int a3), (4, .int (a4 + 1))] s Q) ∧ ((vX12_of s a3 ((6 : Int32) + a4)) = a1 → rX12_sizeOf s a3 ∧ BI MX12_leftOf 2 35 [(0, .ref 248), (1, .int a1), (2, .int (a2 - (vX12_sizeOf s a3))), (3, .int a3), (4, .int (a4 + 1))] s Q))))) : BI MX12_leftOf 2 35 [(0, .ref 248), (1, .int a1), (2, .int a2), (3, .int a3), (4, .int a4)] s Q := by
  refine JT_iload (q := 4) dX12_leftOf_35 rfl ?_
  refine JT_iconst (v := 2) dX12_leftOf_37 ic_2 ?_
  refine JT_icmp_ge (tgt := 69) dX12_leftOf_38 (by decide) (fun hc4 => ?_) (fun hc4 => ?_)
  · have h := h.1 hc4
    refine JT_iinc (q := 3) (v := (a3 + 1)) (lv' := [(3, .int (a3 + 1)), (0, .ref 248), (1, .int a1), (2, .int a2), (4, .int a4)]) dX12_leftOf_69 rfl (by rfl) (Nat.le_of_ble_eq_true rfl) rfl ?_
    refine JT_goto (tgt := 21) dX12_leftOf_72 (by decide) ?_
    exact JT_sub [1, 2, 3, 0] rfl h
  · have h := h.2 hc4
    refine JT_aload_n (q := 0) dX12_leftOf_41 rfl rfl ?_
    refine JT_iload_n (q := 3) dX12_leftOf_42 rfl rfl ?_
    refine JT_bipush (v := 6) dX12_leftOf_43 bp_6 ?_
    refine JT_iload (q := 4) dX12_leftOf_45 rfl ?_
    refine JT_iadd dX12_leftOf_47 ?_
    obtain ⟨o3, h⟩ := h
    refine JS_callVI (M' := MX12_of) (d' := 0) (As := [.int a3, .int ((6 : Int32) + a4)]) (rest := []) (P := (fun zv9 wm9 => (vX12_of s a3 ((6 : Int32) + a4)) = zv9 ∧ s = wm9)) dX12_leftOf_48 cvX12_265 okX12_of rfl (Nat.le_of_ble_eq_true rfl) BS_248 (Nat.le_of_ble_eq_true rfl) (Nat.le_of_ble_eq_true rfl) hci_12 (Nat.le_of_ble_eq_true rfl) (Nat.le_of_ble_eq_true rfl) (pX12_of  (a3) (((6 : Int32) + a4)) o3 ⟨rfl, rfl⟩) (fun zv9 wm9 hq9 => ?_)
    obtain ⟨rfl, rfl⟩ := hq9
    refine JT_iload_n (q := 1) dX12_leftOf_51 rfl rfl ?_
    refine JT_icmp_ne (tgt := 63) dX12_leftOf_52 (by decide) (fun hc2 => ?_) (fun hc2 => ?_)
    · have h := h.1 hc2
      refine JT_iinc (q := 4) (v := (a4 + 1)) (lv' := [(4, .int (a4 + 1)), (0, .ref 248), (1, .int a1), (2, .int a2), (3, .int a3)]) dX12_leftOf_63 rfl (by rfl) (Nat.le_of_ble_eq_true rfl) rfl ?_
      refine JT_goto (tgt := 35) dX12_leftOf_66 (by decide) ?_
      exact JT_sub [1, 2, 3, 4, 0] rfl h
    · have h := h.2 hc2
      refine JT_iload_n (q := 2) dX12_leftOf_55 rfl rfl ?_
      refine JT_aload_n (q := 0) dX12_leftOf_56 rfl rfl ?_
      refine JT_iload_n (q := 3) dX12_leftOf_57 rfl rfl ?_
      obtain ⟨o1, h⟩ := h
      refine JS_callVI (M' := MX12_sizeOf) (d' := 1) (As := [.int a3]) (rest := [.int a2]) (P := (fun zv9 wm9 => (vX12_sizeOf s a3) = zv9 ∧ s = wm9)) dX12_leftOf_58 cvX12_268 okX12_sizeOf rfl (Nat.le_of_ble_eq_true rfl) BS_248 (Nat.le_of_ble_eq_true rfl) (Nat.le_of_ble_eq_true rfl) hci_12 (Nat.le_of_ble_eq_true rfl) (Nat.le_of_ble_eq_true rfl) (pX12_sizeOf  (a3) o1 ⟨rfl, rfl⟩) (fun zv9 wm9 hq9 => ?_)
      obtain ⟨rfl, rfl⟩ := hq9
      refine JT_isub dX12_leftOf_61 ?_
      refine JT_istore_n (lv' := [(2, .int (a2 - (vX12_sizeOf s a3))), (0, .ref 248), (1, .int a1), (3, .int a3), (4, .int a4)]) dX12_leftOf_62 rfl (Nat.le_of_ble_eq_true rfl) rfl ?_
      refine JT_iinc (q := 4) (v := (a4 + 1)) (lv' := [(4, .int (a4 + 1)), (2, .int (a2 - (vX12_sizeOf s a3))), (0, .ref 248), (1, .int a1), (3, .int a3)]) dX12_leftOf_63 rfl (by rfl) (Nat.le_of_ble_eq_true rfl) rfl ?_
      refine JT_goto (tgt := 35) dX12_leftOf_66 (by decide) ?_
      exact JT_sub [2, 3, 1, 4, 0] rfl h
set_option maxRecDepth 20000 in
theorem bX12_leftOf (a1 : Int32) {s : SM} {Q : Int32 → SM → Prop} (h : vp_in ((4 : Int32) + a1) 787 ∧ vp_in ((37 : Int32) + a1) 787 ∧ BI MX12_leftOf 2 21 [(0, .ref 248), (1, .int a1), (2, .int ((gI s 250 (((4 : Int32) + a1)).toNatClampNeg) - (gI s 250 (((37 : Int32) + a1)).toNatClampNeg))), (3, .int (0 : Int32))] s Q) : KI MX12_leftOf 2 [.ref 248, .int a1] s Q := by
  show BI MX12_leftOf 2 0 [(0, .ref 248), (1, .int a1)] s Q
  refine JT_aload_n (q := 0) dX12_leftOf_0 rfl rfl ?_
  refine JS_getR (x := 250) dX12_leftOf_1 flX12_33 BS_248 (Nat.le_of_ble_eq_true rfl) (Nat.le_of_ble_eq_true rfl) (Or.inr ⟨_, ct_12_6⟩) RF_248_6 ?_
  refine JT_iconst (v := 4) dX12_leftOf_4 ic_4 ?_
  refine JT_iload_n (q := 1) dX12_leftOf_5 rfl rfl ?_
  refine JT_iadd dX12_leftOf_6 ?_
  obtain ⟨o1, h⟩ := h
  refine JS_iald dX12_leftOf_7 BS_250 (Nat.le_of_ble_eq_true rfl) (Nat.le_of_ble_eq_true rfl) o1 ?_
  refine JT_aload_n (q := 0) dX12_leftOf_8 rfl rfl ?_
  refine JS_getR (x := 250) dX12_leftOf_9 flX12_33 BS_248 (Nat.le_of_ble_eq_true rfl) (Nat.le_of_ble_eq_true rfl) (Or.inr ⟨_, ct_12_6⟩) RF_248_6 ?_
  refine JT_bipush (v := 37) dX12_leftOf_12 bp_37 ?_
  refine JT_iload_n (q := 1) dX12_leftOf_14 rfl rfl ?_
  refine JT_iadd dX12_leftOf_15 ?_
  obtain ⟨o2, h⟩ := h
  refine JS_iald dX12_leftOf_16 BS_250 (Nat.le_of_ble_eq_true rfl) (Nat.le_of_ble_eq_true rfl) o2 ?_
  refine JT_isub dX12_leftOf_17 ?_
  refine JT_istore_n (lv' := [(2, .int ((gI s 250 (((4 : Int32) + a1)).toNatClampNeg) - (gI s 250 (((37 : Int32) + a1)).toNatClampNeg))), (0, .ref 248), (1, .int a1)]) dX12_leftOf_18 rfl (Nat.le_of_ble_eq_true rfl) rfl ?_
  refine JT_iconst (v := 0) dX12_leftOf_19 ic_0 ?_
  refine JT_istore_n (lv' := [(3, .int (0 : Int32)), (2, .int ((gI s 250 (((4 : Int32) + a1)).toNatClampNeg) - (gI s 250 (((37 : Int32) + a1)).toNatClampNeg))), (0, .ref 248), (1, .int a1)]) dX12_leftOf_20 rfl (Nat.le_of_ble_eq_true rfl) rfl ?_
  exact JT_sub [2, 3, 1, 0] rfl h
set_option maxRecDepth 20000 in
theorem bX12_mark (a1 : Int32) (a2 : Int32) {s : SM} {Q : Int32 → SM → Prop} (h : (((vX12_isBody (pI s 248 0 (0 : Int32)) a1) = 0 → Q (-1 : Int32) (pI s 248 0 (0 : Int32))) ∧ (¬ (vX12_isBody (pI s 248 0 (0 : Int32)) a1) = 0 → ((a2 < (-1 : Int32) → Q (-1 : Int32) (pI s 248 0 (0 : Int32))) ∧ (¬ a2 < (-1 : Int32) → KI MX12_markOf 1 [.ref 248, .int a1, .int a2] (pI s 248 0 (0 : Int32)) (fun x2 s1 => Q x2 s1)))))) : KI MX12_mark 2 [.ref 248, .int a1, .int a2] s Q := by
  show BI MX12_mark 2 0 [(0, .ref 248), (1, .int a1), (2, .int a2)] s Q
  refine JT_aload_n (q := 0) dX12_mark_0 rfl rfl ?_
  refine JT_iconst (v := 0) dX12_mark_1 ic_0 ?_
  refine JS_putI dX12_mark_2 flX12_1 BS_248 (Nat.le_of_ble_eq_true rfl) (Nat.le_of_ble_eq_true rfl) ct_12_0 ?_
  refine JT_aload_n (q := 0) dX12_mark_5 rfl rfl ?_
  refine JT_iload_n (q := 1) dX12_mark_6 rfl rfl ?_
  refine JS_callVI (M' := MX12_isBody) (d' := 1) (As := [.int a1]) (rest := []) (P := (fun zv9 wm9 => (vX12_isBody (pI s 248 0 (0 : Int32)) a1) = zv9 ∧ (pI s 248 0 (0 : Int32)) = wm9)) dX12_mark_7 cvX12_287 okX12_isBody rfl (Nat.le_of_ble_eq_true rfl) BS_248 (Nat.le_of_ble_eq_true rfl) (Nat.le_of_ble_eq_true rfl) hci_12 (Nat.le_of_ble_eq_true rfl) (Nat.le_of_ble_eq_true rfl) (pX12_isBody  (a1)  ⟨rfl, rfl⟩) (fun zv9 wm9 hq9 => ?_)
  obtain ⟨rfl, rfl⟩ := hq9
  refine JT_if_eq (tgt := 27) dX12_mark_10 (by decide) (fun hc4 => ?_) (fun hc4 => ?_)
  · have h := h.1 hc4
    refine JT_iconst (v := -1) dX12_mark_27 ic_m1 ?_
    exact JS_iret dX12_mark_28 rfl rfl h
  · have h := h.2 hc4
    refine JT_iload_n (q := 2) dX12_mark_13 rfl rfl ?_
    refine JT_iconst (v := -1) dX12_mark_14 ic_m1 ?_
    refine JT_icmp_lt (tgt := 27) dX12_mark_15 (by decide) (fun hc3 => ?_) (fun hc3 => ?_)
    · have h := h.1 hc3
      refine JT_iconst (v := -1) dX12_mark_27 ic_m1 ?_
      exact JS_iret dX12_mark_28 rfl rfl h
    · have h := h.2 hc3
      refine JT_aload_n (q := 0) dX12_mark_18 rfl rfl ?_
      refine JT_iload_n (q := 1) dX12_mark_19 rfl rfl ?_
      refine JT_iload_n (q := 2) dX12_mark_20 rfl rfl ?_
      refine JS_callVI (M' := MX12_markOf) (d' := 1) (As := [.int a1, .int a2]) (rest := []) dX12_mark_21 cvX12_315 okX12_markOf rfl (Nat.le_of_ble_eq_true rfl) BS_248 (Nat.le_of_ble_eq_true rfl) (Nat.le_of_ble_eq_true rfl) hci_12 (Nat.le_of_ble_eq_true rfl) (Nat.le_of_ble_eq_true rfl) h (fun x2 s1 h => ?_)
      refine JT_goto (tgt := 28) dX12_mark_24 (by decide) ?_
      exact JS_iret dX12_mark_28 rfl rfl h
set_option maxRecDepth 20000 in
theorem bX12_packs (a1 : Int32) {s : SM} {Q : Int32 → SM → Prop} (h : vp_in ((3 : Int32) * a1) 18 ∧ vp_in (((3 : Int32) * a1) + (1 : Int32)) 18 ∧ vp_in (((3 : Int32) * a1) + (2 : Int32)) 18 ∧ vp_in ((22 : Int32) + (gI s 264 ((((3 : Int32) * a1) + (2 : Int32))).toNatClampNeg)) 787 ∧ (((gI s 264 (((3 : Int32) * a1)).toNatClampNeg) = (gI s 264 ((((3 : Int32) * a1) + (1 : Int32))).toNatClampNeg) → Q (0 : Int32) s) ∧ (¬ (gI s 264 (((3 : Int32) * a1)).toNatClampNeg) = (gI s 264 ((((3 : Int32) * a1) + (1 : Int32))).toNatClampNeg) → (((vX12_isLiving s (gI s 264 (((3 : Int32) * a1)).toNatClampNeg)) = 0 → Q (0 : Int32) s) ∧ (¬ (vX12_isLiving s (gI s 264 (((3 : Int32) * a1)).toNatClampNeg)) = 0 → ((¬ (vX12_isLiving s (gI s 264 ((((3 : Int32) * a1) + (1 : Int32))).toNatClampNeg)) = 0 → vp_in a1 6 ∧ ((¬ ((gI s 266 (a1).toNatClampNeg) - (gI s 266 (a1).toNatClampNeg) / (2 : Int32) * (2 : Int32)) = 0 → vp_in ((13 : Int32) + (gI s 264 (((3 : Int32) * a1)).toNatClampNeg)) 787 ∧ vp_in a1 6 ∧ (((2 : Int32) ≤ (gI s 266 (a1).toNatClampNeg) → vp_in ((13 : Int32) + (gI s 264 ((((3 : Int32) * a1) + (1 : Int32))).toNatClampNeg)) 787 ∧ (((gI s 250 (((13 : Int32) + (gI s 264 (((3 : Int32) * a1)).toNatClampNeg))).toNatClampNeg) < 0 → Q (0 : Int32) s) ∧ (¬ (gI s 250 (((13 : Int32) + (gI s 264 (((3 : Int32) * a1)).toNatClampNeg))).toNatClampNeg) < 0 → (((gI s 250 (((13 : Int32) + (gI s 264 ((((3 : Int32) * a1) + (1 : Int32))).toNatClampNeg))).toNatClampNeg) < 0 → Q (0 : Int32) s) ∧ (¬ (gI s 250 (((13 : Int32) + (gI s 264 ((((3 : Int32) * a1) + (1 : Int32))).toNatClampNeg))).toNatClampNeg) < 0 → (((vX12_isLiving s (gI s 250 (((13 : Int32) + (gI s 264 (((3 : Int32) * a1)).toNatClampNeg))).toNatClampNeg)) = 0 → Q (0 : Int32) s) ∧ (¬ (vX12_isLiving s (gI s 250 (((13 : Int32) + (gI s 264 (((3 : Int32) * a1)).toNatClampNeg))).toNatClampNeg)) = 0 → ((¬ (vX12_isLiving s (gI s 250 (((13 : Int32) + (gI s 264 ((((3 : Int32) * a1) + (1 : Int32))).toNatClampNeg))).toNatClampNeg)) = 0 → vp_in (gI s 250 (((13 : Int32) + (gI s 264 (((3 : Int32) * a1)).toNatClampNeg))).toNatClampNeg) 9 ∧ vp_in (gI s 250 (((13 : Int32) + (gI s 264 (((3 : Int32) * a1)).toNatClampNeg))).toNatClampNeg) 9 ∧ (∀ s11, s11 = (pI s 269 ((gI s 250 (((13 : Int32) + (gI s 264 (((3 : Int32) * a1)).toNatClampNeg))).toNatClampNeg)).toNatClampNeg ((gI s 269 ((gI s 250 (((13 : Int32) + (gI s 264 (((3 : Int32) * a1)).toNatClampNeg))).toNatClampNeg)).toNatClampNeg) - (gI s 250 (((22 : Int32) + (gI s 264 ((((3 : Int32) * a1) + (2 : Int32))).toNatClampNeg))).toNatClampNeg))) → vp_in (gI s 250 (((13 : Int32) + (gI s 264 ((((3 : Int32) * a1) + (1 : Int32))).toNatClampNeg))).toNatClampNeg) 9 ∧ vp_in (gI s 250 (((13 : Int32) + (gI s 264 ((((3 : Int32) * a1) + (1 : Int32))).toNatClampNeg))).toNatClampNeg) 9 ∧ (∀ s14, s14 = (pI s11 269 ((gI s 250 (((13 : Int32) + (gI s 264 ((((3 : Int32) * a1) + (1 : Int32))).toNatClampNeg))).toNatClampNeg)).toNatClampNeg ((gI s11 269 ((gI s 250 (((13 : Int32) + (gI s 264 ((((3 : Int32) * a1) + (1 : Int32))).toNatClampNeg))).toNatClampNeg)).toNatClampNeg) - (gI s 250 (((22 : Int32) + (gI s 264 ((((3 : Int32) * a1) + (2 : Int32))).toNatClampNeg))).toNatClampNeg))) → Q (1 : Int32) s14))) ∧ ((vX12_isLiving s (gI s 250 (((13 : Int32) + (gI s 264 ((((3 : Int32) * a1) + (1 : Int32))).toNatClampNeg))).toNatClampNeg)) = 0 → Q (0 : Int32) s))))))))) ∧ (¬ (2 : Int32) ≤ (gI s 266 (a1).toNatClampNeg) → (((gI s 250 (((13 : Int32) + (gI s 264 (((3 : Int32) * a1)).toNatClampNeg))).toNatClampNeg) < 0 → Q (0 : Int32) s) ∧ (¬ (gI s 250 (((13 : Int32) + (gI s 264 (((3 : Int32) * a1)).toNatClampNeg))).toNatClampNeg) < 0 → (((gI s 264 ((((3 : Int32) * a1) + (1 : Int32))).toNatClampNeg) < 0 → Q (0 : Int32) s) ∧ (¬ (gI s 264 ((((3 : Int32) * a1) + (1 : Int32))).toNatClampNeg) < 0 → (((vX12_isLiving s (gI s 250 (((13 : Int32) + (gI s 264 (((3 : Int32) * a1)).toNatClampNeg))).toNatClampNeg)) = 0 → Q (0 : Int32) s) ∧ (¬ (vX12_isLiving s (gI s 250 (((13 : Int32) + (gI s 264 (((3 : Int32) * a1)).toNatClampNeg))).toNatClampNeg)) = 0 → ((¬ (vX12_isLiving s (gI s 264 ((((3 : Int32) * a1) + (1 : Int32))).toNatClampNeg)) = 0 → vp_in (gI s 250 (((13 : Int32) + (gI s 264 (((3 : Int32) * a1)).toNatClampNeg))).toNatClampNeg) 9 ∧ vp_in (gI s 250 (((13 : Int32) + (gI s 264 (((3 : Int32) * a1)).toNatClampNeg))).toNatClampNeg) 9 ∧ (∀ s23, s23 = (pI s 269 ((gI s 250 (((13 : Int32) + (gI s 264 (((3 : Int32) * a1)).toNatClampNeg))).toNatClampNeg)).toNatClampNeg ((gI s 269 ((gI s 250 (((13 : Int32) + (gI s 264 (((3 : Int32) * a1)).toNatClampNeg))).toNatClampNeg)).toNatClampNeg) - (gI s 250 (((22 : Int32) + (gI s 264 ((((3 : Int32) * a1) + (2 : Int32))).toNatClampNeg))).toNatClampNeg))) → vp_in (gI s 264 ((((3 : Int32) * a1) + (1 : Int32))).toNatClampNeg) 9 ∧ vp_in (gI s 264 ((((3 : Int32) * a1) + (1 : Int32))).toNatClampNeg) 9 ∧ (∀ s26, s26 = (pI s23 269 ((gI s 264 ((((3 : Int32) * a1) + (1 : Int32))).toNatClampNeg)).toNatClampNeg ((gI s23 269 ((gI s 264 ((((3 : Int32) * a1) + (1 : Int32))).toNatClampNeg)).toNatClampNeg) - (gI s 250 (((22 : Int32) + (gI s 264 ((((3 : Int32) * a1) + (2 : Int32))).toNatClampNeg))).toNatClampNeg))) → Q (1 : Int32) s26))) ∧ ((vX12_isLiving s (gI s 264 ((((3 : Int32) * a1) + (1 : Int32))).toNatClampNeg)) = 0 → Q (0 : Int32) s))))))))))) ∧ (((gI s 266 (a1).toNatClampNeg) - (gI s 266 (a1).toNatClampNeg) / (2 : Int32) * (2 : Int32)) = 0 → vp_in a1 6 ∧ (((2 : Int32) ≤ (gI s 266 (a1).toNatClampNeg) → vp_in ((13 : Int32) + (gI s 264 ((((3 : Int32) * a1) + (1 : Int32))).toNatClampNeg)) 787 ∧ (((gI s 264 (((3 : Int32) * a1)).toNatClampNeg) < 0 → Q (0 : Int32) s) ∧ (¬ (gI s 264 (((3 : Int32) * a1)).toNatClampNeg) < 0 → (((gI s 250 (((13 : Int32) + (gI s 264 ((((3 : Int32) * a1) + (1 : Int32))).toNatClampNeg))).toNatClampNeg) < 0 → Q (0 : Int32) s) ∧ (¬ (gI s 250 (((13 : Int32) + (gI s 264 ((((3 : Int32) * a1) + (1 : Int32))).toNatClampNeg))).toNatClampNeg) < 0 → (((vX12_isLiving s (gI s 264 (((3 : Int32) * a1)).toNatClampNeg)) = 0 → Q (0 : Int32) s) ∧ (¬ (vX12_isLiving s (gI s 264 (((3 : Int32) * a1)).toNatClampNeg)) = 0 → ((¬ (vX12_isLiving s (gI s 250 (((13 : Int32) + (gI s 264 ((((3 : Int32) * a1) + (1 : Int32))).toNatClampNeg))).toNatClampNeg)) = 0 → vp_in (gI s 264 (((3 : Int32) * a1)).toNatClampNeg) 9 ∧ vp_in (gI s 264 (((3 : Int32) * a1)).toNatClampNeg) 9 ∧ (∀ s38, s38 = (pI s 269 ((gI s 264 (((3 : Int32) * a1)).toNatClampNeg)).toNatClampNeg ((gI s 269 ((gI s 264 (((3 : Int32) * a1)).toNatClampNeg)).toNatClampNeg) - (gI s 250 (((22 : Int32) + (gI s 264 ((((3 : Int32) * a1) + (2 : Int32))).toNatClampNeg))).toNatClampNeg))) → vp_in (gI s 250 (((13 : Int32) + (gI s 264 ((((3 : Int32) * a1) + (1 : Int32))).toNatClampNeg))).toNatClampNeg) 9 ∧ vp_in (gI s 250 (((13 : Int32) + (gI s 264 ((((3 : Int32) * a1) + (1 : Int32))).toNatClampNeg))).toNatClampNeg) 9 ∧ (∀ s41, s41 = (pI s38 269 ((gI s 250 (((13 : Int32) + (gI s 264 ((((3 : Int32) * a1) + (1 : Int32))).toNatClampNeg))).toNatClampNeg)).toNatClampNeg ((gI s38 269 ((gI s 250 (((13 : Int32) + (gI s 264 ((((3 : Int32) * a1) + (1 : Int32))).toNatClampNeg))).toNatClampNeg)).toNatClampNeg) - (gI s 250 (((22 : Int32) + (gI s 264 ((((3 : Int32) * a1) + (2 : Int32))).toNatClampNeg))).toNatClampNeg))) → Q (1 : Int32) s41))) ∧ ((vX12_isLiving s (gI s 250 (((13 : Int32) + (gI s 264 ((((3 : Int32) * a1) + (1 : Int32))).toNatClampNeg))).toNatClampNeg)) = 0 → Q (0 : Int32) s))))))))) ∧ (¬ (2 : Int32) ≤ (gI s 266 (a1).toNatClampNeg) → (((gI s 264 (((3 : Int32) * a1)).toNatClampNeg) < 0 → Q (0 : Int32) s) ∧ (¬ (gI s 264 (((3 : Int32) * a1)).toNatClampNeg) < 0 → (((gI s 264 ((((3 : Int32) * a1) + (1 : Int32))).toNatClampNeg) < 0 → Q (0 : Int32) s) ∧ (¬ (gI s 264 ((((3 : Int32) * a1) + (1 : Int32))).toNatClampNeg) < 0 → (((vX12_isLiving s (gI s 264 (((3 : Int32) * a1)).toNatClampNeg)) = 0 → Q (0 : Int32) s) ∧ (¬ (vX12_isLiving s (gI s 264 (((3 : Int32) * a1)).toNatClampNeg)) = 0 → ((¬ (vX12_isLiving s (gI s 264 ((((3 : Int32) * a1) + (1 : Int32))).toNatClampNeg)) = 0 → vp_in (gI s 264 (((3 : Int32) * a1)).toNatClampNeg) 9 ∧ vp_in (gI s 264 (((3 : Int32) * a1)).toNatClampNeg) 9 ∧ (∀ s50, s50 = (pI s 269 ((gI s 264 (((3 : Int32) * a1)).toNatClampNeg)).toNatClampNeg ((gI s 269 ((gI s 264 (((3 : Int32) * a1)).toNatClampNeg)).toNatClampNeg) - (gI s 250 (((22 : Int32) + (gI s 264 ((((3 : Int32) * a1) + (2 : Int32))).toNatClampNeg))).toNatClampNeg))) → vp_in (gI s 264 ((((3 : Int32) * a1) + (1 : Int32))).toNatClampNeg) 9 ∧ vp_in (gI s 264 ((((3 : Int32) * a1) + (1 : Int32))).toNatClampNeg) 9 ∧ (∀ s53, s53 = (pI s50 269 ((gI s 264 ((((3 : Int32) * a1) + (1 : Int32))).toNatClampNeg)).toNatClampNeg ((gI s50 269 ((gI s 264 ((((3 : Int32) * a1) + (1 : Int32))).toNatClampNeg)).toNatClampNeg) - (gI s 250 (((22 : Int32) + (gI s 264 ((((3 : Int32) * a1) + (2 : Int32))).toNatClampNeg))).toNatClampNeg))) → Q (1 : Int32) s53))) ∧ ((vX12_isLiving s (gI s 264 ((((3 : Int32) * a1) + (1 : Int32))).toNatClampNeg)) = 0 → Q (0 : Int32) s))))))))))))) ∧ ((vX12_isLiving s (gI s 264 ((((3 : Int32) * a1) + (1 : Int32))).toNatClampNeg)) = 0 → Q (0 : Int32) s))))))) : KI MX12_packs 2 [.ref 248, .int a1] s Q := by
  show BI MX12_packs 2 0 [(0, .ref 248), (1, .int a1)] s Q
  refine JT_aload_n (q := 0) dX12_packs_0 rfl rfl ?_
  refine JS_getR (x := 264) dX12_packs_1 flX12_77 BS_248 (Nat.le_of_ble_eq_true rfl) (Nat.le_of_ble_eq_true rfl) (Or.inr ⟨_, ct_12_39⟩) RF_248_39 ?_
  refine JT_iconst (v := 3) dX12_packs_4 ic_3 ?_
  refine JT_iload_n (q := 1) dX12_packs_5 rfl rfl ?_
  refine JT_imul dX12_packs_6 ?_
  obtain ⟨o1, h⟩ := h
  refine JS_iald dX12_packs_7 BS_264 (Nat.le_of_ble_eq_true rfl) (Nat.le_of_ble_eq_true rfl) o1 ?_
  refine JT_istore_n (lv' := [(2, .int (gI s 264 (((3 : Int32) * a1)).toNatClampNeg)), (0, .ref 248), (1, .int a1)]) dX12_packs_8 rfl (Nat.le_of_ble_eq_true rfl) rfl ?_
  refine JT_aload_n (q := 1) dX12_packs_9 rfl rfl ?_
  refine JS_getR (x := 264) dX12_packs_10 flX12_77 BS_248 (Nat.le_of_ble_eq_true rfl) (Nat.le_of_ble_eq_true rfl) (Or.inr ⟨_, ct_12_39⟩) RF_248_39 ?_
  refine JT_iconst (v := 3) dX12_packs_13 ic_3 ?_
  refine JT_iload_n (q := 2) dX12_packs_14 rfl rfl ?_
  refine JT_imul dX12_packs_15 ?_
  refine JT_iconst (v := 1) dX12_packs_16 ic_1 ?_
  refine JT_iadd dX12_packs_17 ?_
  obtain ⟨o2, h⟩ := h
  refine JS_iald dX12_packs_18 BS_264 (Nat.le_of_ble_eq_true rfl) (Nat.le_of_ble_eq_true rfl) o2 ?_
  refine JT_istore_n (lv' := [(3, .int (gI s 264 ((((3 : Int32) * a1) + (1 : Int32))).toNatClampNeg)), (2, .int (gI s 264 (((3 : Int32) * a1)).toNatClampNeg)), (0, .ref 248), (1, .int a1)]) dX12_packs_19 rfl (Nat.le_of_ble_eq_true rfl) rfl ?_
  refine JT_aload_n (q := 2) dX12_packs_20 rfl rfl ?_
  refine JS_getR (x := 250) dX12_packs_21 flX12_33 BS_248 (Nat.le_of_ble_eq_true rfl) (Nat.le_of_ble_eq_true rfl) (Or.inr ⟨_, ct_12_6⟩) RF_248_6 ?_
  refine JT_bipush (v := 22) dX12_packs_24 bp_22 ?_
  refine JT_aload_n (q := 2) dX12_packs_26 rfl rfl ?_
  refine JS_getR (x := 264) dX12_packs_27 flX12_77 BS_248 (Nat.le_of_ble_eq_true rfl) (Nat.le_of_ble_eq_true rfl) (Or.inr ⟨_, ct_12_39⟩) RF_248_39 ?_
  refine JT_iconst (v := 3) dX12_packs_30 ic_3 ?_
  refine JT_iload_n (q := 3) dX12_packs_31 rfl rfl ?_
  refine JT_imul dX12_packs_32 ?_
  refine JT_iconst (v := 2) dX12_packs_33 ic_2 ?_
  refine JT_iadd dX12_packs_34 ?_
  obtain ⟨o3, h⟩ := h
  refine JS_iald dX12_packs_35 BS_264 (Nat.le_of_ble_eq_true rfl) (Nat.le_of_ble_eq_true rfl) o3 ?_
  refine JT_iadd dX12_packs_36 ?_
  obtain ⟨o4, h⟩ := h
  refine JS_iald dX12_packs_37 BS_250 (Nat.le_of_ble_eq_true rfl) (Nat.le_of_ble_eq_true rfl) o4 ?_
  refine JT_istore (lv' := [(4, .int (gI s 250 (((22 : Int32) + (gI s 264 ((((3 : Int32) * a1) + (2 : Int32))).toNatClampNeg))).toNatClampNeg)), (3, .int (gI s 264 ((((3 : Int32) * a1) + (1 : Int32))).toNatClampNeg)), (2, .int (gI s 264 (((3 : Int32) * a1)).toNatClampNeg)), (0, .ref 248), (1, .int a1)]) dX12_packs_38 (Nat.le_of_ble_eq_true rfl) rfl ?_
  refine JT_iload_n (q := 2) dX12_packs_40 rfl rfl ?_
  refine JT_iload_n (q := 1) dX12_packs_41 rfl rfl ?_
  refine JT_icmp_eq (tgt := 61) dX12_packs_42 (by decide) (fun hc66 => ?_) (fun hc66 => ?_)
  · have h := h.1 hc66
    refine JT_iconst (v := 0) dX12_packs_61 ic_0 ?_
    exact JS_iret dX12_packs_62 rfl (n01 (Or.inl rfl)) h
  · have h := h.2 hc66
    refine JT_aload_n (q := 3) dX12_packs_45 rfl rfl ?_
    refine JT_iload_n (q := 2) dX12_packs_46 rfl rfl ?_
    refine JS_callVI (M' := MX12_isLiving) (d' := 1) (As := [.int (gI s 264 (((3 : Int32) * a1)).toNatClampNeg)]) (rest := []) (P := (fun zv9 wm9 => (vX12_isLiving s (gI s 264 (((3 : Int32) * a1)).toNatClampNeg)) = zv9 ∧ s = wm9)) dX12_packs_47 cvX12_294 okX12_isLiving rfl (Nat.le_of_ble_eq_true rfl) BS_248 (Nat.le_of_ble_eq_true rfl) (Nat.le_of_ble_eq_true rfl) hci_12 (Nat.le_of_ble_eq_true rfl) (Nat.le_of_ble_eq_true rfl) (pX12_isLiving  ((gI s 264 (((3 : Int32) * a1)).toNatClampNeg))  ⟨rfl, rfl⟩) (fun zv9 wm9 hq9 => ?_)
    obtain ⟨rfl, rfl⟩ := hq9
    refine JT_if_eq (tgt := 61) dX12_packs_50 (by decide) (fun hc64 => ?_) (fun hc64 => ?_)
    · have h := h.1 hc64
      refine JT_iconst (v := 0) dX12_packs_61 ic_0 ?_
      exact JS_iret dX12_packs_62 rfl (n01 (Or.inl rfl)) h
    · have h := h.2 hc64
      refine JT_aload_n (q := 3) dX12_packs_53 rfl rfl ?_
      refine JT_iload_n (q := 1) dX12_packs_54 rfl rfl ?_
      refine JS_callVI (M' := MX12_isLiving) (d' := 1) (As := [.int (gI s 264 ((((3 : Int32) * a1) + (1 : Int32))).toNatClampNeg)]) (rest := []) (P := (fun zv9 wm9 => (vX12_isLiving s (gI s 264 ((((3 : Int32) * a1) + (1 : Int32))).toNatClampNeg)) = zv9 ∧ s = wm9)) dX12_packs_55 cvX12_294 okX12_isLiving rfl (Nat.le_of_ble_eq_true rfl) BS_248 (Nat.le_of_ble_eq_true rfl) (Nat.le_of_ble_eq_true rfl) hci_12 (Nat.le_of_ble_eq_true rfl) (Nat.le_of_ble_eq_true rfl) (pX12_isLiving  ((gI s 264 ((((3 : Int32) * a1) + (1 : Int32))).toNatClampNeg))  ⟨rfl, rfl⟩) (fun zv9 wm9 hq9 => ?_)
      obtain ⟨rfl, rfl⟩ := hq9
      refine JT_if_ne (tgt := 63) dX12_packs_58 (by decide) (fun hc62 => ?_) (fun hc62 => ?_)
      · have h := h.1 hc62
        refine JT_aload_n (q := 3) dX12_packs_63 rfl rfl ?_
        refine JS_getR (x := 266) dX12_packs_64 flX12_83 BS_248 (Nat.le_of_ble_eq_true rfl) (Nat.le_of_ble_eq_true rfl) (Or.inr ⟨_, ct_12_41⟩) RF_248_41 ?_
        refine JT_iload_n (q := 4) dX12_packs_67 rfl rfl ?_
        obtain ⟨o5, h⟩ := h
        refine JS_iald dX12_packs_68 BS_266 (Nat.le_of_ble_eq_true rfl) (Nat.le_of_ble_eq_true rfl) o5 ?_
        refine JT_iconst (v := 2) dX12_packs_69 ic_2 ?_
        refine JT_irem dX12_packs_70 (by decide) ?_
        refine JT_if_ne (tgt := 78) dX12_packs_71 (by decide) (fun hc61 => ?_) (fun hc61 => ?_)
        · have h := h.1 hc61
          refine JT_aload_n (q := 3) dX12_packs_78 rfl rfl ?_
          refine JS_getR (x := 250) dX12_packs_79 flX12_33 BS_248 (Nat.le_of_ble_eq_true rfl) (Nat.le_of_ble_eq_true rfl) (Or.inr ⟨_, ct_12_6⟩) RF_248_6 ?_
          refine JT_bipush (v := 13) dX12_packs_82 bp_13 ?_
          refine JT_iload_n (q := 2) dX12_packs_84 rfl rfl ?_
          refine JT_iadd dX12_packs_85 ?_
          obtain ⟨o6, h⟩ := h
          refine JS_iald dX12_packs_86 BS_250 (Nat.le_of_ble_eq_true rfl) (Nat.le_of_ble_eq_true rfl) o6 ?_
          refine JT_istore (lv' := [(5, .int (gI s 250 (((13 : Int32) + (gI s 264 (((3 : Int32) * a1)).toNatClampNeg))).toNatClampNeg)), (4, .int (gI s 250 (((22 : Int32) + (gI s 264 ((((3 : Int32) * a1) + (2 : Int32))).toNatClampNeg))).toNatClampNeg)), (3, .int (gI s 264 ((((3 : Int32) * a1) + (1 : Int32))).toNatClampNeg)), (2, .int (gI s 264 (((3 : Int32) * a1)).toNatClampNeg)), (0, .ref 248), (1, .int a1)]) dX12_packs_87 (Nat.le_of_ble_eq_true rfl) rfl ?_
          refine JT_aload_n (q := 4) dX12_packs_89 rfl rfl ?_
          refine JS_getR (x := 266) dX12_packs_90 flX12_83 BS_248 (Nat.le_of_ble_eq_true rfl) (Nat.le_of_ble_eq_true rfl) (Or.inr ⟨_, ct_12_41⟩) RF_248_41 ?_
          refine JT_iload_n (q := 5) dX12_packs_93 rfl rfl ?_
          obtain ⟨o7, h⟩ := h
          refine JS_iald dX12_packs_94 BS_266 (Nat.le_of_ble_eq_true rfl) (Nat.le_of_ble_eq_true rfl) o7 ?_
          refine JT_iconst (v := 2) dX12_packs_95 ic_2 ?_
          refine JT_icmp_ge (tgt := 103) dX12_packs_96 (by decide) (fun hc33 => ?_) (fun hc33 => ?_)
          · have h := h.1 hc33
            refine JT_aload_n (q := 4) dX12_packs_103 rfl rfl ?_
            refine JS_getR (x := 250) dX12_packs_104 flX12_33 BS_248 (Nat.le_of_ble_eq_true rfl) (Nat.le_of_ble_eq_true rfl) (Or.inr ⟨_, ct_12_6⟩) RF_248_6 ?_
            refine JT_bipush (v := 13) dX12_packs_107 bp_13 ?_
            refine JT_iload_n (q := 2) dX12_packs_109 rfl rfl ?_
            refine JT_iadd dX12_packs_110 ?_
            obtain ⟨o8, h⟩ := h
            refine JS_iald dX12_packs_111 BS_250 (Nat.le_of_ble_eq_true rfl) (Nat.le_of_ble_eq_true rfl) o8 ?_
            refine JT_istore (lv' := [(6, .int (gI s 250 (((13 : Int32) + (gI s 264 ((((3 : Int32) * a1) + (1 : Int32))).toNatClampNeg))).toNatClampNeg)), (5, .int (gI s 250 (((13 : Int32) + (gI s 264 (((3 : Int32) * a1)).toNatClampNeg))).toNatClampNeg)), (4, .int (gI s 250 (((22 : Int32) + (gI s 264 ((((3 : Int32) * a1) + (2 : Int32))).toNatClampNeg))).toNatClampNeg)), (3, .int (gI s 264 ((((3 : Int32) * a1) + (1 : Int32))).toNatClampNeg)), (2, .int (gI s 264 (((3 : Int32) * a1)).toNatClampNeg)), (0, .ref 248), (1, .int a1)]) dX12_packs_112 (Nat.le_of_ble_eq_true rfl) rfl ?_
            refine JT_iload (q := 1) dX12_packs_114 rfl ?_
            refine JT_if_lt (tgt := 142) dX12_packs_116 (by decide) (fun hc20 => ?_) (fun hc20 => ?_)
            · have h := h.1 hc20
              refine JT_iconst (v := 0) dX12_packs_142 ic_0 ?_
              exact JS_iret dX12_packs_143 rfl (n01 (Or.inl rfl)) h
            · have h := h.2 hc20
              refine JT_iload (q := 0) dX12_packs_119 rfl ?_
              refine JT_if_lt (tgt := 142) dX12_packs_121 (by decide) (fun hc19 => ?_) (fun hc19 => ?_)
              · have h := h.1 hc19
                refine JT_iconst (v := 0) dX12_packs_142 ic_0 ?_
                exact JS_iret dX12_packs_143 rfl (n01 (Or.inl rfl)) h
              · have h := h.2 hc19
                refine JT_aload_n (q := 5) dX12_packs_124 rfl rfl ?_
                refine JT_iload (q := 1) dX12_packs_125 rfl ?_
                refine JS_callVI (M' := MX12_isLiving) (d' := 1) (As := [.int (gI s 250 (((13 : Int32) + (gI s 264 (((3 : Int32) * a1)).toNatClampNeg))).toNatClampNeg)]) (rest := []) (P := (fun zv9 wm9 => (vX12_isLiving s (gI s 250 (((13 : Int32) + (gI s 264 (((3 : Int32) * a1)).toNatClampNeg))).toNatClampNeg)) = zv9 ∧ s = wm9)) dX12_packs_127 cvX12_294 okX12_isLiving rfl (Nat.le_of_ble_eq_true rfl) BS_248 (Nat.le_of_ble_eq_true rfl) (Nat.le_of_ble_eq_true rfl) hci_12 (Nat.le_of_ble_eq_true rfl) (Nat.le_of_ble_eq_true rfl) (pX12_isLiving  ((gI s 250 (((13 : Int32) + (gI s 264 (((3 : Int32) * a1)).toNatClampNeg))).toNatClampNeg))  ⟨rfl, rfl⟩) (fun zv9 wm9 hq9 => ?_)
                obtain ⟨rfl, rfl⟩ := hq9
                refine JT_if_eq (tgt := 142) dX12_packs_130 (by decide) (fun hc17 => ?_) (fun hc17 => ?_)
                · have h := h.1 hc17
                  refine JT_iconst (v := 0) dX12_packs_142 ic_0 ?_
                  exact JS_iret dX12_packs_143 rfl (n01 (Or.inl rfl)) h
                · have h := h.2 hc17
                  refine JT_aload_n (q := 5) dX12_packs_133 rfl rfl ?_
                  refine JT_iload (q := 0) dX12_packs_134 rfl ?_
                  refine JS_callVI (M' := MX12_isLiving) (d' := 1) (As := [.int (gI s 250 (((13 : Int32) + (gI s 264 ((((3 : Int32) * a1) + (1 : Int32))).toNatClampNeg))).toNatClampNeg)]) (rest := []) (P := (fun zv9 wm9 => (vX12_isLiving s (gI s 250 (((13 : Int32) + (gI s 264 ((((3 : Int32) * a1) + (1 : Int32))).toNatClampNeg))).toNatClampNeg)) = zv9 ∧ s = wm9)) dX12_packs_136 cvX12_294 okX12_isLiving rfl (Nat.le_of_ble_eq_true rfl) BS_248 (Nat.le_of_ble_eq_true rfl) (Nat.le_of_ble_eq_true rfl) hci_12 (Nat.le_of_ble_eq_true rfl) (Nat.le_of_ble_eq_true rfl) (pX12_isLiving  ((gI s 250 (((13 : Int32) + (gI s 264 ((((3 : Int32) * a1) + (1 : Int32))).toNatClampNeg))).toNatClampNeg))  ⟨rfl, rfl⟩) (fun zv9 wm9 hq9 => ?_)
                  obtain ⟨rfl, rfl⟩ := hq9
                  refine JT_if_ne (tgt := 144) dX12_packs_139 (by decide) (fun hc15 => ?_) (fun hc15 => ?_)
                  · have h := h.1 hc15
                    refine JT_aload_n (q := 5) dX12_packs_144 rfl rfl ?_
                    refine JS_getR (x := 269) dX12_packs_145 flX12_92 BS_248 (Nat.le_of_ble_eq_true rfl) (Nat.le_of_ble_eq_true rfl) (Or.inr ⟨_, ct_12_44⟩) RF_248_44 ?_
                    refine JT_iload (q := 1) dX12_packs_148 rfl ?_
                    refine JT_dup2 dX12_packs_150 rfl rfl ?_
                    obtain ⟨o9, h⟩ := h
                    refine JS_iald dX12_packs_151 BS_269 (Nat.le_of_ble_eq_true rfl) (Nat.le_of_ble_eq_true rfl) o9 ?_
                    refine JT_iload (q := 2) dX12_packs_152 rfl ?_
                    refine JT_isub dX12_packs_154 ?_
                    obtain ⟨o10, h⟩ := h
                    refine JS_iast dX12_packs_155 BS_269 (Nat.le_of_ble_eq_true rfl) (Nat.le_of_ble_eq_true rfl) o10 ?_
                    obtain ⟨s11, hs11⟩ : ∃ z, z = (pI s 269 ((gI s 250 (((13 : Int32) + (gI s 264 (((3 : Int32) * a1)).toNatClampNeg))).toNatClampNeg)).toNatClampNeg ((gI s 269 ((gI s 250 (((13 : Int32) + (gI s 264 (((3 : Int32) * a1)).toNatClampNeg))).toNatClampNeg)).toNatClampNeg) - (gI s 250 (((22 : Int32) + (gI s 264 ((((3 : Int32) * a1) + (2 : Int32))).toNatClampNeg))).toNatClampNeg))) := ⟨_, rfl⟩
                    replace h := h s11 hs11
                    rw [← hs11]
                    refine JT_aload_n (q := 5) dX12_packs_156 rfl rfl ?_
                    refine JS_getR (x := 269) dX12_packs_157 flX12_92 BS_248 (Nat.le_of_ble_eq_true rfl) (Nat.le_of_ble_eq_true rfl) (Or.inr ⟨_, ct_12_44⟩) RF_248_44 ?_
                    refine JT_iload (q := 0) dX12_packs_160 rfl ?_
                    refine JT_dup2 dX12_packs_162 rfl rfl ?_
                    obtain ⟨o12, h⟩ := h
                    refine JS_iald dX12_packs_163 BS_269 (Nat.le_of_ble_eq_true rfl) (Nat.le_of_ble_eq_true rfl) o12 ?_
                    refine JT_iload (q := 2) dX12_packs_164 rfl ?_
                    refine JT_isub dX12_packs_166 ?_
                    obtain ⟨o13, h⟩ := h
                    refine JS_iast dX12_packs_167 BS_269 (Nat.le_of_ble_eq_true rfl) (Nat.le_of_ble_eq_true rfl) o13 ?_
                    obtain ⟨s14, hs14⟩ : ∃ z, z = (pI s11 269 ((gI s 250 (((13 : Int32) + (gI s 264 ((((3 : Int32) * a1) + (1 : Int32))).toNatClampNeg))).toNatClampNeg)).toNatClampNeg ((gI s11 269 ((gI s 250 (((13 : Int32) + (gI s 264 ((((3 : Int32) * a1) + (1 : Int32))).toNatClampNeg))).toNatClampNeg)).toNatClampNeg) - (gI s 250 (((22 : Int32) + (gI s 264 ((((3 : Int32) * a1) + (2 : Int32))).toNatClampNeg))).toNatClampNeg))) := ⟨_, rfl⟩
                    replace h := h s14 hs14
                    rw [← hs14]
                    refine JT_iconst (v := 1) dX12_packs_168 ic_1 ?_
                    exact JS_iret dX12_packs_169 rfl (n01 (Or.inr rfl)) h
                  · have h := h.2 hc15
                    refine JT_iconst (v := 0) dX12_packs_142 ic_0 ?_
                    exact JS_iret dX12_packs_143 rfl (n01 (Or.inl rfl)) h
          · have h := h.2 hc33
            refine JT_iload_n (q := 2) dX12_packs_99 rfl rfl ?_
            refine JT_goto (tgt := 112) dX12_packs_100 (by decide) ?_
            refine JT_istore (lv' := [(6, .int (gI s 264 ((((3 : Int32) * a1) + (1 : Int32))).toNatClampNeg)), (5, .int (gI s 250 (((13 : Int32) + (gI s 264 (((3 : Int32) * a1)).toNatClampNeg))).toNatClampNeg)), (4, .int (gI s 250 (((22 : Int32) + (gI s 264 ((((3 : Int32) * a1) + (2 : Int32))).toNatClampNeg))).toNatClampNeg)), (3, .int (gI s 264 ((((3 : Int32) * a1) + (1 : Int32))).toNatClampNeg)), (2, .int (gI s 264 (((3 : Int32) * a1)).toNatClampNeg)), (0, .ref 248), (1, .int a1)]) dX12_packs_112 (Nat.le_of_ble_eq_true rfl) rfl ?_
            refine JT_iload (q := 1) dX12_packs_114 rfl ?_
            refine JT_if_lt (tgt := 142) dX12_packs_116 (by decide) (fun hc32 => ?_) (fun hc32 => ?_)
            · have h := h.1 hc32
              refine JT_iconst (v := 0) dX12_packs_142 ic_0 ?_
              exact JS_iret dX12_packs_143 rfl (n01 (Or.inl rfl)) h
            · have h := h.2 hc32
              refine JT_iload (q := 0) dX12_packs_119 rfl ?_
              refine JT_if_lt (tgt := 142) dX12_packs_121 (by decide) (fun hc31 => ?_) (fun hc31 => ?_)
              · have h := h.1 hc31
                refine JT_iconst (v := 0) dX12_packs_142 ic_0 ?_
                exact JS_iret dX12_packs_143 rfl (n01 (Or.inl rfl)) h
              · have h := h.2 hc31
                refine JT_aload_n (q := 5) dX12_packs_124 rfl rfl ?_
                refine JT_iload (q := 1) dX12_packs_125 rfl ?_
                refine JS_callVI (M' := MX12_isLiving) (d' := 1) (As := [.int (gI s 250 (((13 : Int32) + (gI s 264 (((3 : Int32) * a1)).toNatClampNeg))).toNatClampNeg)]) (rest := []) (P := (fun zv9 wm9 => (vX12_isLiving s (gI s 250 (((13 : Int32) + (gI s 264 (((3 : Int32) * a1)).toNatClampNeg))).toNatClampNeg)) = zv9 ∧ s = wm9)) dX12_packs_127 cvX12_294 okX12_isLiving rfl (Nat.le_of_ble_eq_true rfl) BS_248 (Nat.le_of_ble_eq_true rfl) (Nat.le_of_ble_eq_true rfl) hci_12 (Nat.le_of_ble_eq_true rfl) (Nat.le_of_ble_eq_true rfl) (pX12_isLiving  ((gI s 250 (((13 : Int32) + (gI s 264 (((3 : Int32) * a1)).toNatClampNeg))).toNatClampNeg))  ⟨rfl, rfl⟩) (fun zv9 wm9 hq9 => ?_)
                obtain ⟨rfl, rfl⟩ := hq9
                refine JT_if_eq (tgt := 142) dX12_packs_130 (by decide) (fun hc29 => ?_) (fun hc29 => ?_)
                · have h := h.1 hc29
                  refine JT_iconst (v := 0) dX12_packs_142 ic_0 ?_
                  exact JS_iret dX12_packs_143 rfl (n01 (Or.inl rfl)) h
                · have h := h.2 hc29
                  refine JT_aload_n (q := 5) dX12_packs_133 rfl rfl ?_
                  refine JT_iload (q := 0) dX12_packs_134 rfl ?_
                  refine JS_callVI (M' := MX12_isLiving) (d' := 1) (As := [.int (gI s 264 ((((3 : Int32) * a1) + (1 : Int32))).toNatClampNeg)]) (rest := []) (P := (fun zv9 wm9 => (vX12_isLiving s (gI s 264 ((((3 : Int32) * a1) + (1 : Int32))).toNatClampNeg)) = zv9 ∧ s = wm9)) dX12_packs_136 cvX12_294 okX12_isLiving rfl (Nat.le_of_ble_eq_true rfl) BS_248 (Nat.le_of_ble_eq_true rfl) (Nat.le_of_ble_eq_true rfl) hci_12 (Nat.le_of_ble_eq_true rfl) (Nat.le_of_ble_eq_true rfl) (pX12_isLiving  ((gI s 264 ((((3 : Int32) * a1) + (1 : Int32))).toNatClampNeg))  ⟨rfl, rfl⟩) (fun zv9 wm9 hq9 => ?_)
                  obtain ⟨rfl, rfl⟩ := hq9
                  refine JT_if_ne (tgt := 144) dX12_packs_139 (by decide) (fun hc27 => ?_) (fun hc27 => ?_)
                  · have h := h.1 hc27
                    refine JT_aload_n (q := 5) dX12_packs_144 rfl rfl ?_
                    refine JS_getR (x := 269) dX12_packs_145 flX12_92 BS_248 (Nat.le_of_ble_eq_true rfl) (Nat.le_of_ble_eq_true rfl) (Or.inr ⟨_, ct_12_44⟩) RF_248_44 ?_
                    refine JT_iload (q := 1) dX12_packs_148 rfl ?_
                    refine JT_dup2 dX12_packs_150 rfl rfl ?_
                    obtain ⟨o21, h⟩ := h
                    refine JS_iald dX12_packs_151 BS_269 (Nat.le_of_ble_eq_true rfl) (Nat.le_of_ble_eq_true rfl) o21 ?_
                    refine JT_iload (q := 2) dX12_packs_152 rfl ?_
                    refine JT_isub dX12_packs_154 ?_
                    obtain ⟨o22, h⟩ := h
                    refine JS_iast dX12_packs_155 BS_269 (Nat.le_of_ble_eq_true rfl) (Nat.le_of_ble_eq_true rfl) o22 ?_
                    obtain ⟨s23, hs23⟩ : ∃ z, z = (pI s 269 ((gI s 250 (((13 : Int32) + (gI s 264 (((3 : Int32) * a1)).toNatClampNeg))).toNatClampNeg)).toNatClampNeg ((gI s 269 ((gI s 250 (((13 : Int32) + (gI s 264 (((3 : Int32) * a1)).toNatClampNeg))).toNatClampNeg)).toNatClampNeg) - (gI s 250 (((22 : Int32) + (gI s 264 ((((3 : Int32) * a1) + (2 : Int32))).toNatClampNeg))).toNatClampNeg))) := ⟨_, rfl⟩
                    replace h := h s23 hs23
                    rw [← hs23]
                    refine JT_aload_n (q := 5) dX12_packs_156 rfl rfl ?_
                    refine JS_getR (x := 269) dX12_packs_157 flX12_92 BS_248 (Nat.le_of_ble_eq_true rfl) (Nat.le_of_ble_eq_true rfl) (Or.inr ⟨_, ct_12_44⟩) RF_248_44 ?_
                    refine JT_iload (q := 0) dX12_packs_160 rfl ?_
                    refine JT_dup2 dX12_packs_162 rfl rfl ?_
                    obtain ⟨o24, h⟩ := h
                    refine JS_iald dX12_packs_163 BS_269 (Nat.le_of_ble_eq_true rfl) (Nat.le_of_ble_eq_true rfl) o24 ?_
                    refine JT_iload (q := 2) dX12_packs_164 rfl ?_
                    refine JT_isub dX12_packs_166 ?_
                    obtain ⟨o25, h⟩ := h
                    refine JS_iast dX12_packs_167 BS_269 (Nat.le_of_ble_eq_true rfl) (Nat.le_of_ble_eq_true rfl) o25 ?_
                    obtain ⟨s26, hs26⟩ : ∃ z, z = (pI s23 269 ((gI s 264 ((((3 : Int32) * a1) + (1 : Int32))).toNatClampNeg)).toNatClampNeg ((gI s23 269 ((gI s 264 ((((3 : Int32) * a1) + (1 : Int32))).toNatClampNeg)).toNatClampNeg) - (gI s 250 (((22 : Int32) + (gI s 264 ((((3 : Int32) * a1) + (2 : Int32))).toNatClampNeg))).toNatClampNeg))) := ⟨_, rfl⟩
                    replace h := h s26 hs26
                    rw [← hs26]
                    refine JT_iconst (v := 1) dX12_packs_168 ic_1 ?_
                    exact JS_iret dX12_packs_169 rfl (n01 (Or.inr rfl)) h
                  · have h := h.2 hc27
                    refine JT_iconst (v := 0) dX12_packs_142 ic_0 ?_
                    exact JS_iret dX12_packs_143 rfl (n01 (Or.inl rfl)) h
        · have h := h.2 hc61
          refine JT_iload_n (q := 2) dX12_packs_74 rfl rfl ?_
          refine JT_goto (tgt := 87) dX12_packs_75 (by decide) ?_
          refine JT_istore (lv' := [(5, .int (gI s 264 (((3 : Int32) * a1)).toNatClampNeg)), (4, .int (gI s 250 (((22 : Int32) + (gI s 264 ((((3 : Int32) * a1) + (2 : Int32))).toNatClampNeg))).toNatClampNeg)), (3, .int (gI s 264 ((((3 : Int32) * a1) + (1 : Int32))).toNatClampNeg)), (2, .int (gI s 264 (((3 : Int32) * a1)).toNatClampNeg)), (0, .ref 248), (1, .int a1)]) dX12_packs_87 (Nat.le_of_ble_eq_true rfl) rfl ?_
          refine JT_aload_n (q := 4) dX12_packs_89 rfl rfl ?_
          refine JS_getR (x := 266) dX12_packs_90 flX12_83 BS_248 (Nat.le_of_ble_eq_true rfl) (Nat.le_of_ble_eq_true rfl) (Or.inr ⟨_, ct_12_41⟩) RF_248_41 ?_
          refine JT_iload_n (q := 5) dX12_packs_93 rfl rfl ?_
          obtain ⟨o34, h⟩ := h
          refine JS_iald dX12_packs_94 BS_266 (Nat.le_of_ble_eq_true rfl) (Nat.le_of_ble_eq_true rfl) o34 ?_
          refine JT_iconst (v := 2) dX12_packs_95 ic_2 ?_
          refine JT_icmp_ge (tgt := 103) dX12_packs_96 (by decide) (fun hc60 => ?_) (fun hc60 => ?_)
          · have h := h.1 hc60
            refine JT_aload_n (q := 4) dX12_packs_103 rfl rfl ?_
            refine JS_getR (x := 250) dX12_packs_104 flX12_33 BS_248 (Nat.le_of_ble_eq_true rfl) (Nat.le_of_ble_eq_true rfl) (Or.inr ⟨_, ct_12_6⟩) RF_248_6 ?_
            refine JT_bipush (v := 13) dX12_packs_107 bp_13 ?_
            refine JT_iload_n (q := 2) dX12_packs_109 rfl rfl ?_
            refine JT_iadd dX12_packs_110 ?_
            obtain ⟨o35, h⟩ := h
            refine JS_iald dX12_packs_111 BS_250 (Nat.le_of_ble_eq_true rfl) (Nat.le_of_ble_eq_true rfl) o35 ?_
            refine JT_istore (lv' := [(6, .int (gI s 250 (((13 : Int32) + (gI s 264 ((((3 : Int32) * a1) + (1 : Int32))).toNatClampNeg))).toNatClampNeg)), (5, .int (gI s 264 (((3 : Int32) * a1)).toNatClampNeg)), (4, .int (gI s 250 (((22 : Int32) + (gI s 264 ((((3 : Int32) * a1) + (2 : Int32))).toNatClampNeg))).toNatClampNeg)), (3, .int (gI s 264 ((((3 : Int32) * a1) + (1 : Int32))).toNatClampNeg)), (2, .int (gI s 264 (((3 : Int32) * a1)).toNatClampNeg)), (0, .ref 248), (1, .int a1)]) dX12_packs_112 (Nat.le_of_ble_eq_true rfl) rfl ?_
            refine JT_iload (q := 1) dX12_packs_114 rfl ?_
            refine JT_if_lt (tgt := 142) dX12_packs_116 (by decide) (fun hc47 => ?_) (fun hc47 => ?_)
            · have h := h.1 hc47
              refine JT_iconst (v := 0) dX12_packs_142 ic_0 ?_
              exact JS_iret dX12_packs_143 rfl (n01 (Or.inl rfl)) h
            · have h := h.2 hc47
              refine JT_iload (q := 0) dX12_packs_119 rfl ?_
              refine JT_if_lt (tgt := 142) dX12_packs_121 (by decide) (fun hc46 => ?_) (fun hc46 => ?_)
              · have h := h.1 hc46
                refine JT_iconst (v := 0) dX12_packs_142 ic_0 ?_
                exact JS_iret dX12_packs_143 rfl (n01 (Or.inl rfl)) h
              · have h := h.2 hc46
                refine JT_aload_n (q := 5) dX12_packs_124 rfl rfl ?_
                refine JT_iload (q := 1) dX12_packs_125 rfl ?_
                refine JS_callVI (M' := MX12_isLiving) (d' := 1) (As := [.int (gI s 264 (((3 : Int32) * a1)).toNatClampNeg)]) (rest := []) (P := (fun zv9 wm9 => (vX12_isLiving s (gI s 264 (((3 : Int32) * a1)).toNatClampNeg)) = zv9 ∧ s = wm9)) dX12_packs_127 cvX12_294 okX12_isLiving rfl (Nat.le_of_ble_eq_true rfl) BS_248 (Nat.le_of_ble_eq_true rfl) (Nat.le_of_ble_eq_true rfl) hci_12 (Nat.le_of_ble_eq_true rfl) (Nat.le_of_ble_eq_true rfl) (pX12_isLiving  ((gI s 264 (((3 : Int32) * a1)).toNatClampNeg))  ⟨rfl, rfl⟩) (fun zv9 wm9 hq9 => ?_)
                obtain ⟨rfl, rfl⟩ := hq9
                refine JT_if_eq (tgt := 142) dX12_packs_130 (by decide) (fun hc44 => ?_) (fun hc44 => ?_)
                · have h := h.1 hc44
                  refine JT_iconst (v := 0) dX12_packs_142 ic_0 ?_
                  exact JS_iret dX12_packs_143 rfl (n01 (Or.inl rfl)) h
                · have h := h.2 hc44
                  refine JT_aload_n (q := 5) dX12_packs_133 rfl rfl ?_
                  refine JT_iload (q := 0) dX12_packs_134 rfl ?_
                  refine JS_callVI (M' := MX12_isLiving) (d' := 1) (As := [.int (gI s 250 (((13 : Int32) + (gI s 264 ((((3 : Int32) * a1) + (1 : Int32))).toNatClampNeg))).toNatClampNeg)]) (rest := []) (P := (fun zv9 wm9 => (vX12_isLiving s (gI s 250 (((13 : Int32) + (gI s 264 ((((3 : Int32) * a1) + (1 : Int32))).toNatClampNeg))).toNatClampNeg)) = zv9 ∧ s = wm9)) dX12_packs_136 cvX12_294 okX12_isLiving rfl (Nat.le_of_ble_eq_true rfl) BS_248 (Nat.le_of_ble_eq_true rfl) (Nat.le_of_ble_eq_true rfl) hci_12 (Nat.le_of_ble_eq_true rfl) (Nat.le_of_ble_eq_true rfl) (pX12_isLiving  ((gI s 250 (((13 : Int32) + (gI s 264 ((((3 : Int32) * a1) + (1 : Int32))).toNatClampNeg))).toNatClampNeg))  ⟨rfl, rfl⟩) (fun zv9 wm9 hq9 => ?_)
                  obtain ⟨rfl, rfl⟩ := hq9
                  refine JT_if_ne (tgt := 144) dX12_packs_139 (by decide) (fun hc42 => ?_) (fun hc42 => ?_)
                  · have h := h.1 hc42
                    refine JT_aload_n (q := 5) dX12_packs_144 rfl rfl ?_
                    refine JS_getR (x := 269) dX12_packs_145 flX12_92 BS_248 (Nat.le_of_ble_eq_true rfl) (Nat.le_of_ble_eq_true rfl) (Or.inr ⟨_, ct_12_44⟩) RF_248_44 ?_
                    refine JT_iload (q := 1) dX12_packs_148 rfl ?_
                    refine JT_dup2 dX12_packs_150 rfl rfl ?_
                    obtain ⟨o36, h⟩ := h
                    refine JS_iald dX12_packs_151 BS_269 (Nat.le_of_ble_eq_true rfl) (Nat.le_of_ble_eq_true rfl) o36 ?_
                    refine JT_iload (q := 2) dX12_packs_152 rfl ?_
                    refine JT_isub dX12_packs_154 ?_
                    obtain ⟨o37, h⟩ := h
                    refine JS_iast dX12_packs_155 BS_269 (Nat.le_of_ble_eq_true rfl) (Nat.le_of_ble_eq_true rfl) o37 ?_
                    obtain ⟨s38, hs38⟩ : ∃ z, z = (pI s 269 ((gI s 264 (((3 : Int32) * a1)).toNatClampNeg)).toNatClampNeg ((gI s 269 ((gI s 264 (((3 : Int32) * a1)).toNatClampNeg)).toNatClampNeg) - (gI s 250 (((22 : Int32) + (gI s 264 ((((3 : Int32) * a1) + (2 : Int32))).toNatClampNeg))).toNatClampNeg))) := ⟨_, rfl⟩
                    replace h := h s38 hs38
                    rw [← hs38]
                    refine JT_aload_n (q := 5) dX12_packs_156 rfl rfl ?_
                    refine JS_getR (x := 269) dX12_packs_157 flX12_92 BS_248 (Nat.le_of_ble_eq_true rfl) (Nat.le_of_ble_eq_true rfl) (Or.inr ⟨_, ct_12_44⟩) RF_248_44 ?_
                    refine JT_iload (q := 0) dX12_packs_160 rfl ?_
                    refine JT_dup2 dX12_packs_162 rfl rfl ?_
                    obtain ⟨o39, h⟩ := h
                    refine JS_iald dX12_packs_163 BS_269 (Nat.le_of_ble_eq_true rfl) (Nat.le_of_ble_eq_true rfl) o39 ?_
                    refine JT_iload (q := 2) dX12_packs_164 rfl ?_
                    refine JT_isub dX12_packs_166 ?_
                    obtain ⟨o40, h⟩ := h
                    refine JS_iast dX12_packs_167 BS_269 (Nat.le_of_ble_eq_true rfl) (Nat.le_of_ble_eq_true rfl) o40 ?_
                    obtain ⟨s41, hs41⟩ : ∃ z, z = (pI s38 269 ((gI s 250 (((13 : Int32) + (gI s 264 ((((3 : Int32) * a1) + (1 : Int32))).toNatClampNeg))).toNatClampNeg)).toNatClampNeg ((gI s38 269 ((gI s 250 (((13 : Int32) + (gI s 264 ((((3 : Int32) * a1) + (1 : Int32))).toNatClampNeg))).toNatClampNeg)).toNatClampNeg) - (gI s 250 (((22 : Int32) + (gI s 264 ((((3 : Int32) * a1) + (2 : Int32))).toNatClampNeg))).toNatClampNeg))) := ⟨_, rfl⟩
                    replace h := h s41 hs41
                    rw [← hs41]
                    refine JT_iconst (v := 1) dX12_packs_168 ic_1 ?_
                    exact JS_iret dX12_packs_169 rfl (n01 (Or.inr rfl)) h
                  · have h := h.2 hc42
                    refine JT_iconst (v := 0) dX12_packs_142 ic_0 ?_
                    exact JS_iret dX12_packs_143 rfl (n01 (Or.inl rfl)) h
          · have h := h.2 hc60
            refine JT_iload_n (q := 2) dX12_packs_99 rfl rfl ?_
            refine JT_goto (tgt := 112) dX12_packs_100 (by decide) ?_
            refine JT_istore (lv' := [(6, .int (gI s 264 ((((3 : Int32) * a1) + (1 : Int32))).toNatClampNeg)), (5, .int (gI s 264 (((3 : Int32) * a1)).toNatClampNeg)), (4, .int (gI s 250 (((22 : Int32) + (gI s 264 ((((3 : Int32) * a1) + (2 : Int32))).toNatClampNeg))).toNatClampNeg)), (3, .int (gI s 264 ((((3 : Int32) * a1) + (1 : Int32))).toNatClampNeg)), (2, .int (gI s 264 (((3 : Int32) * a1)).toNatClampNeg)), (0, .ref 248), (1, .int a1)]) dX12_packs_112 (Nat.le_of_ble_eq_true rfl) rfl ?_
            refine JT_iload (q := 1) dX12_packs_114 rfl ?_
            refine JT_if_lt (tgt := 142) dX12_packs_116 (by decide) (fun hc59 => ?_) (fun hc59 => ?_)
            · have h := h.1 hc59
              refine JT_iconst (v := 0) dX12_packs_142 ic_0 ?_
              exact JS_iret dX12_packs_143 rfl (n01 (Or.inl rfl)) h
            · have h := h.2 hc59
              refine JT_iload (q := 0) dX12_packs_119 rfl ?_
              refine JT_if_lt (tgt := 142) dX12_packs_121 (by decide) (fun hc58 => ?_) (fun hc58 => ?_)
              · have h := h.1 hc58
                refine JT_iconst (v := 0) dX12_packs_142 ic_0 ?_
                exact JS_iret dX12_packs_143 rfl (n01 (Or.inl rfl)) h
              · have h := h.2 hc58
                refine JT_aload_n (q := 5) dX12_packs_124 rfl rfl ?_
                refine JT_iload (q := 1) dX12_packs_125 rfl ?_
                refine JS_callVI (M' := MX12_isLiving) (d' := 1) (As := [.int (gI s 264 (((3 : Int32) * a1)).toNatClampNeg)]) (rest := []) (P := (fun zv9 wm9 => (vX12_isLiving s (gI s 264 (((3 : Int32) * a1)).toNatClampNeg)) = zv9 ∧ s = wm9)) dX12_packs_127 cvX12_294 okX12_isLiving rfl (Nat.le_of_ble_eq_true rfl) BS_248 (Nat.le_of_ble_eq_true rfl) (Nat.le_of_ble_eq_true rfl) hci_12 (Nat.le_of_ble_eq_true rfl) (Nat.le_of_ble_eq_true rfl) (pX12_isLiving  ((gI s 264 (((3 : Int32) * a1)).toNatClampNeg))  ⟨rfl, rfl⟩) (fun zv9 wm9 hq9 => ?_)
                obtain ⟨rfl, rfl⟩ := hq9
                refine JT_if_eq (tgt := 142) dX12_packs_130 (by decide) (fun hc56 => ?_) (fun hc56 => ?_)
                · have h := h.1 hc56
                  refine JT_iconst (v := 0) dX12_packs_142 ic_0 ?_
                  exact JS_iret dX12_packs_143 rfl (n01 (Or.inl rfl)) h
                · have h := h.2 hc56
                  refine JT_aload_n (q := 5) dX12_packs_133 rfl rfl ?_
                  refine JT_iload (q := 0) dX12_packs_134 rfl ?_
                  refine JS_callVI (M' := MX12_isLiving) (d' := 1) (As := [.int (gI s 264 ((((3 : Int32) * a1) + (1 : Int32))).toNatClampNeg)]) (rest := []) (P := (fun zv9 wm9 => (vX12_isLiving s (gI s 264 ((((3 : Int32) * a1) + (1 : Int32))).toNatClampNeg)) = zv9 ∧ s = wm9)) dX12_packs_136 cvX12_294 okX12_isLiving rfl (Nat.le_of_ble_eq_true rfl) BS_248 (Nat.le_of_ble_eq_true rfl) (Nat.le_of_ble_eq_true rfl) hci_12 (Nat.le_of_ble_eq_true rfl) (Nat.le_of_ble_eq_true rfl) (pX12_isLiving  ((gI s 264 ((((3 : Int32) * a1) + (1 : Int32))).toNatClampNeg))  ⟨rfl, rfl⟩) (fun zv9 wm9 hq9 => ?_)
                  obtain ⟨rfl, rfl⟩ := hq9
                  refine JT_if_ne (tgt := 144) dX12_packs_139 (by decide) (fun hc54 => ?_) (fun hc54 => ?_)
                  · have h := h.1 hc54
                    refine JT_aload_n (q := 5) dX12_packs_144 rfl rfl ?_
                    refine JS_getR (x := 269) dX12_packs_145 flX12_92 BS_248 (Nat.le_of_ble_eq_true rfl) (Nat.le_of_ble_eq_true rfl) (Or.inr ⟨_, ct_12_44⟩) RF_248_44 ?_
                    refine JT_iload (q := 1) dX12_packs_148 rfl ?_
                    refine JT_dup2 dX12_packs_150 rfl rfl ?_
                    obtain ⟨o48, h⟩ := h
                    refine JS_iald dX12_packs_151 BS_269 (Nat.le_of_ble_eq_true rfl) (Nat.le_of_ble_eq_true rfl) o48 ?_
                    refine JT_iload (q := 2) dX12_packs_152 rfl ?_
                    refine JT_isub dX12_packs_154 ?_
                    obtain ⟨o49, h⟩ := h
                    refine JS_iast dX12_packs_155 BS_269 (Nat.le_of_ble_eq_true rfl) (Nat.le_of_ble_eq_true rfl) o49 ?_
                    obtain ⟨s50, hs50⟩ : ∃ z, z = (pI s 269 ((gI s 264 (((3 : Int32) * a1)).toNatClampNeg)).toNatClampNeg ((gI s 269 ((gI s 264 (((3 : Int32) * a1)).toNatClampNeg)).toNatClampNeg) - (gI s 250 (((22 : Int32) + (gI s 264 ((((3 : Int32) * a1) + (2 : Int32))).toNatClampNeg))).toNatClampNeg))) := ⟨_, rfl⟩
                    replace h := h s50 hs50
                    rw [← hs50]
                    refine JT_aload_n (q := 5) dX12_packs_156 rfl rfl ?_
                    refine JS_getR (x := 269) dX12_packs_157 flX12_92 BS_248 (Nat.le_of_ble_eq_true rfl) (Nat.le_of_ble_eq_true rfl) (Or.inr ⟨_, ct_12_44⟩) RF_248_44 ?_
                    refine JT_iload (q := 0) dX12_packs_160 rfl ?_
                    refine JT_dup2 dX12_packs_162 rfl rfl ?_
                    obtain ⟨o51, h⟩ := h
                    refine JS_iald dX12_packs_163 BS_269 (Nat.le_of_ble_eq_true rfl) (Nat.le_of_ble_eq_true rfl) o51 ?_
                    refine JT_iload (q := 2) dX12_packs_164 rfl ?_
                    refine JT_isub dX12_packs_166 ?_
                    obtain ⟨o52, h⟩ := h
                    refine JS_iast dX12_packs_167 BS_269 (Nat.le_of_ble_eq_true rfl) (Nat.le_of_ble_eq_true rfl) o52 ?_
                    obtain ⟨s53, hs53⟩ : ∃ z, z = (pI s50 269 ((gI s 264 ((((3 : Int32) * a1) + (1 : Int32))).toNatClampNeg)).toNatClampNeg ((gI s50 269 ((gI s 264 ((((3 : Int32) * a1) + (1 : Int32))).toNatClampNeg)).toNatClampNeg) - (gI s 250 (((22 : Int32) + (gI s 264 ((((3 : Int32) * a1) + (2 : Int32))).toNatClampNeg))).toNatClampNeg))) := ⟨_, rfl⟩
                    replace h := h s53 hs53
                    rw [← hs53]
                    refine JT_iconst (v := 1) dX12_packs_168 ic_1 ?_
                    exact JS_iret dX12_packs_169 rfl (n01 (Or.inr rfl)) h
                  · have h := h.2 hc54
                    refine JT_iconst (v := 0) dX12_packs_142 ic_0 ?_
                    exact JS_iret dX12_packs_143 rfl (n01 (Or.inl rfl)) h
      · have h := h.2 hc62
        refine JT_iconst (v := 0) dX12_packs_61 ic_0 ?_
        exact JS_iret dX12_packs_62 rfl (n01 (Or.inl rfl)) h
set_option maxRecDepth 20000 in
def vX12_packs (s : SM) (a1 : Int32) : Int32 := (if (gI s 264 (((3 : Int32) * a1)).toNatClampNeg) = (gI s 264 ((((3 : Int32) * a1) + (1 : Int32))).toNatClampNeg) then (0 : Int32) else (if (vX12_isLiving s (gI s 264 (((3 : Int32) * a1)).toNatClampNeg)) = 0 then (0 : Int32) else (if (vX12_isLiving s (gI s 264 ((((3 : Int32) * a1) + (1 : Int32))).toNatClampNeg)) = 0 then (0 : Int32) else (if ((gI s 266 (a1).toNatClampNeg) - (gI s 266 (a1).toNatClampNeg) / (2 : Int32) * (2 : Int32)) = 0 then (if (2 : Int32) ≤ (gI s 266 (a1).toNatClampNeg) then (if (gI s 264 (((3 : Int32) * a1)).toNatClampNeg) < 0 then (0 : Int32) else (if (gI s 250 (((13 : Int32) + (gI s 264 ((((3 : Int32) * a1) + (1 : Int32))).toNatClampNeg))).toNatClampNeg) < 0 then (0 : Int32) else (if (vX12_isLiving s (gI s 264 (((3 : Int32) * a1)).toNatClampNeg)) = 0 then (0 : Int32) else (if (vX12_isLiving s (gI s 250 (((13 : Int32) + (gI s 264 ((((3 : Int32) * a1) + (1 : Int32))).toNatClampNeg))).toNatClampNeg)) = 0 then (0 : Int32) else (1 : Int32))))) else (if (gI s 264 (((3 : Int32) * a1)).toNatClampNeg) < 0 then (0 : Int32) else (if (gI s 264 ((((3 : Int32) * a1) + (1 : Int32))).toNatClampNeg) < 0 then (0 : Int32) else (if (vX12_isLiving s (gI s 264 (((3 : Int32) * a1)).toNatClampNeg)) = 0 then (0 : Int32) else (if (vX12_isLiving s (gI s 264 ((((3 : Int32) * a1) + (1 : Int32))).toNatClampNeg)) = 0 then (0 : Int32) else (1 : Int32)))))) else (if (2 : Int32) ≤ (gI s 266 (a1).toNatClampNeg) then (if (gI s 250 (((13 : Int32) + (gI s 264 (((3 : Int32) * a1)).toNatClampNeg))).toNatClampNeg) < 0 then (0 : Int32) else (if (gI s 250 (((13 : Int32) + (gI s 264 ((((3 : Int32) * a1) + (1 : Int32))).toNatClampNeg))).toNatClampNeg) < 0 then (0 : Int32) else (if (vX12_isLiving s (gI s 250 (((13 : Int32) + (gI s 264 (((3 : Int32) * a1)).toNatClampNeg))).toNatClampNeg)) = 0 then (0 : Int32) else (if (vX12_isLiving s (gI s 250 (((13 : Int32) + (gI s 264 ((((3 : Int32) * a1) + (1 : Int32))).toNatClampNeg))).toNatClampNeg)) = 0 then (0 : Int32) else (1 : Int32))))) else (if (gI s 250 (((13 : Int32) + (gI s 264 (((3 : Int32) * a1)).toNatClampNeg))).toNatClampNeg) < 0 then (0 : Int32) else (if (gI s 264 ((((3 : Int32) * a1) + (1 : Int32))).toNatClampNeg) < 0 then (0 : Int32) else (if (vX12_isLiving s (gI s 250 (((13 : Int32) + (gI s 264 (((3 : Int32) * a1)).toNatClampNeg))).toNatClampNeg)) = 0 then (0 : Int32) else (if (vX12_isLiving s (gI s 264 ((((3 : Int32) * a1) + (1 : Int32))).toNatClampNeg)) = 0 then (0 : Int32) else (1 : Int32))))))))))
set_option maxRecDepth 20000 in
def mX12_packs (s : SM) (a1 : Int32) : SM := (if (gI s 264 (((3 : Int32) * a1)).toNatClampNeg) = (gI s 264 ((((3 : Int32) * a1) + (1 : Int32))).toNatClampNeg) then s else (if (vX12_isLiving s (gI s 264 (((3 : Int32) * a1)).toNatClampNeg)) = 0 then s else (if (vX12_isLiving s (gI s 264 ((((3 : Int32) * a1) + (1 : Int32))).toNatClampNeg)) = 0 then s else (if ((gI s 266 (a1).toNatClampNeg) - (gI s 266 (a1).toNatClampNeg) / (2 : Int32) * (2 : Int32)) = 0 then (if (2 : Int32) ≤ (gI s 266 (a1).toNatClampNeg) then (if (gI s 264 (((3 : Int32) * a1)).toNatClampNeg) < 0 then s else (if (gI s 250 (((13 : Int32) + (gI s 264 ((((3 : Int32) * a1) + (1 : Int32))).toNatClampNeg))).toNatClampNeg) < 0 then s else (if (vX12_isLiving s (gI s 264 (((3 : Int32) * a1)).toNatClampNeg)) = 0 then s else (if (vX12_isLiving s (gI s 250 (((13 : Int32) + (gI s 264 ((((3 : Int32) * a1) + (1 : Int32))).toNatClampNeg))).toNatClampNeg)) = 0 then s else ((fun (s38 : SM) => ((fun (s41 : SM) => s41) (pI s38 269 ((gI s 250 (((13 : Int32) + (gI s 264 ((((3 : Int32) * a1) + (1 : Int32))).toNatClampNeg))).toNatClampNeg)).toNatClampNeg ((gI s38 269 ((gI s 250 (((13 : Int32) + (gI s 264 ((((3 : Int32) * a1) + (1 : Int32))).toNatClampNeg))).toNatClampNeg)).toNatClampNeg) - (gI s 250 (((22 : Int32) + (gI s 264 ((((3 : Int32) * a1) + (2 : Int32))).toNatClampNeg))).toNatClampNeg))))) (pI s 269 ((gI s 264 (((3 : Int32) * a1)).toNatClampNeg)).toNatClampNeg ((gI s 269 ((gI s 264 (((3 : Int32) * a1)).toNatClampNeg)).toNatClampNeg) - (gI s 250 (((22 : Int32) + (gI s 264 ((((3 : Int32) * a1) + (2 : Int32))).toNatClampNeg))).toNatClampNeg)))))))) else (if (gI s 264 (((3 : Int32) * a1)).toNatClampNeg) < 0 then s else (if (gI s 264 ((((3 : Int32) * a1) + (1 : Int32))).toNatClampNeg) < 0 then s else (if (vX12_isLiving s (gI s 264 (((3 : Int32) * a1)).toNatClampNeg)) = 0 then s else (if (vX12_isLiving s (gI s 264 ((((3 : Int32) * a1) + (1 : Int32))).toNatClampNeg)) = 0 then s else ((fun (s50 : SM) => ((fun (s53 : SM) => s53) (pI s50 269 ((gI s 264 ((((3 : Int32) * a1) + (1 : Int32))).toNatClampNeg)).toNatClampNeg ((gI s50 269 ((gI s 264 ((((3 : Int32) * a1) + (1 : Int32))).toNatClampNeg)).toNatClampNeg) - (gI s 250 (((22 : Int32) + (gI s 264 ((((3 : Int32) * a1) + (2 : Int32))).toNatClampNeg))).toNatClampNeg))))) (pI s 269 ((gI s 264 (((3 : Int32) * a1)).toNatClampNeg)).toNatClampNeg ((gI s 269 ((gI s 264 (((3 : Int32) * a1)).toNatClampNeg)).toNatClampNeg) - (gI s 250 (((22 : Int32) + (gI s 264 ((((3 : Int32) * a1) + (2 : Int32))).toNatClampNeg))).toNatClampNeg))))))))) else (if (2 : Int32) ≤ (gI s 266 (a1).toNatClampNeg) then (if (gI s 250 (((13 : Int32) + (gI s 264 (((3 : Int32) * a1)).toNatClampNeg))).toNatClampNeg) < 0 then s else (if (gI s 250 (((13 : Int32) + (gI s 264 ((((3 : Int32) * a1) + (1 : Int32))).toNatClampNeg))).toNatClampNeg) < 0 then s else (if (vX12_isLiving s (gI s 250 (((13 : Int32) + (gI s 264 (((3 : Int32) * a1)).toNatClampNeg))).toNatClampNeg)) = 0 then s else (if (vX12_isLiving s (gI s 250 (((13 : Int32) + (gI s 264 ((((3 : Int32) * a1) + (1 : Int32))).toNatClampNeg))).toNatClampNeg)) = 0 then s else ((fun (s11 : SM) => ((fun (s14 : SM) => s14) (pI s11 269 ((gI s 250 (((13 : Int32) + (gI s 264 ((((3 : Int32) * a1) + (1 : Int32))).toNatClampNeg))).toNatClampNeg)).toNatClampNeg ((gI s11 269 ((gI s 250 (((13 : Int32) + (gI s 264 ((((3 : Int32) * a1) + (1 : Int32))).toNatClampNeg))).toNatClampNeg)).toNatClampNeg) - (gI s 250 (((22 : Int32) + (gI s 264 ((((3 : Int32) * a1) + (2 : Int32))).toNatClampNeg))).toNatClampNeg))))) (pI s 269 ((gI s 250 (((13 : Int32) + (gI s 264 (((3 : Int32) * a1)).toNatClampNeg))).toNatClampNeg)).toNatClampNeg ((gI s 269 ((gI s 250 (((13 : Int32) + (gI s 264 (((3 : Int32) * a1)).toNatClampNeg))).toNatClampNeg)).toNatClampNeg) - (gI s 250 (((22 : Int32) + (gI s 264 ((((3 : Int32) * a1) + (2 : Int32))).toNatClampNeg))).toNatClampNeg)))))))) else (if (gI s 250 (((13 : Int32) + (gI s 264 (((3 : Int32) * a1)).toNatClampNeg))).toNatClampNeg) < 0 then s else (if (gI s 264 ((((3 : Int32) * a1) + (1 : Int32))).toNatClampNeg) < 0 then s else (if (vX12_isLiving s (gI s 250 (((13 : Int32) + (gI s 264 (((3 : Int32) * a1)).toNatClampNeg))).toNatClampNeg)) = 0 then s else (if (vX12_isLiving s (gI s 264 ((((3 : Int32) * a1) + (1 : Int32))).toNatClampNeg)) = 0 then s else ((fun (s23 : SM) => ((fun (s26 : SM) => s26) (pI s23 269 ((gI s 264 ((((3 : Int32) * a1) + (1 : Int32))).toNatClampNeg)).toNatClampNeg ((gI s23 269 ((gI s 264 ((((3 : Int32) * a1) + (1 : Int32))).toNatClampNeg)).toNatClampNeg) - (gI s 250 (((22 : Int32) + (gI s 264 ((((3 : Int32) * a1) + (2 : Int32))).toNatClampNeg))).toNatClampNeg))))) (pI s 269 ((gI s 250 (((13 : Int32) + (gI s 264 (((3 : Int32) * a1)).toNatClampNeg))).toNatClampNeg)).toNatClampNeg ((gI s 269 ((gI s 250 (((13 : Int32) + (gI s 264 (((3 : Int32) * a1)).toNatClampNeg))).toNatClampNeg)).toNatClampNeg) - (gI s 250 (((22 : Int32) + (gI s 264 ((((3 : Int32) * a1) + (2 : Int32))).toNatClampNeg))).toNatClampNeg)))))))))))))
set_option maxRecDepth 20000 in
def rX12_packs (s : SM) (a1 : Int32) : Prop := vp_in ((3 : Int32) * a1) 18 ∧ vp_in (((3 : Int32) * a1) + (1 : Int32)) 18 ∧ vp_in (((3 : Int32) * a1) + (2 : Int32)) 18 ∧ vp_in ((22 : Int32) + (gI s 264 ((((3 : Int32) * a1) + (2 : Int32))).toNatClampNeg)) 787 ∧ (¬ (gI s 264 (((3 : Int32) * a1)).toNatClampNeg) = (gI s 264 ((((3 : Int32) * a1) + (1 : Int32))).toNatClampNeg) → (¬ (vX12_isLiving s (gI s 264 (((3 : Int32) * a1)).toNatClampNeg)) = 0 → (¬ (vX12_isLiving s (gI s 264 ((((3 : Int32) * a1) + (1 : Int32))).toNatClampNeg)) = 0 → vp_in a1 6 ∧ ((¬ ((gI s 266 (a1).toNatClampNeg) - (gI s 266 (a1).toNatClampNeg) / (2 : Int32) * (2 : Int32)) = 0 → vp_in ((13 : Int32) + (gI s 264 (((3 : Int32) * a1)).toNatClampNeg)) 787 ∧ vp_in a1 6 ∧ (((2 : Int32) ≤ (gI s 266 (a1).toNatClampNeg) → vp_in ((13 : Int32) + (gI s 264 ((((3 : Int32) * a1) + (1 : Int32))).toNatClampNeg)) 787 ∧ (¬ (gI s 250 (((13 : Int32) + (gI s 264 (((3 : Int32) * a1)).toNatClampNeg))).toNatClampNeg) < 0 → (¬ (gI s 250 (((13 : Int32) + (gI s 264 ((((3 : Int32) * a1) + (1 : Int32))).toNatClampNeg))).toNatClampNeg) < 0 → (¬ (vX12_isLiving s (gI s 250 (((13 : Int32) + (gI s 264 (((3 : Int32) * a1)).toNatClampNeg))).toNatClampNeg)) = 0 → (¬ (vX12_isLiving s (gI s 250 (((13 : Int32) + (gI s 264 ((((3 : Int32) * a1) + (1 : Int32))).toNatClampNeg))).toNatClampNeg)) = 0 → vp_in (gI s 250 (((13 : Int32) + (gI s 264 (((3 : Int32) * a1)).toNatClampNeg))).toNatClampNeg) 9 ∧ vp_in (gI s 250 (((13 : Int32) + (gI s 264 (((3 : Int32) * a1)).toNatClampNeg))).toNatClampNeg) 9 ∧ (∀ s11, s11 = (pI s 269 ((gI s 250 (((13 : Int32) + (gI s 264 (((3 : Int32) * a1)).toNatClampNeg))).toNatClampNeg)).toNatClampNeg ((gI s 269 ((gI s 250 (((13 : Int32) + (gI s 264 (((3 : Int32) * a1)).toNatClampNeg))).toNatClampNeg)).toNatClampNeg) - (gI s 250 (((22 : Int32) + (gI s 264 ((((3 : Int32) * a1) + (2 : Int32))).toNatClampNeg))).toNatClampNeg))) → vp_in (gI s 250 (((13 : Int32) + (gI s 264 ((((3 : Int32) * a1) + (1 : Int32))).toNatClampNeg))).toNatClampNeg) 9 ∧ vp_in (gI s 250 (((13 : Int32) + (gI s 264 ((((3 : Int32) * a1) + (1 : Int32))).toNatClampNeg))).toNatClampNeg) 9)))))) ∧ (¬ (2 : Int32) ≤ (gI s 266 (a1).toNatClampNeg) → (¬ (gI s 250 (((13 : Int32) + (gI s 264 (((3 : Int32) * a1)).toNatClampNeg))).toNatClampNeg) < 0 → (¬ (gI s 264 ((((3 : Int32) * a1) + (1 : Int32))).toNatClampNeg) < 0 → (¬ (vX12_isLiving s (gI s 250 (((13 : Int32) + (gI s 264 (((3 : Int32) * a1)).toNatClampNeg))).toNatClampNeg)) = 0 → (¬ (vX12_isLiving s (gI s 264 ((((3 : Int32) * a1) + (1 : Int32))).toNatClampNeg)) = 0 → vp_in (gI s 250 (((13 : Int32) + (gI s 264 (((3 : Int32) * a1)).toNatClampNeg))).toNatClampNeg) 9 ∧ vp_in (gI s 250 (((13 : Int32) + (gI s 264 (((3 : Int32) * a1)).toNatClampNeg))).toNatClampNeg) 9 ∧ (∀ s23, s23 = (pI s 269 ((gI s 250 (((13 : Int32) + (gI s 264 (((3 : Int32) * a1)).toNatClampNeg))).toNatClampNeg)).toNatClampNeg ((gI s 269 ((gI s 250 (((13 : Int32) + (gI s 264 (((3 : Int32) * a1)).toNatClampNeg))).toNatClampNeg)).toNatClampNeg) - (gI s 250 (((22 : Int32) + (gI s 264 ((((3 : Int32) * a1) + (2 : Int32))).toNatClampNeg))).toNatClampNeg))) → vp_in (gI s 264 ((((3 : Int32) * a1) + (1 : Int32))).toNatClampNeg) 9 ∧ vp_in (gI s 264 ((((3 : Int32) * a1) + (1 : Int32))).toNatClampNeg) 9)))))))) ∧ (((gI s 266 (a1).toNatClampNeg) - (gI s 266 (a1).toNatClampNeg) / (2 : Int32) * (2 : Int32)) = 0 → vp_in a1 6 ∧ (((2 : Int32) ≤ (gI s 266 (a1).toNatClampNeg) → vp_in ((13 : Int32) + (gI s 264 ((((3 : Int32) * a1) + (1 : Int32))).toNatClampNeg)) 787 ∧ (¬ (gI s 264 (((3 : Int32) * a1)).toNatClampNeg) < 0 → (¬ (gI s 250 (((13 : Int32) + (gI s 264 ((((3 : Int32) * a1) + (1 : Int32))).toNatClampNeg))).toNatClampNeg) < 0 → (¬ (vX12_isLiving s (gI s 264 (((3 : Int32) * a1)).toNatClampNeg)) = 0 → (¬ (vX12_isLiving s (gI s 250 (((13 : Int32) + (gI s 264 ((((3 : Int32) * a1) + (1 : Int32))).toNatClampNeg))).toNatClampNeg)) = 0 → vp_in (gI s 264 (((3 : Int32) * a1)).toNatClampNeg) 9 ∧ vp_in (gI s 264 (((3 : Int32) * a1)).toNatClampNeg) 9 ∧ (∀ s38, s38 = (pI s 269 ((gI s 264 (((3 : Int32) * a1)).toNatClampNeg)).toNatClampNeg ((gI s 269 ((gI s 264 (((3 : Int32) * a1)).toNatClampNeg)).toNatClampNeg) - (gI s 250 (((22 : Int32) + (gI s 264 ((((3 : Int32) * a1) + (2 : Int32))).toNatClampNeg))).toNatClampNeg))) → vp_in (gI s 250 (((13 : Int32) + (gI s 264 ((((3 : Int32) * a1) + (1 : Int32))).toNatClampNeg))).toNatClampNeg) 9 ∧ vp_in (gI s 250 (((13 : Int32) + (gI s 264 ((((3 : Int32) * a1) + (1 : Int32))).toNatClampNeg))).toNatClampNeg) 9)))))) ∧ (¬ (2 : Int32) ≤ (gI s 266 (a1).toNatClampNeg) → (¬ (gI s 264 (((3 : Int32) * a1)).toNatClampNeg) < 0 → (¬ (gI s 264 ((((3 : Int32) * a1) + (1 : Int32))).toNatClampNeg) < 0 → (¬ (vX12_isLiving s (gI s 264 (((3 : Int32) * a1)).toNatClampNeg)) = 0 → (¬ (vX12_isLiving s (gI s 264 ((((3 : Int32) * a1) + (1 : Int32))).toNatClampNeg)) = 0 → vp_in (gI s 264 (((3 : Int32) * a1)).toNatClampNeg) 9 ∧ vp_in (gI s 264 (((3 : Int32) * a1)).toNatClampNeg) 9 ∧ (∀ s50, s50 = (pI s 269 ((gI s 264 (((3 : Int32) * a1)).toNatClampNeg)).toNatClampNeg ((gI s 269 ((gI s 264 (((3 : Int32) * a1)).toNatClampNeg)).toNatClampNeg) - (gI s 250 (((22 : Int32) + (gI s 264 ((((3 : Int32) * a1) + (2 : Int32))).toNatClampNeg))).toNatClampNeg))) → vp_in (gI s 264 ((((3 : Int32) * a1) + (1 : Int32))).toNatClampNeg) 9 ∧ vp_in (gI s 264 ((((3 : Int32) * a1) + (1 : Int32))).toNatClampNeg) 9))))))))))))
set_option maxRecDepth 20000 in
theorem zX12_packs (s : SM) (a1 : Int32) : vX12_packs s a1 = 0 ∨ vX12_packs s a1 = 1 := (i01 (Or.inl rfl) (i01 (Or.inl rfl) (i01 (Or.inl rfl) (i01 (i01 (i01 (Or.inl rfl) (i01 (Or.inl rfl) (i01 (Or.inl rfl) (i01 (Or.inl rfl) (Or.inr rfl))))) (i01 (Or.inl rfl) (i01 (Or.inl rfl) (i01 (Or.inl rfl) (i01 (Or.inl rfl) (Or.inr rfl)))))) (i01 (i01 (Or.inl rfl) (i01 (Or.inl rfl) (i01 (Or.inl rfl) (i01 (Or.inl rfl) (Or.inr rfl))))) (i01 (Or.inl rfl) (i01 (Or.inl rfl) (i01 (Or.inl rfl) (i01 (Or.inl rfl) (Or.inr rfl))))))))))
set_option maxRecDepth 20000 in
theorem pX12_packs (a1 : Int32) {s : SM} {Q : Int32 → SM → Prop} (hr : rX12_packs s a1) (h : Q (vX12_packs s a1) (mX12_packs s a1)) : KI MX12_packs 2 [.ref 248, .int a1] s Q := by
  refine bX12_packs a1 ?_
  unfold rX12_packs at hr
  unfold vX12_packs mX12_packs at h
  refine ⟨hr.1, ?_⟩
  replace hr := hr.2
  refine ⟨hr.1, ?_⟩
  replace hr := hr.2
  refine ⟨hr.1, ?_⟩
  replace hr := hr.2
  refine ⟨hr.1, ?_⟩
  replace hr := hr.2
  refine ⟨fun c => ?_, fun c => ?_⟩
  · try simp only [if_pos c] at h
    first | exact h | contradiction
  · replace hr := hr c
    try simp only [if_neg c] at h
    refine ⟨fun c => ?_, fun c => ?_⟩
    · try simp only [if_pos c] at h
      first | exact h | contradiction
    · replace hr := hr c
      try simp only [if_neg c] at h
      refine ⟨fun c => ?_, fun c => ?_⟩
      · replace hr := hr c
        try simp only [if_neg c] at h
        refine ⟨hr.1, ?_⟩
        replace hr := hr.2
        refine ⟨fun c => ?_, fun c => ?_⟩
        · replace hr := hr.1 c
          try simp only [if_neg c] at h
          refine ⟨hr.1, ?_⟩
          replace hr := hr.2
          refine ⟨hr.1, ?_⟩
          replace hr := hr.2
          refine ⟨fun c => ?_, fun c => ?_⟩
          · replace hr := hr.1 c
            try simp only [if_pos c] at h
            refine ⟨hr.1, ?_⟩
            replace hr := hr.2
            refine ⟨fun c => ?_, fun c => ?_⟩
            · try simp only [if_pos c] at h
              first | exact h | contradiction
            · replace hr := hr c
              try simp only [if_neg c] at h
              refine ⟨fun c => ?_, fun c => ?_⟩
              · try simp only [if_pos c] at h
                first | exact h | contradiction
              · replace hr := hr c
                try simp only [if_neg c] at h
                refine ⟨fun c => ?_, fun c => ?_⟩
                · try simp only [if_pos c] at h
                  first | exact h | contradiction
                · replace hr := hr c
                  try simp only [if_neg c] at h
                  refine ⟨fun c => ?_, fun c => ?_⟩
                  · replace hr := hr c
                    try simp only [if_neg c] at h
                    refine ⟨hr.1, ?_⟩
                    replace hr := hr.2
                    refine ⟨hr.1, ?_⟩
                    replace hr := hr.2
                    intro s11 e9
                    replace hr := hr s11 e9
                    subst e9
                    refine ⟨hr.1, ?_⟩
                    replace hr := hr.2
                    refine ⟨hr, ?_⟩
                    intro s14 e9
                    subst e9
                    first | exact h | contradiction
                  · try simp only [if_pos c] at h
                    first | exact h | contradiction
          · replace hr := hr.2 c
            try simp only [if_neg c] at h
            refine ⟨fun c => ?_, fun c => ?_⟩
            · try simp only [if_pos c] at h
              first | exact h | contradiction
            · replace hr := hr c
              try simp only [if_neg c] at h
              refine ⟨fun c => ?_, fun c => ?_⟩
              · try simp only [if_pos c] at h
                first | exact h | contradiction
              · replace hr := hr c
                try simp only [if_neg c] at h
                refine ⟨fun c => ?_, fun c => ?_⟩
                · try simp only [if_pos c] at h
                  first | exact h | contradiction
                · replace hr := hr c
                  try simp only [if_neg c] at h
                  refine ⟨fun c => ?_, fun c => ?_⟩
                  · replace hr := hr c
                    try simp only [if_neg c] at h
                    refine ⟨hr.1, ?_⟩
                    replace hr := hr.2
                    refine ⟨hr.1, ?_⟩
                    replace hr := hr.2
                    intro s23 e9
                    replace hr := hr s23 e9
                    subst e9
                    refine ⟨hr.1, ?_⟩
                    replace hr := hr.2
                    refine ⟨hr, ?_⟩
                    intro s26 e9
                    subst e9
                    first | exact h | contradiction
                  · try simp only [if_pos c] at h
                    first | exact h | contradiction
        · replace hr := hr.2 c
          try simp only [if_pos c] at h
          refine ⟨hr.1, ?_⟩
          replace hr := hr.2
          refine ⟨fun c => ?_, fun c => ?_⟩
          · replace hr := hr.1 c
            try simp only [if_pos c] at h
            refine ⟨hr.1, ?_⟩
            replace hr := hr.2
            refine ⟨fun c => ?_, fun c => ?_⟩
            · try simp only [if_pos c] at h
              first | exact h | contradiction
            · replace hr := hr c
              try simp only [if_neg c] at h
              refine ⟨fun c => ?_, fun c => ?_⟩
              · try simp only [if_pos c] at h
                first | exact h | contradiction
              · replace hr := hr c
                try simp only [if_neg c] at h
                refine ⟨fun c => ?_, fun c => ?_⟩
                · try simp only [if_pos c] at h
                  first | exact h | contradiction
                · replace hr := hr c
                  try simp only [if_neg c] at h
                  refine ⟨fun c => ?_, fun c => ?_⟩
                  · replace hr := hr c
                    try simp only [if_neg c] at h
                    refine ⟨hr.1, ?_⟩
                    replace hr := hr.2
                    refine ⟨hr.1, ?_⟩
                    replace hr := hr.2
                    intro s38 e9
                    replace hr := hr s38 e9
                    subst e9
                    refine ⟨hr.1, ?_⟩
                    replace hr := hr.2
                    refine ⟨hr, ?_⟩
                    intro s41 e9
                    subst e9
                    first | exact h | contradiction
                  · try simp only [if_pos c] at h
                    first | exact h | contradiction
          · replace hr := hr.2 c
            try simp only [if_neg c] at h
            refine ⟨fun c => ?_, fun c => ?_⟩
            · try simp only [if_pos c] at h
              first | exact h | contradiction
            · replace hr := hr c
              try simp only [if_neg c] at h
              refine ⟨fun c => ?_, fun c => ?_⟩
              · try simp only [if_pos c] at h
                first | exact h | contradiction
              · replace hr := hr c
                try simp only [if_neg c] at h
                refine ⟨fun c => ?_, fun c => ?_⟩
                · try simp only [if_pos c] at h
                  first | exact h | contradiction
                · replace hr := hr c
                  try simp only [if_neg c] at h
                  refine ⟨fun c => ?_, fun c => ?_⟩
                  · replace hr := hr c
                    try simp only [if_neg c] at h
                    refine ⟨hr.1, ?_⟩
                    replace hr := hr.2
                    refine ⟨hr.1, ?_⟩
                    replace hr := hr.2
                    intro s50 e9
                    replace hr := hr s50 e9
                    subst e9
                    refine ⟨hr.1, ?_⟩
                    replace hr := hr.2
                    refine ⟨hr, ?_⟩
                    intro s53 e9
                    subst e9
                    first | exact h | contradiction
                  · try simp only [if_pos c] at h
                    first | exact h | contradiction
      · try simp only [if_pos c] at h
        first | exact h | contradiction
set_option maxRecDepth 20000 in
theorem bX12_read (a1 : Int32) (a2 : Int32) {s : SM} {Q : Int32 → SM → Prop} (h : (((vX12_isDeal (pI s 248 0 (0 : Int32)) a1) = 0 → Q (-1 : Int32) (pI s 248 0 (0 : Int32))) ∧ (¬ (vX12_isDeal (pI s 248 0 (0 : Int32)) a1) = 0 → (((vX12_isIn (pI s 248 0 (0 : Int32)) a2 (0 : Int32) (1 : Int32)) = 0 → Q (-1 : Int32) (pI s 248 0 (0 : Int32))) ∧ (¬ (vX12_isIn (pI s 248 0 (0 : Int32)) a2 (0 : Int32) (1 : Int32)) = 0 → rX12_of (pI s 248 0 (0 : Int32)) a1 ((6 : Int32) + a2) ∧ ((0 ≤ (vX12_of (pI s 248 0 (0 : Int32)) a1 ((6 : Int32) + a2)) → rX12_isRead (pI s 248 0 (0 : Int32)) a1 a2 (vX12_living (pI s 248 0 (0 : Int32)) ) ∧ Q (if (vX12_isRead (pI s 248 0 (0 : Int32)) a1 a2 (vX12_living (pI s 248 0 (0 : Int32)) )) = 0 then (0 : Int32) else (1 : Int32)) (pI s 248 0 (0 : Int32))) ∧ (¬ 0 ≤ (vX12_of (pI s 248 0 (0 : Int32)) a1 ((6 : Int32) + a2)) → Q (-1 : Int32) (pI s 248 0 (0 : Int32))))))))) : KI MX12_read 2 [.ref 248, .int a1, .int a2] s Q := by
  show BI MX12_read 2 0 [(0, .ref 248), (1, .int a1), (2, .int a2)] s Q
  refine JT_aload_n (q := 0) dX12_read_0 rfl rfl ?_
  refine JT_iconst (v := 0) dX12_read_1 ic_0 ?_
  refine JS_putI dX12_read_2 flX12_1 BS_248 (Nat.le_of_ble_eq_true rfl) (Nat.le_of_ble_eq_true rfl) ct_12_0 ?_
  refine JT_aload_n (q := 0) dX12_read_5 rfl rfl ?_
  refine JT_iload_n (q := 1) dX12_read_6 rfl rfl ?_
  refine JS_callVI (M' := MX12_isDeal) (d' := 1) (As := [.int a1]) (rest := []) (P := (fun zv9 wm9 => (vX12_isDeal (pI s 248 0 (0 : Int32)) a1) = zv9 ∧ (pI s 248 0 (0 : Int32)) = wm9)) dX12_read_7 cvX12_262 okX12_isDeal rfl (Nat.le_of_ble_eq_true rfl) BS_248 (Nat.le_of_ble_eq_true rfl) (Nat.le_of_ble_eq_true rfl) hci_12 (Nat.le_of_ble_eq_true rfl) (Nat.le_of_ble_eq_true rfl) (pX12_isDeal  (a1)  ⟨rfl, rfl⟩) (fun zv9 wm9 hq9 => ?_)
  obtain ⟨rfl, rfl⟩ := hq9
  refine JT_if_eq (tgt := 34) dX12_read_10 (by decide) (fun hc9 => ?_) (fun hc9 => ?_)
  · have h := h.1 hc9
    refine JT_iconst (v := -1) dX12_read_34 ic_m1 ?_
    exact JS_iret dX12_read_35 rfl rfl h
  · have h := h.2 hc9
    refine JT_iload_n (q := 2) dX12_read_13 rfl rfl ?_
    refine JT_iconst (v := 0) dX12_read_14 ic_0 ?_
    refine JT_iconst (v := 1) dX12_read_15 ic_1 ?_
    refine JS_callSI (M' := MX12_isIn) (d' := 0) (As := [.int a2, .int (0 : Int32), .int (1 : Int32)]) (rest := []) (P := (fun zv9 wm9 => (vX12_isIn (pI s 248 0 (0 : Int32)) a2 (0 : Int32) (1 : Int32)) = zv9 ∧ (pI s 248 0 (0 : Int32)) = wm9)) dX12_read_16 cvX12_202 okX12_isIn rfl (Nat.le_of_ble_eq_true rfl) (Nat.le_of_ble_eq_true rfl) (Nat.le_of_ble_eq_true rfl) (pX12_isIn  (a2) ((0 : Int32)) ((1 : Int32))  ⟨rfl, rfl⟩) (fun zv9 wm9 hq9 => ?_)
    obtain ⟨rfl, rfl⟩ := hq9
    refine JT_if_eq (tgt := 34) dX12_read_19 (by decide) (fun hc7 => ?_) (fun hc7 => ?_)
    · have h := h.1 hc7
      refine JT_iconst (v := -1) dX12_read_34 ic_m1 ?_
      exact JS_iret dX12_read_35 rfl rfl h
    · have h := h.2 hc7
      refine JT_aload_n (q := 0) dX12_read_22 rfl rfl ?_
      refine JT_iload_n (q := 1) dX12_read_23 rfl rfl ?_
      refine JT_bipush (v := 6) dX12_read_24 bp_6 ?_
      refine JT_iload_n (q := 2) dX12_read_26 rfl rfl ?_
      refine JT_iadd dX12_read_27 ?_
      obtain ⟨o6, h⟩ := h
      refine JS_callVI (M' := MX12_of) (d' := 0) (As := [.int a1, .int ((6 : Int32) + a2)]) (rest := []) (P := (fun zv9 wm9 => (vX12_of (pI s 248 0 (0 : Int32)) a1 ((6 : Int32) + a2)) = zv9 ∧ (pI s 248 0 (0 : Int32)) = wm9)) dX12_read_28 cvX12_265 okX12_of rfl (Nat.le_of_ble_eq_true rfl) BS_248 (Nat.le_of_ble_eq_true rfl) (Nat.le_of_ble_eq_true rfl) hci_12 (Nat.le_of_ble_eq_true rfl) (Nat.le_of_ble_eq_true rfl) (pX12_of  (a1) (((6 : Int32) + a2)) o6 ⟨rfl, rfl⟩) (fun zv9 wm9 hq9 => ?_)
      obtain ⟨rfl, rfl⟩ := hq9
      refine JT_if_ge (tgt := 36) dX12_read_31 (by decide) (fun hc5 => ?_) (fun hc5 => ?_)
      · have h := h.1 hc5
        refine JT_aload_n (q := 0) dX12_read_36 rfl rfl ?_
        refine JT_iload_n (q := 1) dX12_read_37 rfl rfl ?_
        refine JT_iload_n (q := 2) dX12_read_38 rfl rfl ?_
        refine JT_aload_n (q := 0) dX12_read_39 rfl rfl ?_
        refine JS_callVI (M' := MX12_living) (d' := 0) (As := []) (rest := [.int a2, .int a1, .ref 248]) (P := (fun zv9 wm9 => (vX12_living (pI s 248 0 (0 : Int32)) ) = zv9 ∧ (pI s 248 0 (0 : Int32)) = wm9)) dX12_read_40 cvX12_309 okX12_living rfl (Nat.le_of_ble_eq_true rfl) BS_248 (Nat.le_of_ble_eq_true rfl) (Nat.le_of_ble_eq_true rfl) hci_12 (Nat.le_of_ble_eq_true rfl) (Nat.le_of_ble_eq_true rfl) (pX12_living    ⟨rfl, rfl⟩) (fun zv9 wm9 hq9 => ?_)
        obtain ⟨rfl, rfl⟩ := hq9
        obtain ⟨o3, h⟩ := h
        refine JS_callVI (M' := MX12_isRead) (d' := 1) (As := [.int a1, .int a2, .int (vX12_living (pI s 248 0 (0 : Int32)) )]) (rest := []) (P := (fun zv9 wm9 => (vX12_isRead (pI s 248 0 (0 : Int32)) a1 a2 (vX12_living (pI s 248 0 (0 : Int32)) )) = zv9 ∧ (pI s 248 0 (0 : Int32)) = wm9)) dX12_read_43 cvX12_284 okX12_isRead rfl (Nat.le_of_ble_eq_true rfl) BS_248 (Nat.le_of_ble_eq_true rfl) (Nat.le_of_ble_eq_true rfl) hci_12 (Nat.le_of_ble_eq_true rfl) (Nat.le_of_ble_eq_true rfl) (pX12_isRead  (a1) (a2) ((vX12_living (pI s 248 0 (0 : Int32)) )) o3 ⟨rfl, rfl⟩) (fun zv9 wm9 hq9 => ?_)
        obtain ⟨rfl, rfl⟩ := hq9
        have hj1 : ∀ v : Int32, v = (if (vX12_isRead (pI s 248 0 (0 : Int32)) a1 a2 (vX12_living (pI s 248 0 (0 : Int32)) )) = 0 then (0 : Int32) else (1 : Int32)) → JT MX12_read 2 0 0 54 [(0, .ref 248), (1, .int a1), (2, .int a2)] [.int v] (std (pI s 248 0 (0 : Int32))) (KQ Q) := by
          intro v hv
          subst hv
          exact JS_iret dX12_read_54 rfl rfl h
        refine JT_if_eq (tgt := 53) dX12_read_46 (by decide) (fun hc2 => ?_) (fun hc2 => ?_)
        · refine JT_iconst (v := 0) dX12_read_53 ic_0 ?_
          exact hj1 _ (by rw [if_pos hc2])
        · refine JT_iconst (v := 1) dX12_read_49 ic_1 ?_
          refine JT_goto (tgt := 54) dX12_read_50 (by decide) ?_
          exact hj1 _ (by rw [if_neg hc2])
      · have h := h.2 hc5
        refine JT_iconst (v := -1) dX12_read_34 ic_m1 ?_
        exact JS_iret dX12_read_35 rfl rfl h
set_option maxRecDepth 20000 in
def vX12_read (s : SM) (a1 : Int32) (a2 : Int32) : Int32 := (if (vX12_isDeal (pI s 248 0 (0 : Int32)) a1) = 0 then (-1 : Int32) else (if (vX12_isIn (pI s 248 0 (0 : Int32)) a2 (0 : Int32) (1 : Int32)) = 0 then (-1 : Int32) else (if 0 ≤ (vX12_of (pI s 248 0 (0 : Int32)) a1 ((6 : Int32) + a2)) then (if (vX12_isRead (pI s 248 0 (0 : Int32)) a1 a2 (vX12_living (pI s 248 0 (0 : Int32)) )) = 0 then (0 : Int32) else (1 : Int32)) else (-1 : Int32))))
set_option maxRecDepth 20000 in
def mX12_read (s : SM) (a1 : Int32) (a2 : Int32) : SM := (pI s 248 0 (0 : Int32))
set_option maxRecDepth 20000 in
def rX12_read (s : SM) (a1 : Int32) (a2 : Int32) : Prop := (¬ (vX12_isDeal (pI s 248 0 (0 : Int32)) a1) = 0 → (¬ (vX12_isIn (pI s 248 0 (0 : Int32)) a2 (0 : Int32) (1 : Int32)) = 0 → rX12_of (pI s 248 0 (0 : Int32)) a1 ((6 : Int32) + a2) ∧ (0 ≤ (vX12_of (pI s 248 0 (0 : Int32)) a1 ((6 : Int32) + a2)) → rX12_isRead (pI s 248 0 (0 : Int32)) a1 a2 (vX12_living (pI s 248 0 (0 : Int32)) ))))
set_option maxRecDepth 20000 in
theorem pX12_read (a1 : Int32) (a2 : Int32) {s : SM} {Q : Int32 → SM → Prop} (hr : rX12_read s a1 a2) (h : Q (vX12_read s a1 a2) (mX12_read s a1 a2)) : KI MX12_read 2 [.ref 248, .int a1, .int a2] s Q := by
  refine bX12_read a1 a2 ?_
  unfold rX12_read at hr
  unfold vX12_read mX12_read at h
  refine ⟨fun c => ?_, fun c => ?_⟩
  · try simp only [if_pos c] at h
    first | exact h | contradiction
  · replace hr := hr c
    try simp only [if_neg c] at h
    refine ⟨fun c => ?_, fun c => ?_⟩
    · try simp only [if_pos c] at h
      first | exact h | contradiction
    · replace hr := hr c
      try simp only [if_neg c] at h
      refine ⟨hr.1, ?_⟩
      replace hr := hr.2
      refine ⟨fun c => ?_, fun c => ?_⟩
      · replace hr := hr c
        try simp only [if_pos c] at h
        refine ⟨hr, ?_⟩
        first | exact h | contradiction
      · try simp only [if_neg c] at h
        first | exact h | contradiction
