set_option maxRecDepth 1000000 in
theorem bX12_isRingDeal (a1 : Int32) {s : SM} {Q : Int32 → SM → Prop} (h : rX12_isOpen s a1 ∧ (((vX12_isOpen s a1) = 0 → Q (0 : Int32) s) ∧ (¬ (vX12_isOpen s a1) = 0 → rX12_sortOf s a1 ∧ (((vX12_sortOf s a1) = 0 → Q (1 : Int32) s) ∧ (¬ (vX12_sortOf s a1) = 0 → rX12_sortOf s a1 ∧ Q (if (vX12_sortOf s a1) = (4 : Int32) then (1 : Int32) else (0 : Int32)) s))))) : KI MX12_isRingDeal 3 [.ref 248, .int a1] s Q := by
  show BI MX12_isRingDeal 3 0 [(0, .ref 248), (1, .int a1)] s Q
  refine JT_aload_n (q := 0) dX12_isRingDeal_0 rfl rfl ?_
  refine JT_iload_n (q := 1) dX12_isRingDeal_1 rfl rfl ?_
  obtain ⟨o7, h⟩ := h
  refine JS_callVI (M' := MX12_isOpen) (d' := 2) (As := [.int a1]) (rest := []) (P := (fun zv9 wm9 => (vX12_isOpen s a1) = zv9 ∧ s = wm9)) dX12_isRingDeal_2 cvX12_278 okX12_isOpen rfl (Nat.le_of_ble_eq_true rfl) BS_248 (Nat.le_of_ble_eq_true rfl) (Nat.le_of_ble_eq_true rfl) hci_12 (Nat.le_of_ble_eq_true rfl) (Nat.le_of_ble_eq_true rfl) (pX12_isOpen  (a1) o7 ⟨rfl, rfl⟩) (fun zv9 wm9 hq9 => ?_)
  obtain ⟨rfl, rfl⟩ := hq9
  refine JT_if_eq (tgt := 29) dX12_isRingDeal_5 (by decide) (fun hc6 => ?_) (fun hc6 => ?_)
  · have h := h.1 hc6
    refine JT_iconst (v := 0) dX12_isRingDeal_29 ic_0 ?_
    exact JS_iret dX12_isRingDeal_30 rfl (n01 (Or.inl rfl)) h
  · have h := h.2 hc6
    refine JT_aload_n (q := 0) dX12_isRingDeal_8 rfl rfl ?_
    refine JT_iload_n (q := 1) dX12_isRingDeal_9 rfl rfl ?_
    obtain ⟨o5, h⟩ := h
    refine JS_callVI (M' := MX12_sortOf) (d' := 1) (As := [.int a1]) (rest := []) (P := (fun zv9 wm9 => (vX12_sortOf s a1) = zv9 ∧ s = wm9)) dX12_isRingDeal_10 cvX12_272 okX12_sortOf rfl (Nat.le_of_ble_eq_true rfl) BS_248 (Nat.le_of_ble_eq_true rfl) (Nat.le_of_ble_eq_true rfl) hci_12 (Nat.le_of_ble_eq_true rfl) (Nat.le_of_ble_eq_true rfl) (pX12_sortOf  (a1) o5 ⟨rfl, rfl⟩) (fun zv9 wm9 hq9 => ?_)
    obtain ⟨rfl, rfl⟩ := hq9
    refine JT_if_eq (tgt := 25) dX12_isRingDeal_13 (by decide) (fun hc4 => ?_) (fun hc4 => ?_)
    · have h := h.1 hc4
      refine JT_iconst (v := 1) dX12_isRingDeal_25 ic_1 ?_
      refine JT_goto (tgt := 30) dX12_isRingDeal_26 (by decide) ?_
      exact JS_iret dX12_isRingDeal_30 rfl (n01 (Or.inr rfl)) h
    · have h := h.2 hc4
      refine JT_aload_n (q := 0) dX12_isRingDeal_16 rfl rfl ?_
      refine JT_iload_n (q := 1) dX12_isRingDeal_17 rfl rfl ?_
      obtain ⟨o3, h⟩ := h
      refine JS_callVI (M' := MX12_sortOf) (d' := 1) (As := [.int a1]) (rest := []) (P := (fun zv9 wm9 => (vX12_sortOf s a1) = zv9 ∧ s = wm9)) dX12_isRingDeal_18 cvX12_272 okX12_sortOf rfl (Nat.le_of_ble_eq_true rfl) BS_248 (Nat.le_of_ble_eq_true rfl) (Nat.le_of_ble_eq_true rfl) hci_12 (Nat.le_of_ble_eq_true rfl) (Nat.le_of_ble_eq_true rfl) (pX12_sortOf  (a1) o3 ⟨rfl, rfl⟩) (fun zv9 wm9 hq9 => ?_)
      obtain ⟨rfl, rfl⟩ := hq9
      refine JT_iconst (v := 4) dX12_isRingDeal_21 ic_4 ?_
      have hj1 : ∀ v : Int32, v = (if (vX12_sortOf s a1) = (4 : Int32) then (1 : Int32) else (0 : Int32)) → JT MX12_isRingDeal 3 0 0 30 [(0, .ref 248), (1, .int a1)] [.int v] (std s) (KQ Q) := by
        intro v hv
        subst hv
        exact JS_iret dX12_isRingDeal_30 rfl (n01 (i01 (Or.inr rfl) (Or.inl rfl))) h
      refine JT_icmp_ne (tgt := 29) dX12_isRingDeal_22 (by decide) (fun hc2 => ?_) (fun hc2 => ?_)
      · refine JT_iconst (v := 0) dX12_isRingDeal_29 ic_0 ?_
        exact hj1 _ (by rw [if_neg hc2])
      · refine JT_iconst (v := 1) dX12_isRingDeal_25 ic_1 ?_
        refine JT_goto (tgt := 30) dX12_isRingDeal_26 (by decide) ?_
        exact hj1 _ (by rw [if_pos hc2])
set_option maxRecDepth 1000000 in
theorem zX12_isRingDeal (s : SM) (a1 : Int32) : vX12_isRingDeal s a1 = 0 ∨ vX12_isRingDeal s a1 = 1 := (i01 (Or.inl rfl) (i01 (Or.inr rfl) (i01 (Or.inr rfl) (Or.inl rfl))))
set_option maxRecDepth 1000000 in
theorem pX12_isRingDeal (a1 : Int32) {s : SM} {Q : Int32 → SM → Prop} (hr : rX12_isRingDeal s a1) (h : Q (vX12_isRingDeal s a1) s) : KI MX12_isRingDeal 3 [.ref 248, .int a1] s Q := by
  refine bX12_isRingDeal a1 ?_
  unfold rX12_isRingDeal at hr
  unfold vX12_isRingDeal at h
  refine ⟨hr.1, ?_⟩
  replace hr := hr.2
  refine ⟨fun c => ?_, fun c => ?_⟩
  · replace h := qlp c h
    first | exact h | contradiction
  · replace hr := hr c
    replace h := qln c h
    refine ⟨hr.1, ?_⟩
    replace hr := hr.2
    refine ⟨fun c => ?_, fun c => ?_⟩
    · replace h := qlp c h
      first | exact h | contradiction
    · replace hr := hr c
      replace h := qln c h
      refine ⟨hr, ?_⟩
      first | exact h | contradiction
set_option maxRecDepth 1000000 in
theorem bX12_latestFrom_4 (a1 : Int32) (a2 : Int32) (a3 : Int32) {s : SM} {Q : Int32 → SM → Prop} (h : (((gI s 250 ((34 : Int32)).toNatClampNeg) ≤ a3 → Q a2 s) ∧ (¬ (gI s 250 ((34 : Int32)).toNatClampNeg) ≤ a3 → rX12_isOpen s a3 ∧ BI MX12_latestFrom 3 4 [(0, .ref 248), (1, .int a1), (2, .int (if (vX12_isOpen s a3) = 0 then a2 else a3)), (3, .int (a3 + 1))] s Q))) : BI MX12_latestFrom 3 4 [(0, .ref 248), (1, .int a1), (2, .int a2), (3, .int a3)] s Q := by
  refine JT_iload_n (q := 3) dX12_latestFrom_4 rfl rfl ?_
  refine JT_aload_n (q := 0) dX12_latestFrom_5 rfl rfl ?_
  refine JS_getR (x := 250) dX12_latestFrom_6 flX12_33 BS_248 (Nat.le_of_ble_eq_true rfl) (Nat.le_of_ble_eq_true rfl) (Or.inr ⟨_, ct_12_6⟩) RF_248_6 ?_
  refine JT_bipush (v := 34) dX12_latestFrom_9 bp_34 ?_
  refine JS_iald dX12_latestFrom_11 BS_250 (Nat.le_of_ble_eq_true rfl) (Nat.le_of_ble_eq_true rfl) (by unfold vp_in; decide) ?_
  refine JT_icmp_ge (tgt := 35) dX12_latestFrom_12 (by decide) (fun hc4 => ?_) (fun hc4 => ?_)
  · have h := h.1 hc4
    refine JT_iload_n (q := 2) dX12_latestFrom_35 rfl rfl ?_
    exact JS_iret dX12_latestFrom_36 rfl rfl h
  · have h := h.2 hc4
    refine JT_aload_n (q := 0) dX12_latestFrom_15 rfl rfl ?_
    refine JT_iload_n (q := 3) dX12_latestFrom_16 rfl rfl ?_
    obtain ⟨o3, h⟩ := h
    refine JS_callVI (M' := MX12_isOpen) (d' := 2) (As := [.int a3]) (rest := []) (P := (fun zv9 wm9 => (vX12_isOpen s a3) = zv9 ∧ s = wm9)) dX12_latestFrom_17 cvX12_278 okX12_isOpen rfl (Nat.le_of_ble_eq_true rfl) BS_248 (Nat.le_of_ble_eq_true rfl) (Nat.le_of_ble_eq_true rfl) hci_12 (Nat.le_of_ble_eq_true rfl) (Nat.le_of_ble_eq_true rfl) (pX12_isOpen  (a3) o3 ⟨rfl, rfl⟩) (fun zv9 wm9 hq9 => ?_)
    obtain ⟨rfl, rfl⟩ := hq9
    have hj1 : ∀ v : Int32, v = (if (vX12_isOpen s a3) = 0 then a2 else a3) → JT MX12_latestFrom 3 0 0 28 [(0, .ref 248), (1, .int a1), (2, .int a2), (3, .int a3)] [.int v] (std s) (KQ Q) := by
      intro v hv
      subst hv
      refine JT_istore_n (lv' := [(2, .int (if (vX12_isOpen s a3) = 0 then a2 else a3)), (0, .ref 248), (1, .int a1), (3, .int a3)]) dX12_latestFrom_28 rfl (Nat.le_of_ble_eq_true rfl) rfl ?_
      refine JT_iinc (q := 3) (v := (a3 + 1)) (lv' := [(3, .int (a3 + 1)), (2, .int (if (vX12_isOpen s a3) = 0 then a2 else a3)), (0, .ref 248), (1, .int a1)]) dX12_latestFrom_29 rfl (by rfl) (Nat.le_of_ble_eq_true rfl) rfl ?_
      refine JT_goto (tgt := 4) dX12_latestFrom_32 (by decide) ?_
      exact JT_sub [2, 3, 1, 0] rfl h
    refine JT_if_eq (tgt := 27) dX12_latestFrom_20 (by decide) (fun hc2 => ?_) (fun hc2 => ?_)
    · refine JT_iload_n (q := 2) dX12_latestFrom_27 rfl rfl ?_
      exact hj1 _ (by rw [if_pos hc2])
    · refine JT_iload_n (q := 3) dX12_latestFrom_23 rfl rfl ?_
      refine JT_goto (tgt := 28) dX12_latestFrom_24 (by decide) ?_
      exact hj1 _ (by rw [if_neg hc2])
set_option maxRecDepth 1000000 in
theorem bX12_latestFrom (a1 : Int32) {s : SM} {Q : Int32 → SM → Prop} (h : BI MX12_latestFrom 3 4 [(0, .ref 248), (1, .int a1), (2, .int (-1 : Int32)), (3, .int a1)] s Q) : KI MX12_latestFrom 3 [.ref 248, .int a1] s Q := by
  show BI MX12_latestFrom 3 0 [(0, .ref 248), (1, .int a1)] s Q
  refine JT_iconst (v := -1) dX12_latestFrom_0 ic_m1 ?_
  refine JT_istore_n (lv' := [(2, .int (-1 : Int32)), (0, .ref 248), (1, .int a1)]) dX12_latestFrom_1 rfl (Nat.le_of_ble_eq_true rfl) rfl ?_
  refine JT_iload_n (q := 2) dX12_latestFrom_2 rfl rfl ?_
  refine JT_istore_n (lv' := [(3, .int a1), (2, .int (-1 : Int32)), (0, .ref 248), (1, .int a1)]) dX12_latestFrom_3 rfl (Nat.le_of_ble_eq_true rfl) rfl ?_
  exact JT_sub [2, 3, 1, 0] rfl h
set_option maxRecDepth 1000000 in
theorem gX12_latestFrom  : ∀ n : Nat, (∀ (a1 : Int32) (a2 : Int32) (a3 : Int32) (s : SM) (Q : Int32 → SM → Prop), ((qX12_latestFrom n) s a1 a2 a3) → Q ((lX12_latestFrom n) s a1 a2 a3) s → BI MX12_latestFrom 3 4 [(0, .ref 248), (1, .int a1), (2, .int a2), (3, .int a3)] s Q) := by
  intro n
  induction n with
  | zero => exact fun _ _ _ _ _ hq _ => absurd hq id
  | succ n ih =>
    intro a1 a2 a3 s Q hr h
    replace hr : uX12_latestFrom_4 (qX12_latestFrom n) s a1 a2 a3 := hr
    replace h : Q (tX12_latestFrom_4 (lX12_latestFrom n) s a1 a2 a3) s := h
    unfold uX12_latestFrom_4 at hr
    unfold tX12_latestFrom_4 at h
    refine bX12_latestFrom_4 a1 a2 a3 ?_
    refine ⟨fun c => ?_, fun c => ?_⟩
    · replace h := qlp c h
      first | exact h | contradiction
    · replace hr := hr c
      replace h := qln c h
      refine ⟨hr.1, ?_⟩
      replace hr := hr.2
      first | exact ih a1 (if (vX12_isOpen s a3) = 0 then a2 else a3) (a3 + 1) _ Q hr h | contradiction
set_option maxRecDepth 1000000 in
theorem pX12_latestFrom (a1 : Int32) {s : SM} {Q : Int32 → SM → Prop} (hr : rX12_latestFrom s a1) (h : Q (vX12_latestFrom s a1) s) : KI MX12_latestFrom 3 [.ref 248, .int a1] s Q := by
  replace h : Q (fX12_latestFrom s a1) s := h
  unfold rX12_latestFrom at hr
  unfold fX12_latestFrom at h
  refine bX12_latestFrom a1 ?_
  first | exact (gX12_latestFrom  FU) a1 (-1 : Int32) a1 _ Q hr h | contradiction
set_option maxRecDepth 1000000 in
theorem bX12_netOf_4 (a1 : Int32) (a2 : Int32) (a3 : Int32) {s : SM} {Q : Int32 → SM → Prop} (h : (((gI s 250 ((34 : Int32)).toNatClampNeg) ≤ a3 → Q a2 s) ∧ (¬ (gI s 250 ((34 : Int32)).toNatClampNeg) ≤ a3 → rX12_isOpen s a3 ∧ ((¬ (vX12_isOpen s a3) = 0 → rX12_of s a3 (0 : Int32) ∧ ((¬ (vX12_of s a3 (0 : Int32)) = a1 → rX12_of s a3 (1 : Int32) ∧ ((¬ (vX12_of s a3 (1 : Int32)) = a1 → BI MX12_netOf 3 4 [(0, .ref 248), (1, .int a1), (2, .int ((a2 + (0 : Int32)) - (0 : Int32))), (3, .int (a3 + 1))] s Q) ∧ ((vX12_of s a3 (1 : Int32)) = a1 → rX12_valueOf s a3 ∧ BI MX12_netOf 3 4 [(0, .ref 248), (1, .int a1), (2, .int ((a2 + (0 : Int32)) - (vX12_valueOf s a3))), (3, .int (a3 + 1))] s Q))) ∧ ((vX12_of s a3 (0 : Int32)) = a1 → rX12_valueOf s a3 ∧ rX12_of s a3 (1 : Int32) ∧ ((¬ (vX12_of s a3 (1 : Int32)) = a1 → BI MX12_netOf 3 4 [(0, .ref 248), (1, .int a1), (2, .int ((a2 + (vX12_valueOf s a3)) - (0 : Int32))), (3, .int (a3 + 1))] s Q) ∧ ((vX12_of s a3 (1 : Int32)) = a1 → rX12_valueOf s a3 ∧ BI MX12_netOf 3 4 [(0, .ref 248), (1, .int a1), (2, .int ((a2 + (vX12_valueOf s a3)) - (vX12_valueOf s a3))), (3, .int (a3 + 1))] s Q))))) ∧ ((vX12_isOpen s a3) = 0 → BI MX12_netOf 3 4 [(0, .ref 248), (1, .int a1), (2, .int a2), (3, .int (a3 + 1))] s Q))))) : BI MX12_netOf 3 4 [(0, .ref 248), (1, .int a1), (2, .int a2), (3, .int a3)] s Q := by
  refine JT_iload_n (q := 3) dX12_netOf_4 rfl rfl ?_
  refine JT_aload_n (q := 0) dX12_netOf_5 rfl rfl ?_
  refine JS_getR (x := 250) dX12_netOf_6 flX12_33 BS_248 (Nat.le_of_ble_eq_true rfl) (Nat.le_of_ble_eq_true rfl) (Or.inr ⟨_, ct_12_6⟩) RF_248_6 ?_
  refine JT_bipush (v := 34) dX12_netOf_9 bp_34 ?_
  refine JS_iald dX12_netOf_11 BS_250 (Nat.le_of_ble_eq_true rfl) (Nat.le_of_ble_eq_true rfl) (by unfold vp_in; decide) ?_
  refine JT_icmp_ge (tgt := 76) dX12_netOf_12 (by decide) (fun hc12 => ?_) (fun hc12 => ?_)
  · have h := h.1 hc12
    refine JT_iload_n (q := 2) dX12_netOf_76 rfl rfl ?_
    exact JS_iret dX12_netOf_77 rfl rfl h
  · have h := h.2 hc12
    refine JT_aload_n (q := 0) dX12_netOf_15 rfl rfl ?_
    refine JT_iload_n (q := 3) dX12_netOf_16 rfl rfl ?_
    obtain ⟨o11, h⟩ := h
    refine JS_callVI (M' := MX12_isOpen) (d' := 2) (As := [.int a3]) (rest := []) (P := (fun zv9 wm9 => (vX12_isOpen s a3) = zv9 ∧ s = wm9)) dX12_netOf_17 cvX12_278 okX12_isOpen rfl (Nat.le_of_ble_eq_true rfl) BS_248 (Nat.le_of_ble_eq_true rfl) (Nat.le_of_ble_eq_true rfl) hci_12 (Nat.le_of_ble_eq_true rfl) (Nat.le_of_ble_eq_true rfl) (pX12_isOpen  (a3) o11 ⟨rfl, rfl⟩) (fun zv9 wm9 hq9 => ?_)
    obtain ⟨rfl, rfl⟩ := hq9
    refine JT_if_ne (tgt := 26) dX12_netOf_20 (by decide) (fun hc10 => ?_) (fun hc10 => ?_)
    · have h := h.1 hc10
      refine JT_iload_n (q := 2) dX12_netOf_26 rfl rfl ?_
      refine JT_aload_n (q := 0) dX12_netOf_27 rfl rfl ?_
      refine JT_iload_n (q := 3) dX12_netOf_28 rfl rfl ?_
      refine JT_iconst (v := 0) dX12_netOf_29 ic_0 ?_
      obtain ⟨o9, h⟩ := h
      refine JS_callVI (M' := MX12_of) (d' := 0) (As := [.int a3, .int (0 : Int32)]) (rest := [.int a2]) (P := (fun zv9 wm9 => (vX12_of s a3 (0 : Int32)) = zv9 ∧ s = wm9)) dX12_netOf_30 cvX12_265 okX12_of rfl (Nat.le_of_ble_eq_true rfl) BS_248 (Nat.le_of_ble_eq_true rfl) (Nat.le_of_ble_eq_true rfl) hci_12 (Nat.le_of_ble_eq_true rfl) (Nat.le_of_ble_eq_true rfl) (pX12_of  (a3) ((0 : Int32)) o9 ⟨rfl, rfl⟩) (fun zv9 wm9 hq9 => ?_)
      obtain ⟨rfl, rfl⟩ := hq9
      refine JT_iload_n (q := 1) dX12_netOf_33 rfl rfl ?_
      refine JT_icmp_ne (tgt := 45) dX12_netOf_34 (by decide) (fun hc8 => ?_) (fun hc8 => ?_)
      · have h := h.1 hc8
        refine JT_iconst (v := 0) dX12_netOf_45 ic_0 ?_
        refine JT_iadd dX12_netOf_46 ?_
        refine JT_istore_n (lv' := [(2, .int (a2 + (0 : Int32))), (0, .ref 248), (1, .int a1), (3, .int a3)]) dX12_netOf_47 rfl (Nat.le_of_ble_eq_true rfl) rfl ?_
        refine JT_iload_n (q := 0) dX12_netOf_48 rfl rfl ?_
        refine JT_aload_n (q := 1) dX12_netOf_49 rfl rfl ?_
        refine JT_iload_n (q := 3) dX12_netOf_50 rfl rfl ?_
        refine JT_iconst (v := 1) dX12_netOf_51 ic_1 ?_
        obtain ⟨o3, h⟩ := h
        refine JS_callVI (M' := MX12_of) (d' := 0) (As := [.int a3, .int (1 : Int32)]) (rest := [.int (a2 + (0 : Int32))]) (P := (fun zv9 wm9 => (vX12_of s a3 (1 : Int32)) = zv9 ∧ s = wm9)) dX12_netOf_52 cvX12_265 okX12_of rfl (Nat.le_of_ble_eq_true rfl) BS_248 (Nat.le_of_ble_eq_true rfl) (Nat.le_of_ble_eq_true rfl) hci_12 (Nat.le_of_ble_eq_true rfl) (Nat.le_of_ble_eq_true rfl) (pX12_of  (a3) ((1 : Int32)) o3 ⟨rfl, rfl⟩) (fun zv9 wm9 hq9 => ?_)
        obtain ⟨rfl, rfl⟩ := hq9
        refine JT_iload_n (q := 2) dX12_netOf_55 rfl rfl ?_
        refine JT_icmp_ne (tgt := 67) dX12_netOf_56 (by decide) (fun hc2 => ?_) (fun hc2 => ?_)
        · have h := h.1 hc2
          refine JT_iconst (v := 0) dX12_netOf_67 ic_0 ?_
          refine JT_isub dX12_netOf_68 ?_
          refine JT_istore_n (lv' := [(2, .int ((a2 + (0 : Int32)) - (0 : Int32))), (0, .ref 248), (1, .int a1), (3, .int a3)]) dX12_netOf_69 rfl (Nat.le_of_ble_eq_true rfl) rfl ?_
          refine JT_iinc (q := 3) (v := (a3 + 1)) (lv' := [(3, .int (a3 + 1)), (2, .int ((a2 + (0 : Int32)) - (0 : Int32))), (0, .ref 248), (1, .int a1)]) dX12_netOf_70 rfl (by rfl) (Nat.le_of_ble_eq_true rfl) rfl ?_
          refine JT_goto (tgt := 4) dX12_netOf_73 (by decide) ?_
          exact JT_sub [2, 3, 1, 0] rfl h
        · have h := h.2 hc2
          refine JT_aload_n (q := 1) dX12_netOf_59 rfl rfl ?_
          refine JT_iload_n (q := 3) dX12_netOf_60 rfl rfl ?_
          obtain ⟨o1, h⟩ := h
          refine JS_callVI (M' := MX12_valueOf) (d' := 2) (As := [.int a3]) (rest := [.int (a2 + (0 : Int32))]) (P := (fun zv9 wm9 => (vX12_valueOf s a3) = zv9 ∧ s = wm9)) dX12_netOf_61 cvX12_281 okX12_valueOf rfl (Nat.le_of_ble_eq_true rfl) BS_248 (Nat.le_of_ble_eq_true rfl) (Nat.le_of_ble_eq_true rfl) hci_12 (Nat.le_of_ble_eq_true rfl) (Nat.le_of_ble_eq_true rfl) (pX12_valueOf  (a3) o1 ⟨rfl, rfl⟩) (fun zv9 wm9 hq9 => ?_)
          obtain ⟨rfl, rfl⟩ := hq9
          refine JT_goto (tgt := 68) dX12_netOf_64 (by decide) ?_
          refine JT_isub dX12_netOf_68 ?_
          refine JT_istore_n (lv' := [(2, .int ((a2 + (0 : Int32)) - (vX12_valueOf s a3))), (0, .ref 248), (1, .int a1), (3, .int a3)]) dX12_netOf_69 rfl (Nat.le_of_ble_eq_true rfl) rfl ?_
          refine JT_iinc (q := 3) (v := (a3 + 1)) (lv' := [(3, .int (a3 + 1)), (2, .int ((a2 + (0 : Int32)) - (vX12_valueOf s a3))), (0, .ref 248), (1, .int a1)]) dX12_netOf_70 rfl (by rfl) (Nat.le_of_ble_eq_true rfl) rfl ?_
          refine JT_goto (tgt := 4) dX12_netOf_73 (by decide) ?_
          exact JT_sub [2, 3, 1, 0] rfl h
      · have h := h.2 hc8
        refine JT_aload_n (q := 0) dX12_netOf_37 rfl rfl ?_
        refine JT_iload_n (q := 3) dX12_netOf_38 rfl rfl ?_
        obtain ⟨o7, h⟩ := h
        refine JS_callVI (M' := MX12_valueOf) (d' := 2) (As := [.int a3]) (rest := [.int a2]) (P := (fun zv9 wm9 => (vX12_valueOf s a3) = zv9 ∧ s = wm9)) dX12_netOf_39 cvX12_281 okX12_valueOf rfl (Nat.le_of_ble_eq_true rfl) BS_248 (Nat.le_of_ble_eq_true rfl) (Nat.le_of_ble_eq_true rfl) hci_12 (Nat.le_of_ble_eq_true rfl) (Nat.le_of_ble_eq_true rfl) (pX12_valueOf  (a3) o7 ⟨rfl, rfl⟩) (fun zv9 wm9 hq9 => ?_)
        obtain ⟨rfl, rfl⟩ := hq9
        refine JT_goto (tgt := 46) dX12_netOf_42 (by decide) ?_
        refine JT_iadd dX12_netOf_46 ?_
        refine JT_istore_n (lv' := [(2, .int (a2 + (vX12_valueOf s a3))), (0, .ref 248), (1, .int a1), (3, .int a3)]) dX12_netOf_47 rfl (Nat.le_of_ble_eq_true rfl) rfl ?_
        refine JT_iload_n (q := 0) dX12_netOf_48 rfl rfl ?_
        refine JT_aload_n (q := 1) dX12_netOf_49 rfl rfl ?_
        refine JT_iload_n (q := 3) dX12_netOf_50 rfl rfl ?_
        refine JT_iconst (v := 1) dX12_netOf_51 ic_1 ?_
        obtain ⟨o6, h⟩ := h
        refine JS_callVI (M' := MX12_of) (d' := 0) (As := [.int a3, .int (1 : Int32)]) (rest := [.int (a2 + (vX12_valueOf s a3))]) (P := (fun zv9 wm9 => (vX12_of s a3 (1 : Int32)) = zv9 ∧ s = wm9)) dX12_netOf_52 cvX12_265 okX12_of rfl (Nat.le_of_ble_eq_true rfl) BS_248 (Nat.le_of_ble_eq_true rfl) (Nat.le_of_ble_eq_true rfl) hci_12 (Nat.le_of_ble_eq_true rfl) (Nat.le_of_ble_eq_true rfl) (pX12_of  (a3) ((1 : Int32)) o6 ⟨rfl, rfl⟩) (fun zv9 wm9 hq9 => ?_)
        obtain ⟨rfl, rfl⟩ := hq9
        refine JT_iload_n (q := 2) dX12_netOf_55 rfl rfl ?_
        refine JT_icmp_ne (tgt := 67) dX12_netOf_56 (by decide) (fun hc5 => ?_) (fun hc5 => ?_)
        · have h := h.1 hc5
          refine JT_iconst (v := 0) dX12_netOf_67 ic_0 ?_
          refine JT_isub dX12_netOf_68 ?_
          refine JT_istore_n (lv' := [(2, .int ((a2 + (vX12_valueOf s a3)) - (0 : Int32))), (0, .ref 248), (1, .int a1), (3, .int a3)]) dX12_netOf_69 rfl (Nat.le_of_ble_eq_true rfl) rfl ?_
          refine JT_iinc (q := 3) (v := (a3 + 1)) (lv' := [(3, .int (a3 + 1)), (2, .int ((a2 + (vX12_valueOf s a3)) - (0 : Int32))), (0, .ref 248), (1, .int a1)]) dX12_netOf_70 rfl (by rfl) (Nat.le_of_ble_eq_true rfl) rfl ?_
          refine JT_goto (tgt := 4) dX12_netOf_73 (by decide) ?_
          exact JT_sub [2, 3, 1, 0] rfl h
        · have h := h.2 hc5
          refine JT_aload_n (q := 1) dX12_netOf_59 rfl rfl ?_
          refine JT_iload_n (q := 3) dX12_netOf_60 rfl rfl ?_
          obtain ⟨o4, h⟩ := h
          refine JS_callVI (M' := MX12_valueOf) (d' := 2) (As := [.int a3]) (rest := [.int (a2 + (vX12_valueOf s a3))]) (P := (fun zv9 wm9 => (vX12_valueOf s a3) = zv9 ∧ s = wm9)) dX12_netOf_61 cvX12_281 okX12_valueOf rfl (Nat.le_of_ble_eq_true rfl) BS_248 (Nat.le_of_ble_eq_true rfl) (Nat.le_of_ble_eq_true rfl) hci_12 (Nat.le_of_ble_eq_true rfl) (Nat.le_of_ble_eq_true rfl) (pX12_valueOf  (a3) o4 ⟨rfl, rfl⟩) (fun zv9 wm9 hq9 => ?_)
          obtain ⟨rfl, rfl⟩ := hq9
          refine JT_goto (tgt := 68) dX12_netOf_64 (by decide) ?_
          refine JT_isub dX12_netOf_68 ?_
          refine JT_istore_n (lv' := [(2, .int ((a2 + (vX12_valueOf s a3)) - (vX12_valueOf s a3))), (0, .ref 248), (1, .int a1), (3, .int a3)]) dX12_netOf_69 rfl (Nat.le_of_ble_eq_true rfl) rfl ?_
          refine JT_iinc (q := 3) (v := (a3 + 1)) (lv' := [(3, .int (a3 + 1)), (2, .int ((a2 + (vX12_valueOf s a3)) - (vX12_valueOf s a3))), (0, .ref 248), (1, .int a1)]) dX12_netOf_70 rfl (by rfl) (Nat.le_of_ble_eq_true rfl) rfl ?_
          refine JT_goto (tgt := 4) dX12_netOf_73 (by decide) ?_
          exact JT_sub [2, 3, 1, 0] rfl h
    · have h := h.2 hc10
      refine JT_goto (tgt := 70) dX12_netOf_23 (by decide) ?_
      refine JT_iinc (q := 3) (v := (a3 + 1)) (lv' := [(3, .int (a3 + 1)), (0, .ref 248), (1, .int a1), (2, .int a2)]) dX12_netOf_70 rfl (by rfl) (Nat.le_of_ble_eq_true rfl) rfl ?_
      refine JT_goto (tgt := 4) dX12_netOf_73 (by decide) ?_
      exact JT_sub [1, 2, 3, 0] rfl h
set_option maxRecDepth 1000000 in
theorem bX12_netOf (a1 : Int32) {s : SM} {Q : Int32 → SM → Prop} (h : BI MX12_netOf 3 4 [(0, .ref 248), (1, .int a1), (2, .int (0 : Int32)), (3, .int (0 : Int32))] s Q) : KI MX12_netOf 3 [.ref 248, .int a1] s Q := by
  show BI MX12_netOf 3 0 [(0, .ref 248), (1, .int a1)] s Q
  refine JT_iconst (v := 0) dX12_netOf_0 ic_0 ?_
  refine JT_istore_n (lv' := [(2, .int (0 : Int32)), (0, .ref 248), (1, .int a1)]) dX12_netOf_1 rfl (Nat.le_of_ble_eq_true rfl) rfl ?_
  refine JT_iconst (v := 0) dX12_netOf_2 ic_0 ?_
  refine JT_istore_n (lv' := [(3, .int (0 : Int32)), (2, .int (0 : Int32)), (0, .ref 248), (1, .int a1)]) dX12_netOf_3 rfl (Nat.le_of_ble_eq_true rfl) rfl ?_
  exact JT_sub [2, 3, 1, 0] rfl h
set_option maxRecDepth 1000000 in
theorem gX12_netOf  : ∀ n : Nat, (∀ (a1 : Int32) (a2 : Int32) (a3 : Int32) (s : SM) (Q : Int32 → SM → Prop), ((qX12_netOf n) s a1 a2 a3) → Q ((lX12_netOf n) s a1 a2 a3) s → BI MX12_netOf 3 4 [(0, .ref 248), (1, .int a1), (2, .int a2), (3, .int a3)] s Q) := by
  intro n
  induction n with
  | zero => exact fun _ _ _ _ _ hq _ => absurd hq id
  | succ n ih =>
    intro a1 a2 a3 s Q hr h
    replace hr : uX12_netOf_4 (qX12_netOf n) s a1 a2 a3 := hr
    replace h : Q (tX12_netOf_4 (lX12_netOf n) s a1 a2 a3) s := h
    unfold uX12_netOf_4 at hr
    unfold tX12_netOf_4 at h
    refine bX12_netOf_4 a1 a2 a3 ?_
    refine ⟨fun c => ?_, fun c => ?_⟩
    · replace h := qlp c h
      first | exact h | contradiction
    · replace hr := hr c
      replace h := qln c h
      refine ⟨hr.1, ?_⟩
      replace hr := hr.2
      refine ⟨fun c => ?_, fun c => ?_⟩
      · replace hr := hr.1 c
        replace h := qln c h
        refine ⟨hr.1, ?_⟩
        replace hr := hr.2
        refine ⟨fun c => ?_, fun c => ?_⟩
        · replace hr := hr.1 c
          replace h := qln c h
          refine ⟨hr.1, ?_⟩
          replace hr := hr.2
          refine ⟨fun c => ?_, fun c => ?_⟩
          · replace hr := hr.1 c
            replace h := qln c h
            first | exact ih a1 ((a2 + (0 : Int32)) - (0 : Int32)) (a3 + 1) _ Q hr h | contradiction
          · replace hr := hr.2 c
            replace h := qlp c h
            refine ⟨hr.1, ?_⟩
            replace hr := hr.2
            first | exact ih a1 ((a2 + (0 : Int32)) - (vX12_valueOf s a3)) (a3 + 1) _ Q hr h | contradiction
        · replace hr := hr.2 c
          replace h := qlp c h
          refine ⟨hr.1, ?_⟩
          replace hr := hr.2
          refine ⟨hr.1, ?_⟩
          replace hr := hr.2
          refine ⟨fun c => ?_, fun c => ?_⟩
          · replace hr := hr.1 c
            replace h := qln c h
            first | exact ih a1 ((a2 + (vX12_valueOf s a3)) - (0 : Int32)) (a3 + 1) _ Q hr h | contradiction
          · replace hr := hr.2 c
            replace h := qlp c h
            refine ⟨hr.1, ?_⟩
            replace hr := hr.2
            first | exact ih a1 ((a2 + (vX12_valueOf s a3)) - (vX12_valueOf s a3)) (a3 + 1) _ Q hr h | contradiction
      · replace hr := hr.2 c
        replace h := qlp c h
        first | exact ih a1 a2 (a3 + 1) _ Q hr h | contradiction
set_option maxRecDepth 1000000 in
theorem pX12_netOf (a1 : Int32) {s : SM} {Q : Int32 → SM → Prop} (hr : rX12_netOf s a1) (h : Q (vX12_netOf s a1) s) : KI MX12_netOf 3 [.ref 248, .int a1] s Q := by
  replace h : Q (fX12_netOf s a1) s := h
  unfold rX12_netOf at hr
  unfold fX12_netOf at h
  refine bX12_netOf a1 ?_
  first | exact (gX12_netOf  FU) a1 (0 : Int32) (0 : Int32) _ Q hr h | contradiction
set_option maxRecDepth 1000000 in
theorem bX12_openMany_4 (a1 : Int32) (a2 : Int32) {s : SM} {Q : Int32 → SM → Prop} (h : (((gI s 250 ((34 : Int32)).toNatClampNeg) ≤ a2 → Q a1 s) ∧ (¬ (gI s 250 ((34 : Int32)).toNatClampNeg) ≤ a2 → rX12_isOpen s a2 ∧ BI MX12_openMany 3 4 [(0, .ref 248), (1, .int (a1 + (if (vX12_isOpen s a2) = 0 then (0 : Int32) else (1 : Int32)))), (2, .int (a2 + 1))] s Q))) : BI MX12_openMany 3 4 [(0, .ref 248), (1, .int a1), (2, .int a2)] s Q := by
  refine JT_iload_n (q := 2) dX12_openMany_4 rfl rfl ?_
  refine JT_aload_n (q := 0) dX12_openMany_5 rfl rfl ?_
  refine JS_getR (x := 250) dX12_openMany_6 flX12_33 BS_248 (Nat.le_of_ble_eq_true rfl) (Nat.le_of_ble_eq_true rfl) (Or.inr ⟨_, ct_12_6⟩) RF_248_6 ?_
  refine JT_bipush (v := 34) dX12_openMany_9 bp_34 ?_
  refine JS_iald dX12_openMany_11 BS_250 (Nat.le_of_ble_eq_true rfl) (Nat.le_of_ble_eq_true rfl) (by unfold vp_in; decide) ?_
  refine JT_icmp_ge (tgt := 37) dX12_openMany_12 (by decide) (fun hc4 => ?_) (fun hc4 => ?_)
  · have h := h.1 hc4
    refine JT_iload_n (q := 1) dX12_openMany_37 rfl rfl ?_
    exact JS_iret dX12_openMany_38 rfl rfl h
  · have h := h.2 hc4
    refine JT_iload_n (q := 1) dX12_openMany_15 rfl rfl ?_
    refine JT_aload_n (q := 0) dX12_openMany_16 rfl rfl ?_
    refine JT_iload_n (q := 2) dX12_openMany_17 rfl rfl ?_
    obtain ⟨o3, h⟩ := h
    refine JS_callVI (M' := MX12_isOpen) (d' := 2) (As := [.int a2]) (rest := [.int a1]) (P := (fun zv9 wm9 => (vX12_isOpen s a2) = zv9 ∧ s = wm9)) dX12_openMany_18 cvX12_278 okX12_isOpen rfl (Nat.le_of_ble_eq_true rfl) BS_248 (Nat.le_of_ble_eq_true rfl) (Nat.le_of_ble_eq_true rfl) hci_12 (Nat.le_of_ble_eq_true rfl) (Nat.le_of_ble_eq_true rfl) (pX12_isOpen  (a2) o3 ⟨rfl, rfl⟩) (fun zv9 wm9 hq9 => ?_)
    obtain ⟨rfl, rfl⟩ := hq9
    have hj1 : ∀ v : Int32, v = (if (vX12_isOpen s a2) = 0 then (0 : Int32) else (1 : Int32)) → JT MX12_openMany 3 0 0 29 [(0, .ref 248), (1, .int a1), (2, .int a2)] [.int v, .int a1] (std s) (KQ Q) := by
      intro v hv
      subst hv
      refine JT_iadd dX12_openMany_29 ?_
      refine JT_istore_n (lv' := [(1, .int (a1 + (if (vX12_isOpen s a2) = 0 then (0 : Int32) else (1 : Int32)))), (0, .ref 248), (2, .int a2)]) dX12_openMany_30 rfl (Nat.le_of_ble_eq_true rfl) rfl ?_
      refine JT_iinc (q := 2) (v := (a2 + 1)) (lv' := [(2, .int (a2 + 1)), (1, .int (a1 + (if (vX12_isOpen s a2) = 0 then (0 : Int32) else (1 : Int32)))), (0, .ref 248)]) dX12_openMany_31 rfl (by rfl) (Nat.le_of_ble_eq_true rfl) rfl ?_
      refine JT_goto (tgt := 4) dX12_openMany_34 (by decide) ?_
      exact JT_sub [2, 1, 0] rfl h
    refine JT_if_eq (tgt := 28) dX12_openMany_21 (by decide) (fun hc2 => ?_) (fun hc2 => ?_)
    · refine JT_iconst (v := 0) dX12_openMany_28 ic_0 ?_
      exact hj1 _ (by rw [if_pos hc2])
    · refine JT_iconst (v := 1) dX12_openMany_24 ic_1 ?_
      refine JT_goto (tgt := 29) dX12_openMany_25 (by decide) ?_
      exact hj1 _ (by rw [if_neg hc2])
set_option maxRecDepth 1000000 in
theorem bX12_openMany  {s : SM} {Q : Int32 → SM → Prop} (h : BI MX12_openMany 3 4 [(0, .ref 248), (1, .int (0 : Int32)), (2, .int (0 : Int32))] s Q) : KI MX12_openMany 3 [.ref 248] s Q := by
  show BI MX12_openMany 3 0 [(0, .ref 248)] s Q
  refine JT_iconst (v := 0) dX12_openMany_0 ic_0 ?_
  refine JT_istore_n (lv' := [(1, .int (0 : Int32)), (0, .ref 248)]) dX12_openMany_1 rfl (Nat.le_of_ble_eq_true rfl) rfl ?_
  refine JT_iconst (v := 0) dX12_openMany_2 ic_0 ?_
  refine JT_istore_n (lv' := [(2, .int (0 : Int32)), (1, .int (0 : Int32)), (0, .ref 248)]) dX12_openMany_3 rfl (Nat.le_of_ble_eq_true rfl) rfl ?_
  exact JT_sub [2, 1, 0] rfl h
set_option maxRecDepth 1000000 in
theorem gX12_openMany  : ∀ n : Nat, (∀ (a1 : Int32) (a2 : Int32) (s : SM) (Q : Int32 → SM → Prop), ((qX12_openMany n) s a1 a2) → Q ((lX12_openMany n) s a1 a2) s → BI MX12_openMany 3 4 [(0, .ref 248), (1, .int a1), (2, .int a2)] s Q) := by
  intro n
  induction n with
  | zero => exact fun _ _ _ _ hq _ => absurd hq id
  | succ n ih =>
    intro a1 a2 s Q hr h
    replace hr : uX12_openMany_4 (qX12_openMany n) s a1 a2 := hr
    replace h : Q (tX12_openMany_4 (lX12_openMany n) s a1 a2) s := h
    unfold uX12_openMany_4 at hr
    unfold tX12_openMany_4 at h
    refine bX12_openMany_4 a1 a2 ?_
    refine ⟨fun c => ?_, fun c => ?_⟩
    · replace h := qlp c h
      first | exact h | contradiction
    · replace hr := hr c
      replace h := qln c h
      refine ⟨hr.1, ?_⟩
      replace hr := hr.2
      first | exact ih (a1 + (if (vX12_isOpen s a2) = 0 then (0 : Int32) else (1 : Int32))) (a2 + 1) _ Q hr h | contradiction
set_option maxRecDepth 1000000 in
theorem pX12_openMany  {s : SM} {Q : Int32 → SM → Prop} (hr : rX12_openMany s ) (h : Q (vX12_openMany s ) s) : KI MX12_openMany 3 [.ref 248] s Q := by
  replace h : Q (fX12_openMany s ) s := h
  unfold rX12_openMany at hr
  unfold fX12_openMany at h
  refine bX12_openMany  ?_
  first | exact (gX12_openMany  FU) (0 : Int32) (0 : Int32) _ Q hr h | contradiction
set_option maxRecDepth 1000000 in
theorem bX12_owedBy_6 (a1 : Int32) (a2 : Int32) (a3 : Int32) (a4 : Int32) (a5 : Int32) {s : SM} {Q : Int32 → SM → Prop} (h : (((gI s 250 ((34 : Int32)).toNatClampNeg) ≤ a5 → Q a4 s) ∧ (¬ (gI s 250 ((34 : Int32)).toNatClampNeg) ≤ a5 → rX12_isOpen s a5 ∧ (((vX12_isOpen s a5) = 0 → BI MX12_owedBy 3 6 [(0, .ref 248), (1, .int a1), (2, .int a2), (3, .int a3), (4, .int a4), (5, .int (a5 + 1))] s Q) ∧ (¬ (vX12_isOpen s a5) = 0 → rX12_of s a5 (0 : Int32) ∧ (((vX12_of s a5 (0 : Int32)) = a1 → rX12_of s a5 (6 : Int32) ∧ (((vX12_of s a5 (6 : Int32)) < 0 → BI MX12_owedBy 3 67 [(0, .ref 248), (1, .int a1), (2, .int a2), (3, .int a3), (4, .int a4), (5, .int a5)] s Q) ∧ (¬ (vX12_of s a5 (6 : Int32)) < 0 → rX12_of s a5 (6 : Int32) ∧ ((¬ (vX12_has s a2 (vX12_of s a5 (6 : Int32))) = 0 → BI MX12_owedBy 3 93 [(0, .ref 248), (1, .int a1), (2, .int a2), (3, .int a3), (4, .int a4), (5, .int a5)] s Q) ∧ ((vX12_has s a2 (vX12_of s a5 (6 : Int32))) = 0 → BI MX12_owedBy 3 67 [(0, .ref 248), (1, .int a1), (2, .int a2), (3, .int a3), (4, .int a4), (5, .int a5)] s Q))))) ∧ (¬ (vX12_of s a5 (0 : Int32)) = a1 → BI MX12_owedBy 3 6 [(0, .ref 248), (1, .int a1), (2, .int a2), (3, .int a3), (4, .int a4), (5, .int (a5 + 1))] s Q))))))) : BI MX12_owedBy 3 6 [(0, .ref 248), (1, .int a1), (2, .int a2), (3, .int a3), (4, .int a4), (5, .int a5)] s Q := by
  refine JT_iload (q := 5) dX12_owedBy_6 rfl ?_
  refine JT_aload_n (q := 0) dX12_owedBy_8 rfl rfl ?_
  refine JS_getR (x := 250) dX12_owedBy_9 flX12_33 BS_248 (Nat.le_of_ble_eq_true rfl) (Nat.le_of_ble_eq_true rfl) (Or.inr ⟨_, ct_12_6⟩) RF_248_6 ?_
  refine JT_bipush (v := 34) dX12_owedBy_12 bp_34 ?_
  refine JS_iald dX12_owedBy_14 BS_250 (Nat.le_of_ble_eq_true rfl) (Nat.le_of_ble_eq_true rfl) (by unfold vp_in; decide) ?_
  refine JT_icmp_ge (tgt := 156) dX12_owedBy_15 (by decide) (fun hc10 => ?_) (fun hc10 => ?_)
  · have h := h.1 hc10
    refine JT_iload (q := 4) dX12_owedBy_156 rfl ?_
    exact JS_iret dX12_owedBy_158 rfl rfl h
  · have h := h.2 hc10
    refine JT_aload_n (q := 0) dX12_owedBy_18 rfl rfl ?_
    refine JT_iload (q := 5) dX12_owedBy_19 rfl ?_
    obtain ⟨o9, h⟩ := h
    refine JS_callVI (M' := MX12_isOpen) (d' := 2) (As := [.int a5]) (rest := []) (P := (fun zv9 wm9 => (vX12_isOpen s a5) = zv9 ∧ s = wm9)) dX12_owedBy_21 cvX12_278 okX12_isOpen rfl (Nat.le_of_ble_eq_true rfl) BS_248 (Nat.le_of_ble_eq_true rfl) (Nat.le_of_ble_eq_true rfl) hci_12 (Nat.le_of_ble_eq_true rfl) (Nat.le_of_ble_eq_true rfl) (pX12_isOpen  (a5) o9 ⟨rfl, rfl⟩) (fun zv9 wm9 hq9 => ?_)
    obtain ⟨rfl, rfl⟩ := hq9
    refine JT_if_eq (tgt := 150) dX12_owedBy_24 (by decide) (fun hc8 => ?_) (fun hc8 => ?_)
    · have h := h.1 hc8
      refine JT_iinc (q := 5) (v := (a5 + 1)) (lv' := [(5, .int (a5 + 1)), (0, .ref 248), (1, .int a1), (2, .int a2), (3, .int a3), (4, .int a4)]) dX12_owedBy_150 rfl (by rfl) (Nat.le_of_ble_eq_true rfl) rfl ?_
      refine JT_goto (tgt := 6) dX12_owedBy_153 (by decide) ?_
      exact JT_sub [1, 2, 3, 4, 5, 0] rfl h
    · have h := h.2 hc8
      refine JT_aload_n (q := 0) dX12_owedBy_27 rfl rfl ?_
      refine JT_iload (q := 5) dX12_owedBy_28 rfl ?_
      refine JT_iconst (v := 0) dX12_owedBy_30 ic_0 ?_
      obtain ⟨o7, h⟩ := h
      refine JS_callVI (M' := MX12_of) (d' := 0) (As := [.int a5, .int (0 : Int32)]) (rest := []) (P := (fun zv9 wm9 => (vX12_of s a5 (0 : Int32)) = zv9 ∧ s = wm9)) dX12_owedBy_31 cvX12_265 okX12_of rfl (Nat.le_of_ble_eq_true rfl) BS_248 (Nat.le_of_ble_eq_true rfl) (Nat.le_of_ble_eq_true rfl) hci_12 (Nat.le_of_ble_eq_true rfl) (Nat.le_of_ble_eq_true rfl) (pX12_of  (a5) ((0 : Int32)) o7 ⟨rfl, rfl⟩) (fun zv9 wm9 hq9 => ?_)
      obtain ⟨rfl, rfl⟩ := hq9
      refine JT_iload_n (q := 1) dX12_owedBy_34 rfl rfl ?_
      refine JT_icmp_eq (tgt := 41) dX12_owedBy_35 (by decide) (fun hc6 => ?_) (fun hc6 => ?_)
      · have h := h.1 hc6
        refine JT_aload_n (q := 0) dX12_owedBy_41 rfl rfl ?_
        refine JT_iload (q := 5) dX12_owedBy_42 rfl ?_
        refine JT_bipush (v := 6) dX12_owedBy_44 bp_6 ?_
        obtain ⟨o5, h⟩ := h
        refine JS_callVI (M' := MX12_of) (d' := 0) (As := [.int a5, .int (6 : Int32)]) (rest := []) (P := (fun zv9 wm9 => (vX12_of s a5 (6 : Int32)) = zv9 ∧ s = wm9)) dX12_owedBy_46 cvX12_265 okX12_of rfl (Nat.le_of_ble_eq_true rfl) BS_248 (Nat.le_of_ble_eq_true rfl) (Nat.le_of_ble_eq_true rfl) hci_12 (Nat.le_of_ble_eq_true rfl) (Nat.le_of_ble_eq_true rfl) (pX12_of  (a5) ((6 : Int32)) o5 ⟨rfl, rfl⟩) (fun zv9 wm9 hq9 => ?_)
        obtain ⟨rfl, rfl⟩ := hq9
        refine JT_if_lt (tgt := 67) dX12_owedBy_49 (by decide) (fun hc4 => ?_) (fun hc4 => ?_)
        · have h := h.1 hc4
          exact JT_sub [0, 1, 2, 3, 4, 5] rfl h
        · have h := h.2 hc4
          refine JT_iload_n (q := 2) dX12_owedBy_52 rfl rfl ?_
          refine JT_aload_n (q := 0) dX12_owedBy_53 rfl rfl ?_
          refine JT_iload (q := 5) dX12_owedBy_54 rfl ?_
          refine JT_bipush (v := 6) dX12_owedBy_56 bp_6 ?_
          obtain ⟨o3, h⟩ := h
          refine JS_callVI (M' := MX12_of) (d' := 0) (As := [.int a5, .int (6 : Int32)]) (rest := [.int a2]) (P := (fun zv9 wm9 => (vX12_of s a5 (6 : Int32)) = zv9 ∧ s = wm9)) dX12_owedBy_58 cvX12_265 okX12_of rfl (Nat.le_of_ble_eq_true rfl) BS_248 (Nat.le_of_ble_eq_true rfl) (Nat.le_of_ble_eq_true rfl) hci_12 (Nat.le_of_ble_eq_true rfl) (Nat.le_of_ble_eq_true rfl) (pX12_of  (a5) ((6 : Int32)) o3 ⟨rfl, rfl⟩) (fun zv9 wm9 hq9 => ?_)
          obtain ⟨rfl, rfl⟩ := hq9
          refine JS_callSI (M' := MX12_has) (d' := 0) (As := [.int a2, .int (vX12_of s a5 (6 : Int32))]) (rest := []) (P := (fun zv9 wm9 => (vX12_has s a2 (vX12_of s a5 (6 : Int32))) = zv9 ∧ s = wm9)) dX12_owedBy_61 cvX12_259 okX12_has rfl (Nat.le_of_ble_eq_true rfl) (Nat.le_of_ble_eq_true rfl) (Nat.le_of_ble_eq_true rfl) (pX12_has  (a2) ((vX12_of s a5 (6 : Int32)))  ⟨rfl, rfl⟩) (fun zv9 wm9 hq9 => ?_)
          obtain ⟨rfl, rfl⟩ := hq9
          refine JT_if_ne (tgt := 93) dX12_owedBy_64 (by decide) (fun hc1 => ?_) (fun hc1 => ?_)
          · have h := h.1 hc1
            exact JT_sub [0, 1, 2, 3, 4, 5] rfl h
          · have h := h.2 hc1
            exact JT_sub [0, 1, 2, 3, 4, 5] rfl h
      · have h := h.2 hc6
        refine JT_goto (tgt := 150) dX12_owedBy_38 (by decide) ?_
        refine JT_iinc (q := 5) (v := (a5 + 1)) (lv' := [(5, .int (a5 + 1)), (0, .ref 248), (1, .int a1), (2, .int a2), (3, .int a3), (4, .int a4)]) dX12_owedBy_150 rfl (by rfl) (Nat.le_of_ble_eq_true rfl) rfl ?_
        refine JT_goto (tgt := 6) dX12_owedBy_153 (by decide) ?_
        exact JT_sub [1, 2, 3, 4, 5, 0] rfl h
set_option maxRecDepth 1000000 in
theorem bX12_owedBy_67 (a1 : Int32) (a2 : Int32) (a3 : Int32) (a4 : Int32) (a5 : Int32) {s : SM} {Q : Int32 → SM → Prop} (h : rX12_of s a5 (7 : Int32) ∧ (((vX12_of s a5 (7 : Int32)) < 0 → BI MX12_owedBy 3 97 [(0, .ref 248), (1, .int a1), (2, .int a2), (3, .int a3), (4, .int a4), (5, .int a5)] s Q) ∧ (¬ (vX12_of s a5 (7 : Int32)) < 0 → rX12_of s a5 (7 : Int32) ∧ (((vX12_has s a2 (vX12_of s a5 (7 : Int32))) = 0 → BI MX12_owedBy 3 97 [(0, .ref 248), (1, .int a1), (2, .int a2), (3, .int a3), (4, .int a4), (5, .int a5)] s Q) ∧ (¬ (vX12_has s a2 (vX12_of s a5 (7 : Int32))) = 0 → BI MX12_owedBy 3 93 [(0, .ref 248), (1, .int a1), (2, .int a2), (3, .int a3), (4, .int a4), (5, .int a5)] s Q))))) : BI MX12_owedBy 3 67 [(0, .ref 248), (1, .int a1), (2, .int a2), (3, .int a3), (4, .int a4), (5, .int a5)] s Q := by
  refine JT_aload_n (q := 0) dX12_owedBy_67 rfl rfl ?_
  refine JT_iload (q := 5) dX12_owedBy_68 rfl ?_
  refine JT_bipush (v := 7) dX12_owedBy_70 bp_7 ?_
  obtain ⟨o5, h⟩ := h
  refine JS_callVI (M' := MX12_of) (d' := 0) (As := [.int a5, .int (7 : Int32)]) (rest := []) (P := (fun zv9 wm9 => (vX12_of s a5 (7 : Int32)) = zv9 ∧ s = wm9)) dX12_owedBy_72 cvX12_265 okX12_of rfl (Nat.le_of_ble_eq_true rfl) BS_248 (Nat.le_of_ble_eq_true rfl) (Nat.le_of_ble_eq_true rfl) hci_12 (Nat.le_of_ble_eq_true rfl) (Nat.le_of_ble_eq_true rfl) (pX12_of  (a5) ((7 : Int32)) o5 ⟨rfl, rfl⟩) (fun zv9 wm9 hq9 => ?_)
  obtain ⟨rfl, rfl⟩ := hq9
  refine JT_if_lt (tgt := 97) dX12_owedBy_75 (by decide) (fun hc4 => ?_) (fun hc4 => ?_)
  · have h := h.1 hc4
    exact JT_sub [0, 1, 2, 3, 4, 5] rfl h
  · have h := h.2 hc4
    refine JT_iload_n (q := 2) dX12_owedBy_78 rfl rfl ?_
    refine JT_aload_n (q := 0) dX12_owedBy_79 rfl rfl ?_
    refine JT_iload (q := 5) dX12_owedBy_80 rfl ?_
    refine JT_bipush (v := 7) dX12_owedBy_82 bp_7 ?_
    obtain ⟨o3, h⟩ := h
    refine JS_callVI (M' := MX12_of) (d' := 0) (As := [.int a5, .int (7 : Int32)]) (rest := [.int a2]) (P := (fun zv9 wm9 => (vX12_of s a5 (7 : Int32)) = zv9 ∧ s = wm9)) dX12_owedBy_84 cvX12_265 okX12_of rfl (Nat.le_of_ble_eq_true rfl) BS_248 (Nat.le_of_ble_eq_true rfl) (Nat.le_of_ble_eq_true rfl) hci_12 (Nat.le_of_ble_eq_true rfl) (Nat.le_of_ble_eq_true rfl) (pX12_of  (a5) ((7 : Int32)) o3 ⟨rfl, rfl⟩) (fun zv9 wm9 hq9 => ?_)
    obtain ⟨rfl, rfl⟩ := hq9
    refine JS_callSI (M' := MX12_has) (d' := 0) (As := [.int a2, .int (vX12_of s a5 (7 : Int32))]) (rest := []) (P := (fun zv9 wm9 => (vX12_has s a2 (vX12_of s a5 (7 : Int32))) = zv9 ∧ s = wm9)) dX12_owedBy_87 cvX12_259 okX12_has rfl (Nat.le_of_ble_eq_true rfl) (Nat.le_of_ble_eq_true rfl) (Nat.le_of_ble_eq_true rfl) (pX12_has  (a2) ((vX12_of s a5 (7 : Int32)))  ⟨rfl, rfl⟩) (fun zv9 wm9 hq9 => ?_)
    obtain ⟨rfl, rfl⟩ := hq9
    refine JT_if_eq (tgt := 97) dX12_owedBy_90 (by decide) (fun hc1 => ?_) (fun hc1 => ?_)
    · have h := h.1 hc1
      exact JT_sub [0, 1, 2, 3, 4, 5] rfl h
    · have h := h.2 hc1
      exact JT_sub [0, 1, 2, 3, 4, 5] rfl h
set_option maxRecDepth 1000000 in
theorem bX12_owedBy_93 (a1 : Int32) (a2 : Int32) (a3 : Int32) (a4 : Int32) (a5 : Int32) {s : SM} {Q : Int32 → SM → Prop} (h : rX12_isKnown s a5 a2 ∧ (((vX12_isKnown s a5 a2) = 0 → ((¬ a3 = 0 → BI MX12_owedBy 3 6 [(0, .ref 248), (1, .int a1), (2, .int a2), (3, .int a3), (4, .int a4), (5, .int (a5 + 1))] s Q) ∧ (a3 = 0 → (((1 : Int32) = 0 → BI MX12_owedBy 3 6 [(0, .ref 248), (1, .int a1), (2, .int a2), (3, .int a3), (4, .int a4), (5, .int (a5 + 1))] s Q) ∧ (¬ (1 : Int32) = 0 → rX12_sortOf s a5 ∧ BI MX12_owedBy 3 6 [(0, .ref 248), (1, .int a1), (2, .int a2), (3, .int a3), (4, .int (a4 + (vX12_valueBy s (99 : Int32) (vX12_sortOf s a5)))), (5, .int (a5 + 1))] s Q))))) ∧ (¬ (vX12_isKnown s a5 a2) = 0 → rX12_valueOf s a5 ∧ BI MX12_owedBy 3 6 [(0, .ref 248), (1, .int a1), (2, .int a2), (3, .int a3), (4, .int (a4 + (vX12_valueOf s a5))), (5, .int (a5 + 1))] s Q))) : BI MX12_owedBy 3 93 [(0, .ref 248), (1, .int a1), (2, .int a2), (3, .int a3), (4, .int a4), (5, .int a5)] s Q := by
  refine JT_iconst (v := 1) dX12_owedBy_93 ic_1 ?_
  refine JT_goto (tgt := 98) dX12_owedBy_94 (by decide) ?_
  refine JT_istore (lv' := [(6, .int (1 : Int32)), (0, .ref 248), (1, .int a1), (2, .int a2), (3, .int a3), (4, .int a4), (5, .int a5)]) dX12_owedBy_98 (Nat.le_of_ble_eq_true rfl) rfl ?_
  refine JT_aload_n (q := 1) dX12_owedBy_100 rfl rfl ?_
  refine JT_iload (q := 6) dX12_owedBy_101 rfl ?_
  refine JT_iload_n (q := 3) dX12_owedBy_103 rfl rfl ?_
  obtain ⟨o7, h⟩ := h
  refine JS_callVI (M' := MX12_isKnown) (d' := 2) (As := [.int a5, .int a2]) (rest := []) (P := (fun zv9 wm9 => (vX12_isKnown s a5 a2) = zv9 ∧ s = wm9)) dX12_owedBy_104 cvX12_312 okX12_isKnown rfl (Nat.le_of_ble_eq_true rfl) BS_248 (Nat.le_of_ble_eq_true rfl) (Nat.le_of_ble_eq_true rfl) hci_12 (Nat.le_of_ble_eq_true rfl) (Nat.le_of_ble_eq_true rfl) (pX12_isKnown  (a5) (a2) o7 ⟨rfl, rfl⟩) (fun zv9 wm9 hq9 => ?_)
  obtain ⟨rfl, rfl⟩ := hq9
  refine JT_if_eq (tgt := 124) dX12_owedBy_107 (by decide) (fun hc6 => ?_) (fun hc6 => ?_)
  · have h := h.1 hc6
    refine JT_iload_n (q := 4) dX12_owedBy_124 rfl rfl ?_
    refine JT_if_ne (tgt := 150) dX12_owedBy_125 (by decide) (fun hc4 => ?_) (fun hc4 => ?_)
    · have h := h.1 hc4
      refine JT_iinc (q := 6) (v := (a5 + 1)) (lv' := [(5, .int (a5 + 1)), (6, .int (1 : Int32)), (0, .ref 248), (1, .int a1), (2, .int a2), (3, .int a3), (4, .int a4)]) dX12_owedBy_150 rfl (by rfl) (Nat.le_of_ble_eq_true rfl) rfl ?_
      refine JT_goto (tgt := 6) dX12_owedBy_153 (by decide) ?_
      exact JT_sub [2, 3, 4, 5, 6, 0] rfl h
    · have h := h.2 hc4
      refine JT_iload (q := 0) dX12_owedBy_128 rfl ?_
      refine JT_if_eq (tgt := 150) dX12_owedBy_130 (by decide) (fun hc3 => ?_) (fun hc3 => ?_)
      · have h := h.1 hc3
        refine JT_iinc (q := 6) (v := (a5 + 1)) (lv' := [(5, .int (a5 + 1)), (6, .int (1 : Int32)), (0, .ref 248), (1, .int a1), (2, .int a2), (3, .int a3), (4, .int a4)]) dX12_owedBy_150 rfl (by rfl) (Nat.le_of_ble_eq_true rfl) rfl ?_
        refine JT_goto (tgt := 6) dX12_owedBy_153 (by decide) ?_
        exact JT_sub [2, 3, 4, 5, 6, 0] rfl h
      · have h := h.2 hc3
        refine JT_iload (q := 5) dX12_owedBy_133 rfl ?_
        refine JT_aload_n (q := 1) dX12_owedBy_135 rfl rfl ?_
        refine JT_bipush (v := 99) dX12_owedBy_136 bp_99 ?_
        refine JT_aload_n (q := 1) dX12_owedBy_138 rfl rfl ?_
        refine JT_iload (q := 6) dX12_owedBy_139 rfl ?_
        obtain ⟨o2, h⟩ := h
        refine JS_callVI (M' := MX12_sortOf) (d' := 1) (As := [.int a5]) (rest := [.int (99 : Int32), .ref 248, .int a4]) (P := (fun zv9 wm9 => (vX12_sortOf s a5) = zv9 ∧ s = wm9)) dX12_owedBy_141 cvX12_272 okX12_sortOf rfl (Nat.le_of_ble_eq_true rfl) BS_248 (Nat.le_of_ble_eq_true rfl) (Nat.le_of_ble_eq_true rfl) hci_12 (Nat.le_of_ble_eq_true rfl) (Nat.le_of_ble_eq_true rfl) (pX12_sortOf  (a5) o2 ⟨rfl, rfl⟩) (fun zv9 wm9 hq9 => ?_)
        obtain ⟨rfl, rfl⟩ := hq9
        refine JS_callVI (M' := MX12_valueBy) (d' := 0) (As := [.int (99 : Int32), .int (vX12_sortOf s a5)]) (rest := [.int a4]) (P := (fun zv9 wm9 => (vX12_valueBy s (99 : Int32) (vX12_sortOf s a5)) = zv9 ∧ s = wm9)) dX12_owedBy_144 cvX12_275 okX12_valueBy rfl (Nat.le_of_ble_eq_true rfl) BS_248 (Nat.le_of_ble_eq_true rfl) (Nat.le_of_ble_eq_true rfl) hci_12 (Nat.le_of_ble_eq_true rfl) (Nat.le_of_ble_eq_true rfl) (pX12_valueBy  ((99 : Int32)) ((vX12_sortOf s a5))  ⟨rfl, rfl⟩) (fun zv9 wm9 hq9 => ?_)
        obtain ⟨rfl, rfl⟩ := hq9
        refine JT_iadd dX12_owedBy_147 ?_
        refine JT_istore (lv' := [(4, .int (a4 + (vX12_valueBy s (99 : Int32) (vX12_sortOf s a5)))), (6, .int (1 : Int32)), (0, .ref 248), (1, .int a1), (2, .int a2), (3, .int a3), (5, .int a5)]) dX12_owedBy_148 (Nat.le_of_ble_eq_true rfl) rfl ?_
        refine JT_iinc (q := 6) (v := (a5 + 1)) (lv' := [(5, .int (a5 + 1)), (4, .int (a4 + (vX12_valueBy s (99 : Int32) (vX12_sortOf s a5)))), (6, .int (1 : Int32)), (0, .ref 248), (1, .int a1), (2, .int a2), (3, .int a3)]) dX12_owedBy_150 rfl (by rfl) (Nat.le_of_ble_eq_true rfl) rfl ?_
        refine JT_goto (tgt := 6) dX12_owedBy_153 (by decide) ?_
        exact JT_sub [3, 4, 5, 6, 1, 0] rfl h
  · have h := h.2 hc6
    refine JT_iload (q := 5) dX12_owedBy_110 rfl ?_
    refine JT_aload_n (q := 1) dX12_owedBy_112 rfl rfl ?_
    refine JT_iload (q := 6) dX12_owedBy_113 rfl ?_
    obtain ⟨o5, h⟩ := h
    refine JS_callVI (M' := MX12_valueOf) (d' := 2) (As := [.int a5]) (rest := [.int a4]) (P := (fun zv9 wm9 => (vX12_valueOf s a5) = zv9 ∧ s = wm9)) dX12_owedBy_115 cvX12_281 okX12_valueOf rfl (Nat.le_of_ble_eq_true rfl) BS_248 (Nat.le_of_ble_eq_true rfl) (Nat.le_of_ble_eq_true rfl) hci_12 (Nat.le_of_ble_eq_true rfl) (Nat.le_of_ble_eq_true rfl) (pX12_valueOf  (a5) o5 ⟨rfl, rfl⟩) (fun zv9 wm9 hq9 => ?_)
    obtain ⟨rfl, rfl⟩ := hq9
    refine JT_iadd dX12_owedBy_118 ?_
    refine JT_istore (lv' := [(4, .int (a4 + (vX12_valueOf s a5))), (6, .int (1 : Int32)), (0, .ref 248), (1, .int a1), (2, .int a2), (3, .int a3), (5, .int a5)]) dX12_owedBy_119 (Nat.le_of_ble_eq_true rfl) rfl ?_
    refine JT_goto (tgt := 150) dX12_owedBy_121 (by decide) ?_
    refine JT_iinc (q := 6) (v := (a5 + 1)) (lv' := [(5, .int (a5 + 1)), (4, .int (a4 + (vX12_valueOf s a5))), (6, .int (1 : Int32)), (0, .ref 248), (1, .int a1), (2, .int a2), (3, .int a3)]) dX12_owedBy_150 rfl (by rfl) (Nat.le_of_ble_eq_true rfl) rfl ?_
    refine JT_goto (tgt := 6) dX12_owedBy_153 (by decide) ?_
    exact JT_sub [3, 4, 5, 6, 1, 0] rfl h
set_option maxRecDepth 1000000 in
theorem bX12_owedBy_97 (a1 : Int32) (a2 : Int32) (a3 : Int32) (a4 : Int32) (a5 : Int32) {s : SM} {Q : Int32 → SM → Prop} (h : rX12_isKnown s a5 a2 ∧ (((vX12_isKnown s a5 a2) = 0 → ((¬ a3 = 0 → BI MX12_owedBy 3 6 [(0, .ref 248), (1, .int a1), (2, .int a2), (3, .int a3), (4, .int a4), (5, .int (a5 + 1))] s Q) ∧ (a3 = 0 → (((0 : Int32) = 0 → BI MX12_owedBy 3 6 [(0, .ref 248), (1, .int a1), (2, .int a2), (3, .int a3), (4, .int a4), (5, .int (a5 + 1))] s Q) ∧ (¬ (0 : Int32) = 0 → rX12_sortOf s a5 ∧ BI MX12_owedBy 3 6 [(0, .ref 248), (1, .int a1), (2, .int a2), (3, .int a3), (4, .int (a4 + (vX12_valueBy s (99 : Int32) (vX12_sortOf s a5)))), (5, .int (a5 + 1))] s Q))))) ∧ (¬ (vX12_isKnown s a5 a2) = 0 → rX12_valueOf s a5 ∧ BI MX12_owedBy 3 6 [(0, .ref 248), (1, .int a1), (2, .int a2), (3, .int a3), (4, .int (a4 + (vX12_valueOf s a5))), (5, .int (a5 + 1))] s Q))) : BI MX12_owedBy 3 97 [(0, .ref 248), (1, .int a1), (2, .int a2), (3, .int a3), (4, .int a4), (5, .int a5)] s Q := by
  refine JT_iconst (v := 0) dX12_owedBy_97 ic_0 ?_
  refine JT_istore (lv' := [(6, .int (0 : Int32)), (0, .ref 248), (1, .int a1), (2, .int a2), (3, .int a3), (4, .int a4), (5, .int a5)]) dX12_owedBy_98 (Nat.le_of_ble_eq_true rfl) rfl ?_
  refine JT_aload_n (q := 1) dX12_owedBy_100 rfl rfl ?_
  refine JT_iload (q := 6) dX12_owedBy_101 rfl ?_
  refine JT_iload_n (q := 3) dX12_owedBy_103 rfl rfl ?_
  obtain ⟨o7, h⟩ := h
  refine JS_callVI (M' := MX12_isKnown) (d' := 2) (As := [.int a5, .int a2]) (rest := []) (P := (fun zv9 wm9 => (vX12_isKnown s a5 a2) = zv9 ∧ s = wm9)) dX12_owedBy_104 cvX12_312 okX12_isKnown rfl (Nat.le_of_ble_eq_true rfl) BS_248 (Nat.le_of_ble_eq_true rfl) (Nat.le_of_ble_eq_true rfl) hci_12 (Nat.le_of_ble_eq_true rfl) (Nat.le_of_ble_eq_true rfl) (pX12_isKnown  (a5) (a2) o7 ⟨rfl, rfl⟩) (fun zv9 wm9 hq9 => ?_)
  obtain ⟨rfl, rfl⟩ := hq9
  refine JT_if_eq (tgt := 124) dX12_owedBy_107 (by decide) (fun hc6 => ?_) (fun hc6 => ?_)
  · have h := h.1 hc6
    refine JT_iload_n (q := 4) dX12_owedBy_124 rfl rfl ?_
    refine JT_if_ne (tgt := 150) dX12_owedBy_125 (by decide) (fun hc4 => ?_) (fun hc4 => ?_)
    · have h := h.1 hc4
      refine JT_iinc (q := 6) (v := (a5 + 1)) (lv' := [(5, .int (a5 + 1)), (6, .int (0 : Int32)), (0, .ref 248), (1, .int a1), (2, .int a2), (3, .int a3), (4, .int a4)]) dX12_owedBy_150 rfl (by rfl) (Nat.le_of_ble_eq_true rfl) rfl ?_
      refine JT_goto (tgt := 6) dX12_owedBy_153 (by decide) ?_
      exact JT_sub [2, 3, 4, 5, 6, 0] rfl h
    · have h := h.2 hc4
      refine JT_iload (q := 0) dX12_owedBy_128 rfl ?_
      refine JT_if_eq (tgt := 150) dX12_owedBy_130 (by decide) (fun hc3 => ?_) (fun hc3 => ?_)
      · have h := h.1 hc3
        refine JT_iinc (q := 6) (v := (a5 + 1)) (lv' := [(5, .int (a5 + 1)), (6, .int (0 : Int32)), (0, .ref 248), (1, .int a1), (2, .int a2), (3, .int a3), (4, .int a4)]) dX12_owedBy_150 rfl (by rfl) (Nat.le_of_ble_eq_true rfl) rfl ?_
        refine JT_goto (tgt := 6) dX12_owedBy_153 (by decide) ?_
        exact JT_sub [2, 3, 4, 5, 6, 0] rfl h
      · have h := h.2 hc3
        refine JT_iload (q := 5) dX12_owedBy_133 rfl ?_
        refine JT_aload_n (q := 1) dX12_owedBy_135 rfl rfl ?_
        refine JT_bipush (v := 99) dX12_owedBy_136 bp_99 ?_
        refine JT_aload_n (q := 1) dX12_owedBy_138 rfl rfl ?_
        refine JT_iload (q := 6) dX12_owedBy_139 rfl ?_
        obtain ⟨o2, h⟩ := h
        refine JS_callVI (M' := MX12_sortOf) (d' := 1) (As := [.int a5]) (rest := [.int (99 : Int32), .ref 248, .int a4]) (P := (fun zv9 wm9 => (vX12_sortOf s a5) = zv9 ∧ s = wm9)) dX12_owedBy_141 cvX12_272 okX12_sortOf rfl (Nat.le_of_ble_eq_true rfl) BS_248 (Nat.le_of_ble_eq_true rfl) (Nat.le_of_ble_eq_true rfl) hci_12 (Nat.le_of_ble_eq_true rfl) (Nat.le_of_ble_eq_true rfl) (pX12_sortOf  (a5) o2 ⟨rfl, rfl⟩) (fun zv9 wm9 hq9 => ?_)
        obtain ⟨rfl, rfl⟩ := hq9
        refine JS_callVI (M' := MX12_valueBy) (d' := 0) (As := [.int (99 : Int32), .int (vX12_sortOf s a5)]) (rest := [.int a4]) (P := (fun zv9 wm9 => (vX12_valueBy s (99 : Int32) (vX12_sortOf s a5)) = zv9 ∧ s = wm9)) dX12_owedBy_144 cvX12_275 okX12_valueBy rfl (Nat.le_of_ble_eq_true rfl) BS_248 (Nat.le_of_ble_eq_true rfl) (Nat.le_of_ble_eq_true rfl) hci_12 (Nat.le_of_ble_eq_true rfl) (Nat.le_of_ble_eq_true rfl) (pX12_valueBy  ((99 : Int32)) ((vX12_sortOf s a5))  ⟨rfl, rfl⟩) (fun zv9 wm9 hq9 => ?_)
        obtain ⟨rfl, rfl⟩ := hq9
        refine JT_iadd dX12_owedBy_147 ?_
        refine JT_istore (lv' := [(4, .int (a4 + (vX12_valueBy s (99 : Int32) (vX12_sortOf s a5)))), (6, .int (0 : Int32)), (0, .ref 248), (1, .int a1), (2, .int a2), (3, .int a3), (5, .int a5)]) dX12_owedBy_148 (Nat.le_of_ble_eq_true rfl) rfl ?_
        refine JT_iinc (q := 6) (v := (a5 + 1)) (lv' := [(5, .int (a5 + 1)), (4, .int (a4 + (vX12_valueBy s (99 : Int32) (vX12_sortOf s a5)))), (6, .int (0 : Int32)), (0, .ref 248), (1, .int a1), (2, .int a2), (3, .int a3)]) dX12_owedBy_150 rfl (by rfl) (Nat.le_of_ble_eq_true rfl) rfl ?_
        refine JT_goto (tgt := 6) dX12_owedBy_153 (by decide) ?_
        exact JT_sub [3, 4, 5, 6, 1, 0] rfl h
  · have h := h.2 hc6
    refine JT_iload (q := 5) dX12_owedBy_110 rfl ?_
    refine JT_aload_n (q := 1) dX12_owedBy_112 rfl rfl ?_
    refine JT_iload (q := 6) dX12_owedBy_113 rfl ?_
    obtain ⟨o5, h⟩ := h
    refine JS_callVI (M' := MX12_valueOf) (d' := 2) (As := [.int a5]) (rest := [.int a4]) (P := (fun zv9 wm9 => (vX12_valueOf s a5) = zv9 ∧ s = wm9)) dX12_owedBy_115 cvX12_281 okX12_valueOf rfl (Nat.le_of_ble_eq_true rfl) BS_248 (Nat.le_of_ble_eq_true rfl) (Nat.le_of_ble_eq_true rfl) hci_12 (Nat.le_of_ble_eq_true rfl) (Nat.le_of_ble_eq_true rfl) (pX12_valueOf  (a5) o5 ⟨rfl, rfl⟩) (fun zv9 wm9 hq9 => ?_)
    obtain ⟨rfl, rfl⟩ := hq9
    refine JT_iadd dX12_owedBy_118 ?_
    refine JT_istore (lv' := [(4, .int (a4 + (vX12_valueOf s a5))), (6, .int (0 : Int32)), (0, .ref 248), (1, .int a1), (2, .int a2), (3, .int a3), (5, .int a5)]) dX12_owedBy_119 (Nat.le_of_ble_eq_true rfl) rfl ?_
    refine JT_goto (tgt := 150) dX12_owedBy_121 (by decide) ?_
    refine JT_iinc (q := 6) (v := (a5 + 1)) (lv' := [(5, .int (a5 + 1)), (4, .int (a4 + (vX12_valueOf s a5))), (6, .int (0 : Int32)), (0, .ref 248), (1, .int a1), (2, .int a2), (3, .int a3)]) dX12_owedBy_150 rfl (by rfl) (Nat.le_of_ble_eq_true rfl) rfl ?_
    refine JT_goto (tgt := 6) dX12_owedBy_153 (by decide) ?_
    exact JT_sub [3, 4, 5, 6, 1, 0] rfl h
set_option maxRecDepth 1000000 in
theorem bX12_owedBy (a1 : Int32) (a2 : Int32) (a3 : Int32) {s : SM} {Q : Int32 → SM → Prop} (h : BI MX12_owedBy 3 6 [(0, .ref 248), (1, .int a1), (2, .int a2), (3, .int a3), (4, .int (0 : Int32)), (5, .int (0 : Int32))] s Q) : KI MX12_owedBy 3 [.ref 248, .int a1, .int a2, .int a3] s Q := by
  show BI MX12_owedBy 3 0 [(0, .ref 248), (1, .int a1), (2, .int a2), (3, .int a3)] s Q
  refine JT_iconst (v := 0) dX12_owedBy_0 ic_0 ?_
  refine JT_istore (lv' := [(4, .int (0 : Int32)), (0, .ref 248), (1, .int a1), (2, .int a2), (3, .int a3)]) dX12_owedBy_1 (Nat.le_of_ble_eq_true rfl) rfl ?_
  refine JT_iconst (v := 0) dX12_owedBy_3 ic_0 ?_
  refine JT_istore (lv' := [(5, .int (0 : Int32)), (4, .int (0 : Int32)), (0, .ref 248), (1, .int a1), (2, .int a2), (3, .int a3)]) dX12_owedBy_4 (Nat.le_of_ble_eq_true rfl) rfl ?_
  exact JT_sub [2, 3, 4, 5, 1, 0] rfl h
set_option maxRecDepth 1000000 in
theorem gX12_owedBy  : ∀ n : Nat, (∀ (a1 : Int32) (a2 : Int32) (a3 : Int32) (a4 : Int32) (a5 : Int32) (s : SM) (Q : Int32 → SM → Prop), ((qX12_owedBy n).1 s a1 a2 a3 a4 a5) → Q ((lX12_owedBy n).1 s a1 a2 a3 a4 a5) s → BI MX12_owedBy 3 6 [(0, .ref 248), (1, .int a1), (2, .int a2), (3, .int a3), (4, .int a4), (5, .int a5)] s Q) ∧ (∀ (a1 : Int32) (a2 : Int32) (a3 : Int32) (a4 : Int32) (a5 : Int32) (s : SM) (Q : Int32 → SM → Prop), ((qX12_owedBy n).2.1 s a1 a2 a3 a4 a5) → Q ((lX12_owedBy n).2.1 s a1 a2 a3 a4 a5) s → BI MX12_owedBy 3 67 [(0, .ref 248), (1, .int a1), (2, .int a2), (3, .int a3), (4, .int a4), (5, .int a5)] s Q) ∧ (∀ (a1 : Int32) (a2 : Int32) (a3 : Int32) (a4 : Int32) (a5 : Int32) (s : SM) (Q : Int32 → SM → Prop), ((qX12_owedBy n).2.2.1 s a1 a2 a3 a4 a5) → Q ((lX12_owedBy n).2.2.1 s a1 a2 a3 a4 a5) s → BI MX12_owedBy 3 93 [(0, .ref 248), (1, .int a1), (2, .int a2), (3, .int a3), (4, .int a4), (5, .int a5)] s Q) ∧ (∀ (a1 : Int32) (a2 : Int32) (a3 : Int32) (a4 : Int32) (a5 : Int32) (s : SM) (Q : Int32 → SM → Prop), ((qX12_owedBy n).2.2.2 s a1 a2 a3 a4 a5) → Q ((lX12_owedBy n).2.2.2 s a1 a2 a3 a4 a5) s → BI MX12_owedBy 3 97 [(0, .ref 248), (1, .int a1), (2, .int a2), (3, .int a3), (4, .int a4), (5, .int a5)] s Q) := by
  intro n
  induction n with
  | zero => exact ⟨fun _ _ _ _ _ _ _ hq _ => absurd hq id, fun _ _ _ _ _ _ _ hq _ => absurd hq id, fun _ _ _ _ _ _ _ hq _ => absurd hq id, fun _ _ _ _ _ _ _ hq _ => absurd hq id⟩
  | succ n ih =>
    refine ⟨?_, ?_, ?_, ?_⟩
    · intro a1 a2 a3 a4 a5 s Q hr h
      replace hr : uX12_owedBy_6 (qX12_owedBy n) s a1 a2 a3 a4 a5 := hr
      replace h : Q (tX12_owedBy_6 (lX12_owedBy n) s a1 a2 a3 a4 a5) s := h
      unfold uX12_owedBy_6 at hr
      unfold tX12_owedBy_6 at h
      refine bX12_owedBy_6 a1 a2 a3 a4 a5 ?_
      refine ⟨fun c => ?_, fun c => ?_⟩
      · replace h := qlp c h
        first | exact h | contradiction
      · replace hr := hr c
        replace h := qln c h
        refine ⟨hr.1, ?_⟩
        replace hr := hr.2
        refine ⟨fun c => ?_, fun c => ?_⟩
        · replace hr := hr.1 c
          replace h := qlp c h
          first | exact ih.1 a1 a2 a3 a4 (a5 + 1) _ Q hr h | contradiction
        · replace hr := hr.2 c
          replace h := qln c h
          refine ⟨hr.1, ?_⟩
          replace hr := hr.2
          refine ⟨fun c => ?_, fun c => ?_⟩
          · replace hr := hr.1 c
            replace h := qlp c h
            refine ⟨hr.1, ?_⟩
            replace hr := hr.2
            refine ⟨fun c => ?_, fun c => ?_⟩
            · replace hr := hr.1 c
              replace h := qlp c h
              first | exact ih.2.1 a1 a2 a3 a4 a5 _ Q hr h | contradiction
            · replace hr := hr.2 c
              replace h := qln c h
              refine ⟨hr.1, ?_⟩
              replace hr := hr.2
              refine ⟨fun c => ?_, fun c => ?_⟩
              · replace hr := hr.1 c
                replace h := qln c h
                first | exact ih.2.2.1 a1 a2 a3 a4 a5 _ Q hr h | contradiction
              · replace hr := hr.2 c
                replace h := qlp c h
                first | exact ih.2.1 a1 a2 a3 a4 a5 _ Q hr h | contradiction
          · replace hr := hr.2 c
            replace h := qln c h
            first | exact ih.1 a1 a2 a3 a4 (a5 + 1) _ Q hr h | contradiction
    · intro a1 a2 a3 a4 a5 s Q hr h
      replace hr : uX12_owedBy_67 (qX12_owedBy n) s a1 a2 a3 a4 a5 := hr
      replace h : Q (tX12_owedBy_67 (lX12_owedBy n) s a1 a2 a3 a4 a5) s := h
      unfold uX12_owedBy_67 at hr
      unfold tX12_owedBy_67 at h
      refine bX12_owedBy_67 a1 a2 a3 a4 a5 ?_
      refine ⟨hr.1, ?_⟩
      replace hr := hr.2
      refine ⟨fun c => ?_, fun c => ?_⟩
      · replace hr := hr.1 c
        replace h := qlp c h
        first | exact ih.2.2.2 a1 a2 a3 a4 a5 _ Q hr h | contradiction
      · replace hr := hr.2 c
        replace h := qln c h
        refine ⟨hr.1, ?_⟩
        replace hr := hr.2
        refine ⟨fun c => ?_, fun c => ?_⟩
        · replace hr := hr.1 c
          replace h := qlp c h
          first | exact ih.2.2.2 a1 a2 a3 a4 a5 _ Q hr h | contradiction
        · replace hr := hr.2 c
          replace h := qln c h
          first | exact ih.2.2.1 a1 a2 a3 a4 a5 _ Q hr h | contradiction
    · intro a1 a2 a3 a4 a5 s Q hr h
      replace hr : uX12_owedBy_93 (qX12_owedBy n) s a1 a2 a3 a4 a5 := hr
      replace h : Q (tX12_owedBy_93 (lX12_owedBy n) s a1 a2 a3 a4 a5) s := h
      unfold uX12_owedBy_93 at hr
      unfold tX12_owedBy_93 at h
      refine bX12_owedBy_93 a1 a2 a3 a4 a5 ?_
      refine ⟨hr.1, ?_⟩
      replace hr := hr.2
      refine ⟨fun c => ?_, fun c => ?_⟩
      · replace hr := hr.1 c
        replace h := qlp c h
        refine ⟨fun c => ?_, fun c => ?_⟩
        · replace hr := hr.1 c
          replace h := qln c h
          first | exact ih.1 a1 a2 a3 a4 (a5 + 1) _ Q hr h | contradiction
        · replace hr := hr.2 c
          replace h := qlp c h
          refine ⟨fun c => ?_, fun c => ?_⟩
          · replace hr := hr.1 c
            replace h := qlp c h
            first | exact ih.1 a1 a2 a3 a4 (a5 + 1) _ Q hr h | contradiction
          · replace hr := hr.2 c
            replace h := qln c h
            refine ⟨hr.1, ?_⟩
            replace hr := hr.2
            first | exact ih.1 a1 a2 a3 (a4 + (vX12_valueBy s (99 : Int32) (vX12_sortOf s a5))) (a5 + 1) _ Q hr h | contradiction
      · replace hr := hr.2 c
        replace h := qln c h
        refine ⟨hr.1, ?_⟩
        replace hr := hr.2
        first | exact ih.1 a1 a2 a3 (a4 + (vX12_valueOf s a5)) (a5 + 1) _ Q hr h | contradiction
    · intro a1 a2 a3 a4 a5 s Q hr h
      replace hr : uX12_owedBy_97 (qX12_owedBy n) s a1 a2 a3 a4 a5 := hr
      replace h : Q (tX12_owedBy_97 (lX12_owedBy n) s a1 a2 a3 a4 a5) s := h
      unfold uX12_owedBy_97 at hr
      unfold tX12_owedBy_97 at h
      refine bX12_owedBy_97 a1 a2 a3 a4 a5 ?_
      refine ⟨hr.1, ?_⟩
      replace hr := hr.2
      refine ⟨fun c => ?_, fun c => ?_⟩
      · replace hr := hr.1 c
        replace h := qlp c h
        refine ⟨fun c => ?_, fun c => ?_⟩
        · replace hr := hr.1 c
          replace h := qln c h
          first | exact ih.1 a1 a2 a3 a4 (a5 + 1) _ Q hr h | contradiction
        · replace hr := hr.2 c
          replace h := qlp c h
          refine ⟨fun c => ?_, fun c => ?_⟩
          · replace hr := hr.1 c
            replace h := qlp c h
            first | exact ih.1 a1 a2 a3 a4 (a5 + 1) _ Q hr h | contradiction
          · replace hr := hr.2 c
            replace h := qln c h
            refine ⟨hr.1, ?_⟩
            replace hr := hr.2
            first | exact ih.1 a1 a2 a3 (a4 + (vX12_valueBy s (99 : Int32) (vX12_sortOf s a5))) (a5 + 1) _ Q hr h | contradiction
      · replace hr := hr.2 c
        replace h := qln c h
        refine ⟨hr.1, ?_⟩
        replace hr := hr.2
        first | exact ih.1 a1 a2 a3 (a4 + (vX12_valueOf s a5)) (a5 + 1) _ Q hr h | contradiction
set_option maxRecDepth 1000000 in
theorem pX12_owedBy (a1 : Int32) (a2 : Int32) (a3 : Int32) {s : SM} {Q : Int32 → SM → Prop} (hr : rX12_owedBy s a1 a2 a3) (h : Q (vX12_owedBy s a1 a2 a3) s) : KI MX12_owedBy 3 [.ref 248, .int a1, .int a2, .int a3] s Q := by
  replace h : Q (fX12_owedBy s a1 a2 a3) s := h
  unfold rX12_owedBy at hr
  unfold fX12_owedBy at h
  refine bX12_owedBy a1 a2 a3 ?_
  first | exact (gX12_owedBy  FU).1 a1 a2 a3 (0 : Int32) (0 : Int32) _ Q hr h | contradiction
set_option maxRecDepth 1000000 in
theorem bX12_owes_29 (a1 : Int32) (a2 : Int32) (a3 : Int32) (a4 : Int32) {s : SM} {Q : Int32 → SM → Prop} (h : (((gI s 250 ((34 : Int32)).toNatClampNeg) ≤ a4 → Q a3 s) ∧ (¬ (gI s 250 ((34 : Int32)).toNatClampNeg) ≤ a4 → rX12_isOpen s a4 ∧ (((vX12_isOpen s a4) = 0 → BI MX12_owes 3 29 [(0, .ref 248), (1, .int a1), (2, .int a2), (3, .int a3), (4, .int (a4 + 1))] s Q) ∧ (¬ (vX12_isOpen s a4) = 0 → rX12_of s a4 a2 ∧ ((¬ (vX12_of s a4 a2) = a1 → BI MX12_owes 3 29 [(0, .ref 248), (1, .int a1), (2, .int a2), (3, .int a3), (4, .int (a4 + 1))] s Q) ∧ ((vX12_of s a4 a2) = a1 → rX12_of s a4 ((1 : Int32) - a2) ∧ BI MX12_owes 3 29 [(0, .ref 248), (1, .int a1), (2, .int a2), (3, .int (a3 ||| ((1 : Int32) <<< ((vX12_of s a4 ((1 : Int32) - a2)) &&& 31)))), (4, .int (a4 + 1))] s Q))))))) : BI MX12_owes 3 29 [(0, .ref 248), (1, .int a1), (2, .int a2), (3, .int a3), (4, .int a4)] s Q := by
  refine JT_iload (q := 4) dX12_owes_29 rfl ?_
  refine JT_aload_n (q := 0) dX12_owes_31 rfl rfl ?_
  refine JS_getR (x := 250) dX12_owes_32 flX12_33 BS_248 (Nat.le_of_ble_eq_true rfl) (Nat.le_of_ble_eq_true rfl) (Or.inr ⟨_, ct_12_6⟩) RF_248_6 ?_
  refine JT_bipush (v := 34) dX12_owes_35 bp_34 ?_
  refine JS_iald dX12_owes_37 BS_250 (Nat.le_of_ble_eq_true rfl) (Nat.le_of_ble_eq_true rfl) (by unfold vp_in; decide) ?_
  refine JT_icmp_ge (tgt := 81) dX12_owes_38 (by decide) (fun hc6 => ?_) (fun hc6 => ?_)
  · have h := h.1 hc6
    refine JT_iload_n (q := 3) dX12_owes_81 rfl rfl ?_
    exact JS_iret dX12_owes_82 rfl rfl h
  · have h := h.2 hc6
    refine JT_aload_n (q := 0) dX12_owes_41 rfl rfl ?_
    refine JT_iload (q := 4) dX12_owes_42 rfl ?_
    obtain ⟨o5, h⟩ := h
    refine JS_callVI (M' := MX12_isOpen) (d' := 2) (As := [.int a4]) (rest := []) (P := (fun zv9 wm9 => (vX12_isOpen s a4) = zv9 ∧ s = wm9)) dX12_owes_44 cvX12_278 okX12_isOpen rfl (Nat.le_of_ble_eq_true rfl) BS_248 (Nat.le_of_ble_eq_true rfl) (Nat.le_of_ble_eq_true rfl) hci_12 (Nat.le_of_ble_eq_true rfl) (Nat.le_of_ble_eq_true rfl) (pX12_isOpen  (a4) o5 ⟨rfl, rfl⟩) (fun zv9 wm9 hq9 => ?_)
    obtain ⟨rfl, rfl⟩ := hq9
    refine JT_if_eq (tgt := 75) dX12_owes_47 (by decide) (fun hc4 => ?_) (fun hc4 => ?_)
    · have h := h.1 hc4
      refine JT_iinc (q := 4) (v := (a4 + 1)) (lv' := [(4, .int (a4 + 1)), (0, .ref 248), (1, .int a1), (2, .int a2), (3, .int a3)]) dX12_owes_75 rfl (by rfl) (Nat.le_of_ble_eq_true rfl) rfl ?_
      refine JT_goto (tgt := 29) dX12_owes_78 (by decide) ?_
      exact JT_sub [1, 2, 3, 4, 0] rfl h
    · have h := h.2 hc4
      refine JT_aload_n (q := 0) dX12_owes_50 rfl rfl ?_
      refine JT_iload (q := 4) dX12_owes_51 rfl ?_
      refine JT_iload_n (q := 2) dX12_owes_53 rfl rfl ?_
      obtain ⟨o3, h⟩ := h
      refine JS_callVI (M' := MX12_of) (d' := 0) (As := [.int a4, .int a2]) (rest := []) (P := (fun zv9 wm9 => (vX12_of s a4 a2) = zv9 ∧ s = wm9)) dX12_owes_54 cvX12_265 okX12_of rfl (Nat.le_of_ble_eq_true rfl) BS_248 (Nat.le_of_ble_eq_true rfl) (Nat.le_of_ble_eq_true rfl) hci_12 (Nat.le_of_ble_eq_true rfl) (Nat.le_of_ble_eq_true rfl) (pX12_of  (a4) (a2) o3 ⟨rfl, rfl⟩) (fun zv9 wm9 hq9 => ?_)
      obtain ⟨rfl, rfl⟩ := hq9
      refine JT_iload_n (q := 1) dX12_owes_57 rfl rfl ?_
      refine JT_icmp_ne (tgt := 75) dX12_owes_58 (by decide) (fun hc2 => ?_) (fun hc2 => ?_)
      · have h := h.1 hc2
        refine JT_iinc (q := 4) (v := (a4 + 1)) (lv' := [(4, .int (a4 + 1)), (0, .ref 248), (1, .int a1), (2, .int a2), (3, .int a3)]) dX12_owes_75 rfl (by rfl) (Nat.le_of_ble_eq_true rfl) rfl ?_
        refine JT_goto (tgt := 29) dX12_owes_78 (by decide) ?_
        exact JT_sub [1, 2, 3, 4, 0] rfl h
      · have h := h.2 hc2
        refine JT_iload_n (q := 3) dX12_owes_61 rfl rfl ?_
        refine JT_iconst (v := 1) dX12_owes_62 ic_1 ?_
        refine JT_aload_n (q := 0) dX12_owes_63 rfl rfl ?_
        refine JT_iload (q := 4) dX12_owes_64 rfl ?_
        refine JT_iconst (v := 1) dX12_owes_66 ic_1 ?_
        refine JT_iload_n (q := 2) dX12_owes_67 rfl rfl ?_
        refine JT_isub dX12_owes_68 ?_
        obtain ⟨o1, h⟩ := h
        refine JS_callVI (M' := MX12_of) (d' := 0) (As := [.int a4, .int ((1 : Int32) - a2)]) (rest := [.int (1 : Int32), .int a3]) (P := (fun zv9 wm9 => (vX12_of s a4 ((1 : Int32) - a2)) = zv9 ∧ s = wm9)) dX12_owes_69 cvX12_265 okX12_of rfl (Nat.le_of_ble_eq_true rfl) BS_248 (Nat.le_of_ble_eq_true rfl) (Nat.le_of_ble_eq_true rfl) hci_12 (Nat.le_of_ble_eq_true rfl) (Nat.le_of_ble_eq_true rfl) (pX12_of  (a4) (((1 : Int32) - a2)) o1 ⟨rfl, rfl⟩) (fun zv9 wm9 hq9 => ?_)
        obtain ⟨rfl, rfl⟩ := hq9
        refine JT_ishl dX12_owes_72 ?_
        refine JT_ior dX12_owes_73 ?_
        refine JT_istore_n (lv' := [(3, .int (a3 ||| ((1 : Int32) <<< ((vX12_of s a4 ((1 : Int32) - a2)) &&& 31)))), (0, .ref 248), (1, .int a1), (2, .int a2), (4, .int a4)]) dX12_owes_74 rfl (Nat.le_of_ble_eq_true rfl) rfl ?_
        refine JT_iinc (q := 4) (v := (a4 + 1)) (lv' := [(4, .int (a4 + 1)), (3, .int (a3 ||| ((1 : Int32) <<< ((vX12_of s a4 ((1 : Int32) - a2)) &&& 31)))), (0, .ref 248), (1, .int a1), (2, .int a2)]) dX12_owes_75 rfl (by rfl) (Nat.le_of_ble_eq_true rfl) rfl ?_
        refine JT_goto (tgt := 29) dX12_owes_78 (by decide) ?_
        exact JT_sub [2, 3, 4, 1, 0] rfl h
set_option maxRecDepth 1000000 in
theorem bX12_owes (a1 : Int32) (a2 : Int32) {s : SM} {Q : Int32 → SM → Prop} (h : (((vX12_isBody (pI s 248 0 (0 : Int32)) a1) = 0 → Q (-1 : Int32) (pI s 248 0 (0 : Int32))) ∧ (¬ (vX12_isBody (pI s 248 0 (0 : Int32)) a1) = 0 → ((¬ (vX12_isIn (pI s 248 0 (0 : Int32)) a2 (0 : Int32) (1 : Int32)) = 0 → BI MX12_owes 3 29 [(0, .ref 248), (1, .int a1), (2, .int a2), (3, .int (0 : Int32)), (4, .int (0 : Int32))] (pI s 248 0 (0 : Int32)) Q) ∧ ((vX12_isIn (pI s 248 0 (0 : Int32)) a2 (0 : Int32) (1 : Int32)) = 0 → Q (-1 : Int32) (pI s 248 0 (0 : Int32))))))) : KI MX12_owes 3 [.ref 248, .int a1, .int a2] s Q := by
  show BI MX12_owes 3 0 [(0, .ref 248), (1, .int a1), (2, .int a2)] s Q
  refine JT_aload_n (q := 0) dX12_owes_0 rfl rfl ?_
  refine JT_iconst (v := 0) dX12_owes_1 ic_0 ?_
  refine JS_putI dX12_owes_2 flX12_1 BS_248 (Nat.le_of_ble_eq_true rfl) (Nat.le_of_ble_eq_true rfl) ct_12_0 ?_
  refine JT_aload_n (q := 0) dX12_owes_5 rfl rfl ?_
  refine JT_iload_n (q := 1) dX12_owes_6 rfl rfl ?_
  refine JS_callVI (M' := MX12_isBody) (d' := 1) (As := [.int a1]) (rest := []) (P := (fun zv9 wm9 => (vX12_isBody (pI s 248 0 (0 : Int32)) a1) = zv9 ∧ (pI s 248 0 (0 : Int32)) = wm9)) dX12_owes_7 cvX12_287 okX12_isBody rfl (Nat.le_of_ble_eq_true rfl) BS_248 (Nat.le_of_ble_eq_true rfl) (Nat.le_of_ble_eq_true rfl) hci_12 (Nat.le_of_ble_eq_true rfl) (Nat.le_of_ble_eq_true rfl) (pX12_isBody  (a1)  ⟨rfl, rfl⟩) (fun zv9 wm9 hq9 => ?_)
  obtain ⟨rfl, rfl⟩ := hq9
  refine JT_if_eq (tgt := 22) dX12_owes_10 (by decide) (fun hc3 => ?_) (fun hc3 => ?_)
  · have h := h.1 hc3
    refine JT_iconst (v := -1) dX12_owes_22 ic_m1 ?_
    exact JS_iret dX12_owes_23 rfl rfl h
  · have h := h.2 hc3
    refine JT_iload_n (q := 2) dX12_owes_13 rfl rfl ?_
    refine JT_iconst (v := 0) dX12_owes_14 ic_0 ?_
    refine JT_iconst (v := 1) dX12_owes_15 ic_1 ?_
    refine JS_callSI (M' := MX12_isIn) (d' := 0) (As := [.int a2, .int (0 : Int32), .int (1 : Int32)]) (rest := []) (P := (fun zv9 wm9 => (vX12_isIn (pI s 248 0 (0 : Int32)) a2 (0 : Int32) (1 : Int32)) = zv9 ∧ (pI s 248 0 (0 : Int32)) = wm9)) dX12_owes_16 cvX12_202 okX12_isIn rfl (Nat.le_of_ble_eq_true rfl) (Nat.le_of_ble_eq_true rfl) (Nat.le_of_ble_eq_true rfl) (pX12_isIn  (a2) ((0 : Int32)) ((1 : Int32))  ⟨rfl, rfl⟩) (fun zv9 wm9 hq9 => ?_)
    obtain ⟨rfl, rfl⟩ := hq9
    refine JT_if_ne (tgt := 24) dX12_owes_19 (by decide) (fun hc1 => ?_) (fun hc1 => ?_)
    · have h := h.1 hc1
      refine JT_iconst (v := 0) dX12_owes_24 ic_0 ?_
      refine JT_istore_n (lv' := [(3, .int (0 : Int32)), (0, .ref 248), (1, .int a1), (2, .int a2)]) dX12_owes_25 rfl (Nat.le_of_ble_eq_true rfl) rfl ?_
      refine JT_iconst (v := 0) dX12_owes_26 ic_0 ?_
      refine JT_istore (lv' := [(4, .int (0 : Int32)), (3, .int (0 : Int32)), (0, .ref 248), (1, .int a1), (2, .int a2)]) dX12_owes_27 (Nat.le_of_ble_eq_true rfl) rfl ?_
      exact JT_sub [2, 3, 4, 1, 0] rfl h
    · have h := h.2 hc1
      refine JT_iconst (v := -1) dX12_owes_22 ic_m1 ?_
      exact JS_iret dX12_owes_23 rfl rfl h
set_option maxRecDepth 1000000 in
theorem gX12_owes  : ∀ n : Nat, (∀ (a1 : Int32) (a2 : Int32) (a3 : Int32) (a4 : Int32) (s : SM) (Q : Int32 → SM → Prop), ((qX12_owes n) s a1 a2 a3 a4) → Q ((lX12_owes n) s a1 a2 a3 a4).1 ((lX12_owes n) s a1 a2 a3 a4).2 → BI MX12_owes 3 29 [(0, .ref 248), (1, .int a1), (2, .int a2), (3, .int a3), (4, .int a4)] s Q) := by
  intro n
  induction n with
  | zero => exact fun _ _ _ _ _ _ hq _ => absurd hq id
  | succ n ih =>
    intro a1 a2 a3 a4 s Q hr h
    replace hr : uX12_owes_29 (qX12_owes n) s a1 a2 a3 a4 := hr
    replace h : Q (tX12_owes_29 (lX12_owes n) s a1 a2 a3 a4).1 (tX12_owes_29 (lX12_owes n) s a1 a2 a3 a4).2 := h
    unfold uX12_owes_29 at hr
    unfold tX12_owes_29 at h
    refine bX12_owes_29 a1 a2 a3 a4 ?_
    refine ⟨fun c => ?_, fun c => ?_⟩
    · replace h := q3p c h
      first | exact h | contradiction
    · replace hr := hr c
      replace h := q3n c h
      refine ⟨hr.1, ?_⟩
      replace hr := hr.2
      refine ⟨fun c => ?_, fun c => ?_⟩
      · replace hr := hr.1 c
        replace h := q3p c h
        first | exact ih a1 a2 a3 (a4 + 1) _ Q hr h | contradiction
      · replace hr := hr.2 c
        replace h := q3n c h
        refine ⟨hr.1, ?_⟩
        replace hr := hr.2
        refine ⟨fun c => ?_, fun c => ?_⟩
        · replace hr := hr.1 c
          replace h := q3n c h
          first | exact ih a1 a2 a3 (a4 + 1) _ Q hr h | contradiction
        · replace hr := hr.2 c
          replace h := q3p c h
          refine ⟨hr.1, ?_⟩
          replace hr := hr.2
          first | exact ih a1 a2 (a3 ||| ((1 : Int32) <<< ((vX12_of s a4 ((1 : Int32) - a2)) &&& 31))) (a4 + 1) _ Q hr h | contradiction
set_option maxRecDepth 1000000 in
theorem pX12_owes (a1 : Int32) (a2 : Int32) {s : SM} {Q : Int32 → SM → Prop} (hr : rX12_owes s a1 a2) (h : Q (vX12_owes s a1 a2) (mX12_owes s a1 a2)) : KI MX12_owes 3 [.ref 248, .int a1, .int a2] s Q := by
  replace h : Q (fX12_owes s a1 a2).1 (fX12_owes s a1 a2).2 := h
  unfold rX12_owes at hr
  unfold fX12_owes at h
  refine bX12_owes a1 a2 ?_
  refine ⟨fun c => ?_, fun c => ?_⟩
  · replace h := q3p c h
    first | exact h | contradiction
  · replace hr := hr c
    replace h := q3n c h
    refine ⟨fun c => ?_, fun c => ?_⟩
    · replace hr := hr c
      replace h := q3n c h
      first | exact (gX12_owes  FU) a1 a2 (0 : Int32) (0 : Int32) _ Q hr h | contradiction
    · replace h := q3p c h
      first | exact h | contradiction
set_option maxRecDepth 1000000 in
theorem bX12_portLine_324 (a1 : Int32) {s : SM} {Q : Int32 → SM → Prop} (h : ((a1 = 0 → (((gI s 248 21) = 0 → BI MX12_portLine 3 351 [(0, .ref 248), (1, .int a1)] s Q) ∧ (¬ (gI s 248 21) = 0 → Q (vX12_bad s (3 : Int32)) (mX12_bad s (3 : Int32))))) ∧ (¬ a1 = 0 → (((gI s 248 20) = 0 → BI MX12_portLine 3 351 [(0, .ref 248), (1, .int a1)] s Q) ∧ (¬ (gI s 248 20) = 0 → Q (vX12_bad s (3 : Int32)) (mX12_bad s (3 : Int32))))))) : BI MX12_portLine 3 324 [(0, .ref 248), (1, .int a1)] s Q := by
  refine JT_iload_n (q := 1) dX12_portLine_324 rfl rfl ?_
  refine JT_if_eq (tgt := 338) dX12_portLine_325 (by decide) (fun hc5 => ?_) (fun hc5 => ?_)
  · have h := h.1 hc5
    refine JT_aload_n (q := 0) dX12_portLine_338 rfl rfl ?_
    refine JS_getI dX12_portLine_339 flX12_235 BS_248 (Nat.le_of_ble_eq_true rfl) (Nat.le_of_ble_eq_true rfl) (Or.inr ct_12_21) ?_
    refine JT_if_eq (tgt := 351) dX12_portLine_342 (by decide) (fun hc2 => ?_) (fun hc2 => ?_)
    · have h := h.1 hc2
      exact JT_sub [0, 1] rfl h
    · have h := h.2 hc2
      refine JT_aload_n (q := 0) dX12_portLine_345 rfl rfl ?_
      refine JT_iconst (v := 3) dX12_portLine_346 ic_3 ?_
      refine JS_callVI (M' := MX12_bad) (d' := 0) (As := [.int (3 : Int32)]) (rest := []) (P := (fun zv9 wm9 => (vX12_bad s (3 : Int32)) = zv9 ∧ (mX12_bad s (3 : Int32)) = wm9)) dX12_portLine_347 cvX12_196 okX12_bad rfl (Nat.le_of_ble_eq_true rfl) BS_248 (Nat.le_of_ble_eq_true rfl) (Nat.le_of_ble_eq_true rfl) hci_12 (Nat.le_of_ble_eq_true rfl) (Nat.le_of_ble_eq_true rfl) (pX12_bad  ((3 : Int32))  ⟨rfl, rfl⟩) (fun zv9 wm9 hq9 => ?_)
      obtain ⟨rfl, rfl⟩ := hq9
      exact JS_iret dX12_portLine_350 rfl (n01 (zX12_bad s (3 : Int32))) h
  · have h := h.2 hc5
    refine JT_aload_n (q := 0) dX12_portLine_328 rfl rfl ?_
    refine JS_getI dX12_portLine_329 flX12_231 BS_248 (Nat.le_of_ble_eq_true rfl) (Nat.le_of_ble_eq_true rfl) (Or.inr ct_12_20) ?_
    refine JT_if_eq (tgt := 351) dX12_portLine_332 (by decide) (fun hc4 => ?_) (fun hc4 => ?_)
    · have h := h.1 hc4
      exact JT_sub [0, 1] rfl h
    · have h := h.2 hc4
      refine JT_goto (tgt := 345) dX12_portLine_335 (by decide) ?_
      refine JT_aload_n (q := 0) dX12_portLine_345 rfl rfl ?_
      refine JT_iconst (v := 3) dX12_portLine_346 ic_3 ?_
      refine JS_callVI (M' := MX12_bad) (d' := 0) (As := [.int (3 : Int32)]) (rest := []) (P := (fun zv9 wm9 => (vX12_bad s (3 : Int32)) = zv9 ∧ (mX12_bad s (3 : Int32)) = wm9)) dX12_portLine_347 cvX12_196 okX12_bad rfl (Nat.le_of_ble_eq_true rfl) BS_248 (Nat.le_of_ble_eq_true rfl) (Nat.le_of_ble_eq_true rfl) hci_12 (Nat.le_of_ble_eq_true rfl) (Nat.le_of_ble_eq_true rfl) (pX12_bad  ((3 : Int32))  ⟨rfl, rfl⟩) (fun zv9 wm9 hq9 => ?_)
      obtain ⟨rfl, rfl⟩ := hq9
      exact JS_iret dX12_portLine_350 rfl (n01 (zX12_bad s (3 : Int32))) h
set_option maxRecDepth 1000000 in
theorem bX12_portLine_351 (a1 : Int32) {s : SM} {Q : Int32 → SM → Prop} (h : (∀ s1, s1 = (pI (pI s 248 20 (if (gI s 248 20) = 0 then (if a1 = 0 then (0 : Int32) else (1 : Int32)) else (1 : Int32))) 248 21 (if (gI (pI s 248 20 (if (gI s 248 20) = 0 then (if a1 = 0 then (0 : Int32) else (1 : Int32)) else (1 : Int32))) 248 21) = 0 then (if a1 = 0 then (1 : Int32) else (0 : Int32)) else (1 : Int32))) → rX12_next s1  ∧ rX12_takes (mX12_next s1 ) (0 : Int32) (9 : Int32) ∧ ((¬ (vX12_takes (mX12_next s1 ) (0 : Int32) (9 : Int32)) = 0 → vp_in (if a1 = 0 then (3 : Int32) else (2 : Int32)) 34 ∧ (∀ s3, s3 = (pI (mX12_takes (mX12_next s1 ) (0 : Int32) (9 : Int32)) 251 ((if a1 = 0 then (3 : Int32) else (2 : Int32))).toNatClampNeg (gI (mX12_takes (mX12_next s1 ) (0 : Int32) (9 : Int32)) 248 18)) → Q (1 : Int32) s3)) ∧ ((vX12_takes (mX12_next s1 ) (0 : Int32) (9 : Int32)) = 0 → Q (0 : Int32) (mX12_takes (mX12_next s1 ) (0 : Int32) (9 : Int32)))))) : BI MX12_portLine 3 351 [(0, .ref 248), (1, .int a1)] s Q := by
  refine JT_aload_n (q := 0) dX12_portLine_351 rfl rfl ?_
  refine JT_aload_n (q := 0) dX12_portLine_352 rfl rfl ?_
  refine JS_getI dX12_portLine_353 flX12_231 BS_248 (Nat.le_of_ble_eq_true rfl) (Nat.le_of_ble_eq_true rfl) (Or.inr ct_12_20) ?_
  have hj12 : ∀ v : Int32, v = (if (gI s 248 20) = 0 then (if a1 = 0 then (0 : Int32) else (1 : Int32)) else (1 : Int32)) → JT MX12_portLine 3 0 0 368 [(0, .ref 248), (1, .int a1)] [.int v, .ref 248] (std s) (KQ Q) := by
    intro v hv
    subst hv
    refine JS_putZ dX12_portLine_368 flX12_231 BS_248 (Nat.le_of_ble_eq_true rfl) (Nat.le_of_ble_eq_true rfl) ct_12_20 (i01 (i01 (Or.inl rfl) (Or.inr rfl)) (Or.inr rfl)) ?_
    refine JT_aload_n (q := 0) dX12_portLine_371 rfl rfl ?_
    refine JT_aload_n (q := 0) dX12_portLine_372 rfl rfl ?_
    refine JS_getI dX12_portLine_373 flX12_235 BS_248 (Nat.le_of_ble_eq_true rfl) (Nat.le_of_ble_eq_true rfl) (Or.inr ct_12_21) ?_
    have hj9 : ∀ v : Int32, v = (if (gI (pI s 248 20 (if (gI s 248 20) = 0 then (if a1 = 0 then (0 : Int32) else (1 : Int32)) else (1 : Int32))) 248 21) = 0 then (if a1 = 0 then (1 : Int32) else (0 : Int32)) else (1 : Int32)) → JT MX12_portLine 3 0 0 388 [(0, .ref 248), (1, .int a1)] [.int v, .ref 248] (std (pI s 248 20 (if (gI s 248 20) = 0 then (if a1 = 0 then (0 : Int32) else (1 : Int32)) else (1 : Int32)))) (KQ Q) := by
      intro v hv
      subst hv
      refine JS_putZ dX12_portLine_388 flX12_235 BS_248 (Nat.le_of_ble_eq_true rfl) (Nat.le_of_ble_eq_true rfl) ct_12_21 (i01 (i01 (Or.inr rfl) (Or.inl rfl)) (Or.inr rfl)) ?_
      obtain ⟨s1, hs1⟩ : ∃ z, z = (pI (pI s 248 20 (if (gI s 248 20) = 0 then (if a1 = 0 then (0 : Int32) else (1 : Int32)) else (1 : Int32))) 248 21 (if (gI (pI s 248 20 (if (gI s 248 20) = 0 then (if a1 = 0 then (0 : Int32) else (1 : Int32)) else (1 : Int32))) 248 21) = 0 then (if a1 = 0 then (1 : Int32) else (0 : Int32)) else (1 : Int32))) := ⟨_, rfl⟩
      replace h := h s1 hs1
      rw [← hs1]
      refine JT_aload_n (q := 0) dX12_portLine_391 rfl rfl ?_
      obtain ⟨o8, h⟩ := h
      refine JS_callVV (M' := MX12_next) (d' := 1) (As := []) (rest := []) (P := (fun wm9 => (mX12_next s1 ) = wm9)) dX12_portLine_392 cvX12_199 okX12_next rfl (Nat.le_of_ble_eq_true rfl) BS_248 (Nat.le_of_ble_eq_true rfl) (Nat.le_of_ble_eq_true rfl) hci_12 (Nat.le_of_ble_eq_true rfl) (Nat.le_of_ble_eq_true rfl) (pX12_next   o8 rfl) (fun wm9 hq9 => ?_)
      subst hq9
      refine JT_aload_n (q := 0) dX12_portLine_395 rfl rfl ?_
      refine JT_iconst (v := 0) dX12_portLine_396 ic_0 ?_
      refine JT_bipush (v := 9) dX12_portLine_397 bp_9 ?_
      obtain ⟨o7, h⟩ := h
      refine JS_callVI (M' := MX12_takes) (d' := 2) (As := [.int (0 : Int32), .int (9 : Int32)]) (rest := []) (P := (fun zv9 wm9 => (vX12_takes (mX12_next s1 ) (0 : Int32) (9 : Int32)) = zv9 ∧ (mX12_takes (mX12_next s1 ) (0 : Int32) (9 : Int32)) = wm9)) dX12_portLine_399 cvX12_224 okX12_takes rfl (Nat.le_of_ble_eq_true rfl) BS_248 (Nat.le_of_ble_eq_true rfl) (Nat.le_of_ble_eq_true rfl) hci_12 (Nat.le_of_ble_eq_true rfl) (Nat.le_of_ble_eq_true rfl) (pX12_takes  ((0 : Int32)) ((9 : Int32)) o7 ⟨rfl, rfl⟩) (fun zv9 wm9 hq9 => ?_)
      obtain ⟨rfl, rfl⟩ := hq9
      refine JT_if_ne (tgt := 407) dX12_portLine_402 (by decide) (fun hc6 => ?_) (fun hc6 => ?_)
      · have h := h.1 hc6
        refine JT_aload_n (q := 0) dX12_portLine_407 rfl rfl ?_
        refine JS_getR (x := 251) dX12_portLine_408 flX12_37 BS_248 (Nat.le_of_ble_eq_true rfl) (Nat.le_of_ble_eq_true rfl) (Or.inr ⟨_, ct_12_7⟩) RF_248_7 ?_
        refine JT_iload_n (q := 1) dX12_portLine_411 rfl rfl ?_
        have hj4 : ∀ v : Int32, v = (if a1 = 0 then (3 : Int32) else (2 : Int32)) → JT MX12_portLine 3 0 0 420 [(0, .ref 248), (1, .int a1)] [.int v, .ref 251] (std (mX12_takes (mX12_next s1 ) (0 : Int32) (9 : Int32))) (KQ Q) := by
          intro v hv
          subst hv
          refine JT_aload_n (q := 0) dX12_portLine_420 rfl rfl ?_
          refine JS_getI dX12_portLine_421 flX12_206 BS_248 (Nat.le_of_ble_eq_true rfl) (Nat.le_of_ble_eq_true rfl) (Or.inl ct_12_18) ?_
          obtain ⟨o2, h⟩ := h
          refine JS_iast dX12_portLine_424 BS_251 (Nat.le_of_ble_eq_true rfl) (Nat.le_of_ble_eq_true rfl) o2 ?_
          obtain ⟨s3, hs3⟩ : ∃ z, z = (pI (mX12_takes (mX12_next s1 ) (0 : Int32) (9 : Int32)) 251 ((if a1 = 0 then (3 : Int32) else (2 : Int32))).toNatClampNeg (gI (mX12_takes (mX12_next s1 ) (0 : Int32) (9 : Int32)) 248 18)) := ⟨_, rfl⟩
          replace h := h s3 hs3
          rw [← hs3]
          refine JT_iconst (v := 1) dX12_portLine_425 ic_1 ?_
          exact JS_iret dX12_portLine_426 rfl (n01 (Or.inr rfl)) h
        refine JT_if_eq (tgt := 419) dX12_portLine_412 (by decide) (fun hc5 => ?_) (fun hc5 => ?_)
        · refine JT_iconst (v := 3) dX12_portLine_419 ic_3 ?_
          exact hj4 _ (by rw [if_pos hc5])
        · refine JT_iconst (v := 2) dX12_portLine_415 ic_2 ?_
          refine JT_goto (tgt := 420) dX12_portLine_416 (by decide) ?_
          exact hj4 _ (by rw [if_neg hc5])
      · have h := h.2 hc6
        refine JT_iconst (v := 0) dX12_portLine_405 ic_0 ?_
        exact JS_iret dX12_portLine_406 rfl (n01 (Or.inl rfl)) h
    refine JT_if_ne (tgt := 383) dX12_portLine_376 (by decide) (fun hc10 => ?_) (fun hc10 => ?_)
    · refine JT_iconst (v := 1) dX12_portLine_383 ic_1 ?_
      refine JT_goto (tgt := 388) dX12_portLine_384 (by decide) ?_
      exact hj9 _ (by rw [if_neg hc10])
    · refine JT_iload_n (q := 1) dX12_portLine_379 rfl rfl ?_
      refine JT_if_ne (tgt := 387) dX12_portLine_380 (by decide) (fun hc11 => ?_) (fun hc11 => ?_)
      · refine JT_iconst (v := 0) dX12_portLine_387 ic_0 ?_
        exact hj9 _ (by rw [if_pos hc10, if_neg hc11])
      · refine JT_iconst (v := 1) dX12_portLine_383 ic_1 ?_
        refine JT_goto (tgt := 388) dX12_portLine_384 (by decide) ?_
        exact hj9 _ (by rw [if_pos hc10, if_pos hc11])
  refine JT_if_ne (tgt := 363) dX12_portLine_356 (by decide) (fun hc13 => ?_) (fun hc13 => ?_)
  · refine JT_iconst (v := 1) dX12_portLine_363 ic_1 ?_
    refine JT_goto (tgt := 368) dX12_portLine_364 (by decide) ?_
    exact hj12 _ (by rw [if_neg hc13])
  · refine JT_iload_n (q := 1) dX12_portLine_359 rfl rfl ?_
    refine JT_if_eq (tgt := 367) dX12_portLine_360 (by decide) (fun hc14 => ?_) (fun hc14 => ?_)
    · refine JT_iconst (v := 0) dX12_portLine_367 ic_0 ?_
      exact hj12 _ (by rw [if_pos hc13, if_pos hc14])
    · refine JT_iconst (v := 1) dX12_portLine_363 ic_1 ?_
      refine JT_goto (tgt := 368) dX12_portLine_364 (by decide) ?_
      exact hj12 _ (by rw [if_pos hc13, if_neg hc14])
set_option maxRecDepth 1000000 in
theorem bX12_portLine  {s : SM} {Q : Int32 → SM → Prop} (h : (((vX12_isWord s (1651467385 : Int64)) = 0 → (((vX12_isWord s (1802071652 : Int64)) = 0 → ((¬ (vX12_isWord s (1818848869 : Int64)) = 0 → BI MX12_portLine 3 324 [(0, .ref 248), (1, .int (vX12_isWord s (1818848869 : Int64)))] s Q) ∧ ((vX12_isWord s (1818848869 : Int64)) = 0 → ((¬ (vX12_isWord s (6582132 : Int64)) = 0 → BI MX12_portLine 3 324 [(0, .ref 248), (1, .int (vX12_isWord s (1818848869 : Int64)))] s Q) ∧ ((vX12_isWord s (6582132 : Int64)) = 0 → Q (vX12_bad s (1 : Int32)) (mX12_bad s (1 : Int32))))))) ∧ (¬ (vX12_isWord s (1802071652 : Int64)) = 0 → ((¬ (gI s 251 ((1 : Int32)).toNatClampNeg) = (6 : Int32) → rX12_next s  ∧ rX12_fresh (mX12_next s ) ((24 : Int32) + (gI s 251 ((1 : Int32)).toNatClampNeg)) ∧ ((¬ (vX12_fresh (mX12_next s ) ((24 : Int32) + (gI s 251 ((1 : Int32)).toNatClampNeg))) = 0 → rX12_takes (mX12_fresh (mX12_next s ) ((24 : Int32) + (gI s 251 ((1 : Int32)).toNatClampNeg))) (1 : Int32) (9 : Int32) ∧ ((¬ (vX12_takes (mX12_fresh (mX12_next s ) ((24 : Int32) + (gI s 251 ((1 : Int32)).toNatClampNeg))) (1 : Int32) (9 : Int32)) = 0 → vp_in ((22 : Int32) + (gI s 251 ((1 : Int32)).toNatClampNeg)) 34 ∧ (∀ s7, s7 = (pI (mX12_takes (mX12_fresh (mX12_next s ) ((24 : Int32) + (gI s 251 ((1 : Int32)).toNatClampNeg))) (1 : Int32) (9 : Int32)) 251 (((22 : Int32) + (gI s 251 ((1 : Int32)).toNatClampNeg))).toNatClampNeg (gI (mX12_takes (mX12_fresh (mX12_next s ) ((24 : Int32) + (gI s 251 ((1 : Int32)).toNatClampNeg))) (1 : Int32) (9 : Int32)) 248 18)) → (((vX12_isWord s7 (28270047624193380 : Int64)) = 0 → (((vX12_isWord s7 (114767640814948 : Int64)) = 0 → (((vX12_isWord s7 (439721161573 : Int64)) = 0 → vp_in ((28 : Int32) + (gI s 251 ((1 : Int32)).toNatClampNeg)) 34 ∧ (∀ s9, s9 = (pI s7 251 (((28 : Int32) + (gI s 251 ((1 : Int32)).toNatClampNeg))).toNatClampNeg (if (vX12_isWord s7 (457135713908 : Int64)) = 0 then (0 : Int32) else (4 : Int32))) → vp_in ((28 : Int32) + (gI s 251 ((1 : Int32)).toNatClampNeg)) 34 ∧ (((gI s9 251 (((28 : Int32) + (gI s 251 ((1 : Int32)).toNatClampNeg))).toNatClampNeg) ≤ 0 → Q (1 : Int32) (pI s9 251 ((1 : Int32)).toNatClampNeg ((gI s9 251 ((1 : Int32)).toNatClampNeg) + (1 : Int32)))) ∧ (¬ (gI s9 251 (((28 : Int32) + (gI s 251 ((1 : Int32)).toNatClampNeg))).toNatClampNeg) ≤ 0 → rX12_next s9  ∧ (∀ s11, s11 = (pI (mX12_next s9 ) 251 ((1 : Int32)).toNatClampNeg ((gI (mX12_next s9 ) 251 ((1 : Int32)).toNatClampNeg) + (1 : Int32))) → Q (1 : Int32) s11))))) ∧ (¬ (vX12_isWord s7 (439721161573 : Int64)) = 0 → vp_in ((28 : Int32) + (gI s 251 ((1 : Int32)).toNatClampNeg)) 34 ∧ vp_in ((28 : Int32) + (gI s 251 ((1 : Int32)).toNatClampNeg)) 34 ∧ (((gI (pI s7 251 (((28 : Int32) + (gI s 251 ((1 : Int32)).toNatClampNeg))).toNatClampNeg (3 : Int32)) 251 (((28 : Int32) + (gI s 251 ((1 : Int32)).toNatClampNeg))).toNatClampNeg) ≤ 0 → (∀ s19, s19 = (pI (pI s7 251 (((28 : Int32) + (gI s 251 ((1 : Int32)).toNatClampNeg))).toNatClampNeg (3 : Int32)) 251 ((1 : Int32)).toNatClampNeg ((gI (pI s7 251 (((28 : Int32) + (gI s 251 ((1 : Int32)).toNatClampNeg))).toNatClampNeg (3 : Int32)) 251 ((1 : Int32)).toNatClampNeg) + (1 : Int32))) → Q (1 : Int32) s19)) ∧ (¬ (gI (pI s7 251 (((28 : Int32) + (gI s 251 ((1 : Int32)).toNatClampNeg))).toNatClampNeg (3 : Int32)) 251 (((28 : Int32) + (gI s 251 ((1 : Int32)).toNatClampNeg))).toNatClampNeg) ≤ 0 → rX12_next (pI s7 251 (((28 : Int32) + (gI s 251 ((1 : Int32)).toNatClampNeg))).toNatClampNeg (3 : Int32))  ∧ (∀ s20, s20 = (pI (mX12_next (pI s7 251 (((28 : Int32) + (gI s 251 ((1 : Int32)).toNatClampNeg))).toNatClampNeg (3 : Int32)) ) 251 ((1 : Int32)).toNatClampNeg ((gI (mX12_next (pI s7 251 (((28 : Int32) + (gI s 251 ((1 : Int32)).toNatClampNeg))).toNatClampNeg (3 : Int32)) ) 251 ((1 : Int32)).toNatClampNeg) + (1 : Int32))) → Q (1 : Int32) s20)))))) ∧ (¬ (vX12_isWord s7 (114767640814948 : Int64)) = 0 → vp_in ((28 : Int32) + (gI s 251 ((1 : Int32)).toNatClampNeg)) 34 ∧ vp_in ((28 : Int32) + (gI s 251 ((1 : Int32)).toNatClampNeg)) 34 ∧ (((gI (pI s7 251 (((28 : Int32) + (gI s 251 ((1 : Int32)).toNatClampNeg))).toNatClampNeg (2 : Int32)) 251 (((28 : Int32) + (gI s 251 ((1 : Int32)).toNatClampNeg))).toNatClampNeg) ≤ 0 → (∀ s27, s27 = (pI (pI s7 251 (((28 : Int32) + (gI s 251 ((1 : Int32)).toNatClampNeg))).toNatClampNeg (2 : Int32)) 251 ((1 : Int32)).toNatClampNeg ((gI (pI s7 251 (((28 : Int32) + (gI s 251 ((1 : Int32)).toNatClampNeg))).toNatClampNeg (2 : Int32)) 251 ((1 : Int32)).toNatClampNeg) + (1 : Int32))) → Q (1 : Int32) s27)) ∧ (¬ (gI (pI s7 251 (((28 : Int32) + (gI s 251 ((1 : Int32)).toNatClampNeg))).toNatClampNeg (2 : Int32)) 251 (((28 : Int32) + (gI s 251 ((1 : Int32)).toNatClampNeg))).toNatClampNeg) ≤ 0 → rX12_next (pI s7 251 (((28 : Int32) + (gI s 251 ((1 : Int32)).toNatClampNeg))).toNatClampNeg (2 : Int32))  ∧ (∀ s28, s28 = (pI (mX12_next (pI s7 251 (((28 : Int32) + (gI s 251 ((1 : Int32)).toNatClampNeg))).toNatClampNeg (2 : Int32)) ) 251 ((1 : Int32)).toNatClampNeg ((gI (mX12_next (pI s7 251 (((28 : Int32) + (gI s 251 ((1 : Int32)).toNatClampNeg))).toNatClampNeg (2 : Int32)) ) 251 ((1 : Int32)).toNatClampNeg) + (1 : Int32))) → Q (1 : Int32) s28)))))) ∧ (¬ (vX12_isWord s7 (28270047624193380 : Int64)) = 0 → vp_in ((28 : Int32) + (gI s 251 ((1 : Int32)).toNatClampNeg)) 34 ∧ vp_in ((28 : Int32) + (gI s 251 ((1 : Int32)).toNatClampNeg)) 34 ∧ (((gI (pI s7 251 (((28 : Int32) + (gI s 251 ((1 : Int32)).toNatClampNeg))).toNatClampNeg (1 : Int32)) 251 (((28 : Int32) + (gI s 251 ((1 : Int32)).toNatClampNeg))).toNatClampNeg) ≤ 0 → (∀ s35, s35 = (pI (pI s7 251 (((28 : Int32) + (gI s 251 ((1 : Int32)).toNatClampNeg))).toNatClampNeg (1 : Int32)) 251 ((1 : Int32)).toNatClampNeg ((gI (pI s7 251 (((28 : Int32) + (gI s 251 ((1 : Int32)).toNatClampNeg))).toNatClampNeg (1 : Int32)) 251 ((1 : Int32)).toNatClampNeg) + (1 : Int32))) → Q (1 : Int32) s35)) ∧ (¬ (gI (pI s7 251 (((28 : Int32) + (gI s 251 ((1 : Int32)).toNatClampNeg))).toNatClampNeg (1 : Int32)) 251 (((28 : Int32) + (gI s 251 ((1 : Int32)).toNatClampNeg))).toNatClampNeg) ≤ 0 → rX12_next (pI s7 251 (((28 : Int32) + (gI s 251 ((1 : Int32)).toNatClampNeg))).toNatClampNeg (1 : Int32))  ∧ (∀ s36, s36 = (pI (mX12_next (pI s7 251 (((28 : Int32) + (gI s 251 ((1 : Int32)).toNatClampNeg))).toNatClampNeg (1 : Int32)) ) 251 ((1 : Int32)).toNatClampNeg ((gI (mX12_next (pI s7 251 (((28 : Int32) + (gI s 251 ((1 : Int32)).toNatClampNeg))).toNatClampNeg (1 : Int32)) ) 251 ((1 : Int32)).toNatClampNeg) + (1 : Int32))) → Q (1 : Int32) s36))))))) ∧ ((vX12_takes (mX12_fresh (mX12_next s ) ((24 : Int32) + (gI s 251 ((1 : Int32)).toNatClampNeg))) (1 : Int32) (9 : Int32)) = 0 → Q (0 : Int32) (mX12_takes (mX12_fresh (mX12_next s ) ((24 : Int32) + (gI s 251 ((1 : Int32)).toNatClampNeg))) (1 : Int32) (9 : Int32))))) ∧ ((vX12_fresh (mX12_next s ) ((24 : Int32) + (gI s 251 ((1 : Int32)).toNatClampNeg))) = 0 → Q (0 : Int32) (mX12_fresh (mX12_next s ) ((24 : Int32) + (gI s 251 ((1 : Int32)).toNatClampNeg)))))) ∧ ((gI s 251 ((1 : Int32)).toNatClampNeg) = (6 : Int32) → Q (vX12_bad s (4 : Int32)) (mX12_bad s (4 : Int32))))))) ∧ (¬ (vX12_isWord s (1651467385 : Int64)) = 0 → ((¬ (gI s 251 ((0 : Int32)).toNatClampNeg) = (9 : Int32) → rX12_next s  ∧ rX12_fresh (mX12_next s ) ((15 : Int32) + (gI s 251 ((0 : Int32)).toNatClampNeg)) ∧ ((¬ (vX12_fresh (mX12_next s ) ((15 : Int32) + (gI s 251 ((0 : Int32)).toNatClampNeg))) = 0 → rX12_takes (mX12_fresh (mX12_next s ) ((15 : Int32) + (gI s 251 ((0 : Int32)).toNatClampNeg))) (1 : Int32) (99 : Int32) ∧ (∀ s50, s50 = (mX12_takes (mX12_fresh (mX12_next s ) ((15 : Int32) + (gI s 251 ((0 : Int32)).toNatClampNeg))) (1 : Int32) (99 : Int32)) → ((¬ (vX12_takes (mX12_fresh (mX12_next s ) ((15 : Int32) + (gI s 251 ((0 : Int32)).toNatClampNeg))) (1 : Int32) (99 : Int32)) = 0 → vp_in ((4 : Int32) + (gI s 251 ((0 : Int32)).toNatClampNeg)) 34 ∧ vp_in ((13 : Int32) + (gI s 251 ((0 : Int32)).toNatClampNeg)) 34 ∧ (∀ s53, s53 = (pI (pI s50 251 (((4 : Int32) + (gI s 251 ((0 : Int32)).toNatClampNeg))).toNatClampNeg (gI s50 248 18)) 251 (((13 : Int32) + (gI s 251 ((0 : Int32)).toNatClampNeg))).toNatClampNeg (-1 : Int32)) → (((vX12_isWord s53 (7039342 : Int64)) = 0 → Q (1 : Int32) (pI s53 251 ((0 : Int32)).toNatClampNeg ((gI s53 251 ((0 : Int32)).toNatClampNeg) + (1 : Int32)))) ∧ (¬ (vX12_isWord s53 (7039342 : Int64)) = 0 → rX12_next s53  ∧ rX12_takesName (mX12_next s53 ) (15 : Int32) (gI s 251 ((0 : Int32)).toNatClampNeg) ∧ ((¬ (vX12_takesName (mX12_next s53 ) (15 : Int32) (gI s 251 ((0 : Int32)).toNatClampNeg)) = 0 → vp_in ((13 : Int32) + (gI s 251 ((0 : Int32)).toNatClampNeg)) 34 ∧ (∀ s55, s55 = (pI (mX12_takesName (mX12_next s53 ) (15 : Int32) (gI s 251 ((0 : Int32)).toNatClampNeg)) 251 (((13 : Int32) + (gI s 251 ((0 : Int32)).toNatClampNeg))).toNatClampNeg (gI (mX12_takesName (mX12_next s53 ) (15 : Int32) (gI s 251 ((0 : Int32)).toNatClampNeg)) 248 18)) → Q (1 : Int32) (pI s55 251 ((0 : Int32)).toNatClampNeg ((gI s55 251 ((0 : Int32)).toNatClampNeg) + (1 : Int32))))) ∧ ((vX12_takesName (mX12_next s53 ) (15 : Int32) (gI s 251 ((0 : Int32)).toNatClampNeg)) = 0 → Q (0 : Int32) (mX12_takesName (mX12_next s53 ) (15 : Int32) (gI s 251 ((0 : Int32)).toNatClampNeg)))))))) ∧ ((vX12_takes (mX12_fresh (mX12_next s ) ((15 : Int32) + (gI s 251 ((0 : Int32)).toNatClampNeg))) (1 : Int32) (99 : Int32)) = 0 → Q (0 : Int32) s50)))) ∧ ((vX12_fresh (mX12_next s ) ((15 : Int32) + (gI s 251 ((0 : Int32)).toNatClampNeg))) = 0 → Q (0 : Int32) (mX12_fresh (mX12_next s ) ((15 : Int32) + (gI s 251 ((0 : Int32)).toNatClampNeg)))))) ∧ ((gI s 251 ((0 : Int32)).toNatClampNeg) = (9 : Int32) → Q (vX12_bad s (4 : Int32)) (mX12_bad s (4 : Int32))))))) : KI MX12_portLine 3 [.ref 248] s Q := by
  show BI MX12_portLine 3 0 [(0, .ref 248)] s Q
  refine JT_aload_n (q := 0) dX12_portLine_0 rfl rfl ?_
  refine JT_ldc2 dX12_portLine_1 kwX12_126 ?_
  refine JS_callVI (M' := MX12_isWord) (d' := 0) (As := [.long (1651467385 : Int64)]) (rest := []) (P := (fun zv9 wm9 => (vX12_isWord s (1651467385 : Int64)) = zv9 ∧ s = wm9)) dX12_portLine_4 cvX12_217 okX12_isWord rfl (Nat.le_of_ble_eq_true rfl) BS_248 (Nat.le_of_ble_eq_true rfl) (Nat.le_of_ble_eq_true rfl) hci_12 (Nat.le_of_ble_eq_true rfl) (Nat.le_of_ble_eq_true rfl) (pX12_isWord  ((1651467385 : Int64))  ⟨rfl, rfl⟩) (fun zv9 wm9 hq9 => ?_)
  obtain ⟨rfl, rfl⟩ := hq9
  refine JT_if_eq (tgt := 131) dX12_portLine_7 (by decide) (fun hc68 => ?_) (fun hc68 => ?_)
  · have h := h.1 hc68
    refine JT_aload_n (q := 0) dX12_portLine_131 rfl rfl ?_
    refine JT_ldc2 dX12_portLine_132 kwX12_130 ?_
    refine JS_callVI (M' := MX12_isWord) (d' := 0) (As := [.long (1802071652 : Int64)]) (rest := []) (P := (fun zv9 wm9 => (vX12_isWord s (1802071652 : Int64)) = zv9 ∧ s = wm9)) dX12_portLine_135 cvX12_217 okX12_isWord rfl (Nat.le_of_ble_eq_true rfl) BS_248 (Nat.le_of_ble_eq_true rfl) (Nat.le_of_ble_eq_true rfl) hci_12 (Nat.le_of_ble_eq_true rfl) (Nat.le_of_ble_eq_true rfl) (pX12_isWord  ((1802071652 : Int64))  ⟨rfl, rfl⟩) (fun zv9 wm9 hq9 => ?_)
    obtain ⟨rfl, rfl⟩ := hq9
    refine JT_if_eq (tgt := 296) dX12_portLine_138 (by decide) (fun hc48 => ?_) (fun hc48 => ?_)
    · have h := h.1 hc48
      refine JT_aload_n (q := 0) dX12_portLine_296 rfl rfl ?_
      refine JT_ldc2 dX12_portLine_297 kwX12_140 ?_
      refine JS_callVI (M' := MX12_isWord) (d' := 0) (As := [.long (1818848869 : Int64)]) (rest := []) (P := (fun zv9 wm9 => (vX12_isWord s (1818848869 : Int64)) = zv9 ∧ s = wm9)) dX12_portLine_300 cvX12_217 okX12_isWord rfl (Nat.le_of_ble_eq_true rfl) BS_248 (Nat.le_of_ble_eq_true rfl) (Nat.le_of_ble_eq_true rfl) hci_12 (Nat.le_of_ble_eq_true rfl) (Nat.le_of_ble_eq_true rfl) (pX12_isWord  ((1818848869 : Int64))  ⟨rfl, rfl⟩) (fun zv9 wm9 hq9 => ?_)
      obtain ⟨rfl, rfl⟩ := hq9
      refine JT_istore_n (lv' := [(1, .int (vX12_isWord s (1818848869 : Int64))), (0, .ref 248)]) dX12_portLine_303 rfl (Nat.le_of_ble_eq_true rfl) rfl ?_
      refine JT_iload_n (q := 0) dX12_portLine_304 rfl rfl ?_
      refine JT_if_ne (tgt := 324) dX12_portLine_305 (by decide) (fun hc4 => ?_) (fun hc4 => ?_)
      · have h := h.1 hc4
        exact JT_sub [1, 0] rfl h
      · have h := h.2 hc4
        refine JT_aload_n (q := 1) dX12_portLine_308 rfl rfl ?_
        refine JT_ldc2 dX12_portLine_309 kwX12_142 ?_
        refine JS_callVI (M' := MX12_isWord) (d' := 0) (As := [.long (6582132 : Int64)]) (rest := []) (P := (fun zv9 wm9 => (vX12_isWord s (6582132 : Int64)) = zv9 ∧ s = wm9)) dX12_portLine_312 cvX12_217 okX12_isWord rfl (Nat.le_of_ble_eq_true rfl) BS_248 (Nat.le_of_ble_eq_true rfl) (Nat.le_of_ble_eq_true rfl) hci_12 (Nat.le_of_ble_eq_true rfl) (Nat.le_of_ble_eq_true rfl) (pX12_isWord  ((6582132 : Int64))  ⟨rfl, rfl⟩) (fun zv9 wm9 hq9 => ?_)
        obtain ⟨rfl, rfl⟩ := hq9
        refine JT_if_ne (tgt := 324) dX12_portLine_315 (by decide) (fun hc2 => ?_) (fun hc2 => ?_)
        · have h := h.1 hc2
          exact JT_sub [1, 0] rfl h
        · have h := h.2 hc2
          refine JT_aload_n (q := 1) dX12_portLine_318 rfl rfl ?_
          refine JT_iconst (v := 1) dX12_portLine_319 ic_1 ?_
          refine JS_callVI (M' := MX12_bad) (d' := 0) (As := [.int (1 : Int32)]) (rest := []) (P := (fun zv9 wm9 => (vX12_bad s (1 : Int32)) = zv9 ∧ (mX12_bad s (1 : Int32)) = wm9)) dX12_portLine_320 cvX12_196 okX12_bad rfl (Nat.le_of_ble_eq_true rfl) BS_248 (Nat.le_of_ble_eq_true rfl) (Nat.le_of_ble_eq_true rfl) hci_12 (Nat.le_of_ble_eq_true rfl) (Nat.le_of_ble_eq_true rfl) (pX12_bad  ((1 : Int32))  ⟨rfl, rfl⟩) (fun zv9 wm9 hq9 => ?_)
          obtain ⟨rfl, rfl⟩ := hq9
          exact JS_iret dX12_portLine_323 rfl (n01 (zX12_bad s (1 : Int32))) h
    · have h := h.2 hc48
      refine JT_aload_n (q := 0) dX12_portLine_141 rfl rfl ?_
      refine JS_getR (x := 251) dX12_portLine_142 flX12_37 BS_248 (Nat.le_of_ble_eq_true rfl) (Nat.le_of_ble_eq_true rfl) (Or.inr ⟨_, ct_12_7⟩) RF_248_7 ?_
      refine JT_iconst (v := 1) dX12_portLine_145 ic_1 ?_
      refine JS_iald dX12_portLine_146 BS_251 (Nat.le_of_ble_eq_true rfl) (Nat.le_of_ble_eq_true rfl) (by unfold vp_in; decide) ?_
      refine JT_istore_n (lv' := [(1, .int (gI s 251 ((1 : Int32)).toNatClampNeg)), (0, .ref 248)]) dX12_portLine_147 rfl (Nat.le_of_ble_eq_true rfl) rfl ?_
      refine JT_iload_n (q := 0) dX12_portLine_148 rfl rfl ?_
      refine JT_bipush (v := 6) dX12_portLine_149 bp_6 ?_
      refine JT_icmp_ne (tgt := 160) dX12_portLine_151 (by decide) (fun hc47 => ?_) (fun hc47 => ?_)
      · have h := h.1 hc47
        refine JT_aload_n (q := 1) dX12_portLine_160 rfl rfl ?_
        obtain ⟨o45, h⟩ := h
        refine JS_callVV (M' := MX12_next) (d' := 1) (As := []) (rest := []) (P := (fun wm9 => (mX12_next s ) = wm9)) dX12_portLine_161 cvX12_199 okX12_next rfl (Nat.le_of_ble_eq_true rfl) BS_248 (Nat.le_of_ble_eq_true rfl) (Nat.le_of_ble_eq_true rfl) hci_12 (Nat.le_of_ble_eq_true rfl) (Nat.le_of_ble_eq_true rfl) (pX12_next   o45 rfl) (fun wm9 hq9 => ?_)
        subst hq9
        refine JT_aload_n (q := 1) dX12_portLine_164 rfl rfl ?_
        refine JT_bipush (v := 24) dX12_portLine_165 bp_24 ?_
        refine JT_iload_n (q := 0) dX12_portLine_167 rfl rfl ?_
        refine JT_iadd dX12_portLine_168 ?_
        obtain ⟨o44, h⟩ := h
        refine JS_callVI (M' := MX12_fresh) (d' := 2) (As := [.int ((24 : Int32) + (gI s 251 ((1 : Int32)).toNatClampNeg))]) (rest := []) (P := (fun zv9 wm9 => (vX12_fresh (mX12_next s ) ((24 : Int32) + (gI s 251 ((1 : Int32)).toNatClampNeg))) = zv9 ∧ (mX12_fresh (mX12_next s ) ((24 : Int32) + (gI s 251 ((1 : Int32)).toNatClampNeg))) = wm9)) dX12_portLine_169 cvX12_221 okX12_fresh rfl (Nat.le_of_ble_eq_true rfl) BS_248 (Nat.le_of_ble_eq_true rfl) (Nat.le_of_ble_eq_true rfl) hci_12 (Nat.le_of_ble_eq_true rfl) (Nat.le_of_ble_eq_true rfl) (pX12_fresh  (((24 : Int32) + (gI s 251 ((1 : Int32)).toNatClampNeg))) o44 ⟨rfl, rfl⟩) (fun zv9 wm9 hq9 => ?_)
        obtain ⟨rfl, rfl⟩ := hq9
        refine JT_if_ne (tgt := 177) dX12_portLine_172 (by decide) (fun hc43 => ?_) (fun hc43 => ?_)
        · have h := h.1 hc43
          refine JT_aload_n (q := 1) dX12_portLine_177 rfl rfl ?_
          refine JT_iconst (v := 1) dX12_portLine_178 ic_1 ?_
          refine JT_bipush (v := 9) dX12_portLine_179 bp_9 ?_
          obtain ⟨o42, h⟩ := h
          refine JS_callVI (M' := MX12_takes) (d' := 2) (As := [.int (1 : Int32), .int (9 : Int32)]) (rest := []) (P := (fun zv9 wm9 => (vX12_takes (mX12_fresh (mX12_next s ) ((24 : Int32) + (gI s 251 ((1 : Int32)).toNatClampNeg))) (1 : Int32) (9 : Int32)) = zv9 ∧ (mX12_takes (mX12_fresh (mX12_next s ) ((24 : Int32) + (gI s 251 ((1 : Int32)).toNatClampNeg))) (1 : Int32) (9 : Int32)) = wm9)) dX12_portLine_181 cvX12_224 okX12_takes rfl (Nat.le_of_ble_eq_true rfl) BS_248 (Nat.le_of_ble_eq_true rfl) (Nat.le_of_ble_eq_true rfl) hci_12 (Nat.le_of_ble_eq_true rfl) (Nat.le_of_ble_eq_true rfl) (pX12_takes  ((1 : Int32)) ((9 : Int32)) o42 ⟨rfl, rfl⟩) (fun zv9 wm9 hq9 => ?_)
          obtain ⟨rfl, rfl⟩ := hq9
          refine JT_if_ne (tgt := 189) dX12_portLine_184 (by decide) (fun hc41 => ?_) (fun hc41 => ?_)
          · have h := h.1 hc41
            refine JT_aload_n (q := 1) dX12_portLine_189 rfl rfl ?_
            refine JS_getR (x := 251) dX12_portLine_190 flX12_37 BS_248 (Nat.le_of_ble_eq_true rfl) (Nat.le_of_ble_eq_true rfl) (Or.inr ⟨_, ct_12_7⟩) RF_248_7 ?_
            refine JT_bipush (v := 22) dX12_portLine_193 bp_22 ?_
            refine JT_iload_n (q := 0) dX12_portLine_195 rfl rfl ?_
            refine JT_iadd dX12_portLine_196 ?_
            refine JT_aload_n (q := 1) dX12_portLine_197 rfl rfl ?_
            refine JS_getI dX12_portLine_198 flX12_206 BS_248 (Nat.le_of_ble_eq_true rfl) (Nat.le_of_ble_eq_true rfl) (Or.inl ct_12_18) ?_
            obtain ⟨o6, h⟩ := h
            refine JS_iast dX12_portLine_201 BS_251 (Nat.le_of_ble_eq_true rfl) (Nat.le_of_ble_eq_true rfl) o6 ?_
            obtain ⟨s7, hs7⟩ : ∃ z, z = (pI (mX12_takes (mX12_fresh (mX12_next s ) ((24 : Int32) + (gI s 251 ((1 : Int32)).toNatClampNeg))) (1 : Int32) (9 : Int32)) 251 (((22 : Int32) + (gI s 251 ((1 : Int32)).toNatClampNeg))).toNatClampNeg (gI (mX12_takes (mX12_fresh (mX12_next s ) ((24 : Int32) + (gI s 251 ((1 : Int32)).toNatClampNeg))) (1 : Int32) (9 : Int32)) 248 18)) := ⟨_, rfl⟩
            replace h := h s7 hs7
            rw [← hs7]
            refine JT_aload_n (q := 1) dX12_portLine_202 rfl rfl ?_
            refine JS_getR (x := 251) dX12_portLine_203 flX12_37 BS_248 (Nat.le_of_ble_eq_true rfl) (Nat.le_of_ble_eq_true rfl) (Or.inr ⟨_, ct_12_7⟩) RF_248_7 ?_
            refine JT_bipush (v := 28) dX12_portLine_206 bp_28 ?_
            refine JT_iload_n (q := 0) dX12_portLine_208 rfl rfl ?_
            refine JT_iadd dX12_portLine_209 ?_
            refine JT_aload_n (q := 1) dX12_portLine_210 rfl rfl ?_
            refine JT_ldc2 dX12_portLine_211 kwX12_132 ?_
            refine JS_callVI (M' := MX12_isWord) (d' := 0) (As := [.long (28270047624193380 : Int64)]) (rest := [.int ((28 : Int32) + (gI s 251 ((1 : Int32)).toNatClampNeg)), .ref 251]) (P := (fun zv9 wm9 => (vX12_isWord s7 (28270047624193380 : Int64)) = zv9 ∧ s7 = wm9)) dX12_portLine_214 cvX12_217 okX12_isWord rfl (Nat.le_of_ble_eq_true rfl) BS_248 (Nat.le_of_ble_eq_true rfl) (Nat.le_of_ble_eq_true rfl) hci_12 (Nat.le_of_ble_eq_true rfl) (Nat.le_of_ble_eq_true rfl) (pX12_isWord  ((28270047624193380 : Int64))  ⟨rfl, rfl⟩) (fun zv9 wm9 hq9 => ?_)
            obtain ⟨rfl, rfl⟩ := hq9
            refine JT_if_eq (tgt := 224) dX12_portLine_217 (by decide) (fun hc39 => ?_) (fun hc39 => ?_)
            · have h := h.1 hc39
              refine JT_aload_n (q := 1) dX12_portLine_224 rfl rfl ?_
              refine JT_ldc2 dX12_portLine_225 kwX12_134 ?_
              refine JS_callVI (M' := MX12_isWord) (d' := 0) (As := [.long (114767640814948 : Int64)]) (rest := [.int ((28 : Int32) + (gI s 251 ((1 : Int32)).toNatClampNeg)), .ref 251]) (P := (fun zv9 wm9 => (vX12_isWord s7 (114767640814948 : Int64)) = zv9 ∧ s7 = wm9)) dX12_portLine_228 cvX12_217 okX12_isWord rfl (Nat.le_of_ble_eq_true rfl) BS_248 (Nat.le_of_ble_eq_true rfl) (Nat.le_of_ble_eq_true rfl) hci_12 (Nat.le_of_ble_eq_true rfl) (Nat.le_of_ble_eq_true rfl) (pX12_isWord  ((114767640814948 : Int64))  ⟨rfl, rfl⟩) (fun zv9 wm9 hq9 => ?_)
              obtain ⟨rfl, rfl⟩ := hq9
              refine JT_if_eq (tgt := 238) dX12_portLine_231 (by decide) (fun hc31 => ?_) (fun hc31 => ?_)
              · have h := h.1 hc31
                refine JT_aload_n (q := 1) dX12_portLine_238 rfl rfl ?_
                refine JT_ldc2 dX12_portLine_239 kwX12_136 ?_
                refine JS_callVI (M' := MX12_isWord) (d' := 0) (As := [.long (439721161573 : Int64)]) (rest := [.int ((28 : Int32) + (gI s 251 ((1 : Int32)).toNatClampNeg)), .ref 251]) (P := (fun zv9 wm9 => (vX12_isWord s7 (439721161573 : Int64)) = zv9 ∧ s7 = wm9)) dX12_portLine_242 cvX12_217 okX12_isWord rfl (Nat.le_of_ble_eq_true rfl) BS_248 (Nat.le_of_ble_eq_true rfl) (Nat.le_of_ble_eq_true rfl) hci_12 (Nat.le_of_ble_eq_true rfl) (Nat.le_of_ble_eq_true rfl) (pX12_isWord  ((439721161573 : Int64))  ⟨rfl, rfl⟩) (fun zv9 wm9 hq9 => ?_)
                obtain ⟨rfl, rfl⟩ := hq9
                refine JT_if_eq (tgt := 252) dX12_portLine_245 (by decide) (fun hc23 => ?_) (fun hc23 => ?_)
                · have h := h.1 hc23
                  refine JT_aload_n (q := 1) dX12_portLine_252 rfl rfl ?_
                  refine JT_ldc2 dX12_portLine_253 kwX12_138 ?_
                  refine JS_callVI (M' := MX12_isWord) (d' := 0) (As := [.long (457135713908 : Int64)]) (rest := [.int ((28 : Int32) + (gI s 251 ((1 : Int32)).toNatClampNeg)), .ref 251]) (P := (fun zv9 wm9 => (vX12_isWord s7 (457135713908 : Int64)) = zv9 ∧ s7 = wm9)) dX12_portLine_256 cvX12_217 okX12_isWord rfl (Nat.le_of_ble_eq_true rfl) BS_248 (Nat.le_of_ble_eq_true rfl) (Nat.le_of_ble_eq_true rfl) hci_12 (Nat.le_of_ble_eq_true rfl) (Nat.le_of_ble_eq_true rfl) (pX12_isWord  ((457135713908 : Int64))  ⟨rfl, rfl⟩) (fun zv9 wm9 hq9 => ?_)
                  obtain ⟨rfl, rfl⟩ := hq9
                  have hj14 : ∀ v : Int32, v = (if (vX12_isWord s7 (457135713908 : Int64)) = 0 then (0 : Int32) else (4 : Int32)) → JT MX12_portLine 3 0 0 267 [(1, .int (gI s 251 ((1 : Int32)).toNatClampNeg)), (0, .ref 248)] [.int v, .int ((28 : Int32) + (gI s 251 ((1 : Int32)).toNatClampNeg)), .ref 251] (std s7) (KQ Q) := by
                    intro v hv
                    subst hv
                    obtain ⟨o8, h⟩ := h
                    refine JS_iast dX12_portLine_267 BS_251 (Nat.le_of_ble_eq_true rfl) (Nat.le_of_ble_eq_true rfl) o8 ?_
                    obtain ⟨s9, hs9⟩ : ∃ z, z = (pI s7 251 (((28 : Int32) + (gI s 251 ((1 : Int32)).toNatClampNeg))).toNatClampNeg (if (vX12_isWord s7 (457135713908 : Int64)) = 0 then (0 : Int32) else (4 : Int32))) := ⟨_, rfl⟩
                    replace h := h s9 hs9
                    rw [← hs9]
                    refine JT_aload_n (q := 1) dX12_portLine_268 rfl rfl ?_
                    refine JS_getR (x := 251) dX12_portLine_269 flX12_37 BS_248 (Nat.le_of_ble_eq_true rfl) (Nat.le_of_ble_eq_true rfl) (Or.inr ⟨_, ct_12_7⟩) RF_248_7 ?_
                    refine JT_bipush (v := 28) dX12_portLine_272 bp_28 ?_
                    refine JT_iload_n (q := 0) dX12_portLine_274 rfl rfl ?_
                    refine JT_iadd dX12_portLine_275 ?_
                    obtain ⟨o10, h⟩ := h
                    refine JS_iald dX12_portLine_276 BS_251 (Nat.le_of_ble_eq_true rfl) (Nat.le_of_ble_eq_true rfl) o10 ?_
                    refine JT_if_le (tgt := 284) dX12_portLine_277 (by decide) (fun hc13 => ?_) (fun hc13 => ?_)
                    · have h := h.1 hc13
                      refine JT_aload_n (q := 1) dX12_portLine_284 rfl rfl ?_
                      refine JS_getR (x := 251) dX12_portLine_285 flX12_37 BS_248 (Nat.le_of_ble_eq_true rfl) (Nat.le_of_ble_eq_true rfl) (Or.inr ⟨_, ct_12_7⟩) RF_248_7 ?_
                      refine JT_iconst (v := 1) dX12_portLine_288 ic_1 ?_
                      refine JT_dup2 dX12_portLine_289 rfl rfl ?_
                      refine JS_iald dX12_portLine_290 BS_251 (Nat.le_of_ble_eq_true rfl) (Nat.le_of_ble_eq_true rfl) (by unfold vp_in; decide) ?_
                      refine JT_iconst (v := 1) dX12_portLine_291 ic_1 ?_
                      refine JT_iadd dX12_portLine_292 ?_
                      refine JS_iast dX12_portLine_293 BS_251 (Nat.le_of_ble_eq_true rfl) (Nat.le_of_ble_eq_true rfl) (by unfold vp_in; decide) ?_
                      refine JT_iconst (v := 1) dX12_portLine_294 ic_1 ?_
                      exact JS_iret dX12_portLine_295 rfl (n01 (Or.inr rfl)) h
                    · have h := h.2 hc13
                      refine JT_aload_n (q := 1) dX12_portLine_280 rfl rfl ?_
                      obtain ⟨o12, h⟩ := h
                      refine JS_callVV (M' := MX12_next) (d' := 1) (As := []) (rest := []) (P := (fun wm9 => (mX12_next s9 ) = wm9)) dX12_portLine_281 cvX12_199 okX12_next rfl (Nat.le_of_ble_eq_true rfl) BS_248 (Nat.le_of_ble_eq_true rfl) (Nat.le_of_ble_eq_true rfl) hci_12 (Nat.le_of_ble_eq_true rfl) (Nat.le_of_ble_eq_true rfl) (pX12_next   o12 rfl) (fun wm9 hq9 => ?_)
                      subst hq9
                      refine JT_aload_n (q := 1) dX12_portLine_284 rfl rfl ?_
                      refine JS_getR (x := 251) dX12_portLine_285 flX12_37 BS_248 (Nat.le_of_ble_eq_true rfl) (Nat.le_of_ble_eq_true rfl) (Or.inr ⟨_, ct_12_7⟩) RF_248_7 ?_
                      refine JT_iconst (v := 1) dX12_portLine_288 ic_1 ?_
                      refine JT_dup2 dX12_portLine_289 rfl rfl ?_
                      refine JS_iald dX12_portLine_290 BS_251 (Nat.le_of_ble_eq_true rfl) (Nat.le_of_ble_eq_true rfl) (by unfold vp_in; decide) ?_
                      refine JT_iconst (v := 1) dX12_portLine_291 ic_1 ?_
                      refine JT_iadd dX12_portLine_292 ?_
                      refine JS_iast dX12_portLine_293 BS_251 (Nat.le_of_ble_eq_true rfl) (Nat.le_of_ble_eq_true rfl) (by unfold vp_in; decide) ?_
                      obtain ⟨s11, hs11⟩ : ∃ z, z = (pI (mX12_next s9 ) 251 ((1 : Int32)).toNatClampNeg ((gI (mX12_next s9 ) 251 ((1 : Int32)).toNatClampNeg) + (1 : Int32))) := ⟨_, rfl⟩
                      replace h := h s11 hs11
                      rw [← hs11]
                      refine JT_iconst (v := 1) dX12_portLine_294 ic_1 ?_
                      exact JS_iret dX12_portLine_295 rfl (n01 (Or.inr rfl)) h
                  refine JT_if_eq (tgt := 266) dX12_portLine_259 (by decide) (fun hc15 => ?_) (fun hc15 => ?_)
                  · refine JT_iconst (v := 0) dX12_portLine_266 ic_0 ?_
                    exact hj14 _ (by rw [if_pos hc15])
                  · refine JT_iconst (v := 4) dX12_portLine_262 ic_4 ?_
                    refine JT_goto (tgt := 267) dX12_portLine_263 (by decide) ?_
                    exact hj14 _ (by rw [if_neg hc15])
                · have h := h.2 hc23
                  refine JT_iconst (v := 3) dX12_portLine_248 ic_3 ?_
                  refine JT_goto (tgt := 267) dX12_portLine_249 (by decide) ?_
                  obtain ⟨o17, h⟩ := h
                  refine JS_iast dX12_portLine_267 BS_251 (Nat.le_of_ble_eq_true rfl) (Nat.le_of_ble_eq_true rfl) o17 ?_
                  refine JT_aload_n (q := 1) dX12_portLine_268 rfl rfl ?_
                  refine JS_getR (x := 251) dX12_portLine_269 flX12_37 BS_248 (Nat.le_of_ble_eq_true rfl) (Nat.le_of_ble_eq_true rfl) (Or.inr ⟨_, ct_12_7⟩) RF_248_7 ?_
                  refine JT_bipush (v := 28) dX12_portLine_272 bp_28 ?_
                  refine JT_iload_n (q := 0) dX12_portLine_274 rfl rfl ?_
                  refine JT_iadd dX12_portLine_275 ?_
                  obtain ⟨o18, h⟩ := h
                  refine JS_iald dX12_portLine_276 BS_251 (Nat.le_of_ble_eq_true rfl) (Nat.le_of_ble_eq_true rfl) o18 ?_
                  refine JT_if_le (tgt := 284) dX12_portLine_277 (by decide) (fun hc22 => ?_) (fun hc22 => ?_)
                  · have h := h.1 hc22
                    refine JT_aload_n (q := 1) dX12_portLine_284 rfl rfl ?_
                    refine JS_getR (x := 251) dX12_portLine_285 flX12_37 BS_248 (Nat.le_of_ble_eq_true rfl) (Nat.le_of_ble_eq_true rfl) (Or.inr ⟨_, ct_12_7⟩) RF_248_7 ?_
                    refine JT_iconst (v := 1) dX12_portLine_288 ic_1 ?_
                    refine JT_dup2 dX12_portLine_289 rfl rfl ?_
                    refine JS_iald dX12_portLine_290 BS_251 (Nat.le_of_ble_eq_true rfl) (Nat.le_of_ble_eq_true rfl) (by unfold vp_in; decide) ?_
                    refine JT_iconst (v := 1) dX12_portLine_291 ic_1 ?_
                    refine JT_iadd dX12_portLine_292 ?_
                    refine JS_iast dX12_portLine_293 BS_251 (Nat.le_of_ble_eq_true rfl) (Nat.le_of_ble_eq_true rfl) (by unfold vp_in; decide) ?_
                    obtain ⟨s19, hs19⟩ : ∃ z, z = (pI (pI s7 251 (((28 : Int32) + (gI s 251 ((1 : Int32)).toNatClampNeg))).toNatClampNeg (3 : Int32)) 251 ((1 : Int32)).toNatClampNeg ((gI (pI s7 251 (((28 : Int32) + (gI s 251 ((1 : Int32)).toNatClampNeg))).toNatClampNeg (3 : Int32)) 251 ((1 : Int32)).toNatClampNeg) + (1 : Int32))) := ⟨_, rfl⟩
                    replace h := h s19 hs19
                    rw [← hs19]
                    refine JT_iconst (v := 1) dX12_portLine_294 ic_1 ?_
                    exact JS_iret dX12_portLine_295 rfl (n01 (Or.inr rfl)) h
                  · have h := h.2 hc22
                    refine JT_aload_n (q := 1) dX12_portLine_280 rfl rfl ?_
                    obtain ⟨o21, h⟩ := h
                    refine JS_callVV (M' := MX12_next) (d' := 1) (As := []) (rest := []) (P := (fun wm9 => (mX12_next (pI s7 251 (((28 : Int32) + (gI s 251 ((1 : Int32)).toNatClampNeg))).toNatClampNeg (3 : Int32)) ) = wm9)) dX12_portLine_281 cvX12_199 okX12_next rfl (Nat.le_of_ble_eq_true rfl) BS_248 (Nat.le_of_ble_eq_true rfl) (Nat.le_of_ble_eq_true rfl) hci_12 (Nat.le_of_ble_eq_true rfl) (Nat.le_of_ble_eq_true rfl) (pX12_next   o21 rfl) (fun wm9 hq9 => ?_)
                    subst hq9
                    refine JT_aload_n (q := 1) dX12_portLine_284 rfl rfl ?_
                    refine JS_getR (x := 251) dX12_portLine_285 flX12_37 BS_248 (Nat.le_of_ble_eq_true rfl) (Nat.le_of_ble_eq_true rfl) (Or.inr ⟨_, ct_12_7⟩) RF_248_7 ?_
                    refine JT_iconst (v := 1) dX12_portLine_288 ic_1 ?_
                    refine JT_dup2 dX12_portLine_289 rfl rfl ?_
                    refine JS_iald dX12_portLine_290 BS_251 (Nat.le_of_ble_eq_true rfl) (Nat.le_of_ble_eq_true rfl) (by unfold vp_in; decide) ?_
                    refine JT_iconst (v := 1) dX12_portLine_291 ic_1 ?_
                    refine JT_iadd dX12_portLine_292 ?_
                    refine JS_iast dX12_portLine_293 BS_251 (Nat.le_of_ble_eq_true rfl) (Nat.le_of_ble_eq_true rfl) (by unfold vp_in; decide) ?_
                    obtain ⟨s20, hs20⟩ : ∃ z, z = (pI (mX12_next (pI s7 251 (((28 : Int32) + (gI s 251 ((1 : Int32)).toNatClampNeg))).toNatClampNeg (3 : Int32)) ) 251 ((1 : Int32)).toNatClampNeg ((gI (mX12_next (pI s7 251 (((28 : Int32) + (gI s 251 ((1 : Int32)).toNatClampNeg))).toNatClampNeg (3 : Int32)) ) 251 ((1 : Int32)).toNatClampNeg) + (1 : Int32))) := ⟨_, rfl⟩
                    replace h := h s20 hs20
                    rw [← hs20]
                    refine JT_iconst (v := 1) dX12_portLine_294 ic_1 ?_
                    exact JS_iret dX12_portLine_295 rfl (n01 (Or.inr rfl)) h
              · have h := h.2 hc31
                refine JT_iconst (v := 2) dX12_portLine_234 ic_2 ?_
                refine JT_goto (tgt := 267) dX12_portLine_235 (by decide) ?_
                obtain ⟨o25, h⟩ := h
                refine JS_iast dX12_portLine_267 BS_251 (Nat.le_of_ble_eq_true rfl) (Nat.le_of_ble_eq_true rfl) o25 ?_
                refine JT_aload_n (q := 1) dX12_portLine_268 rfl rfl ?_
                refine JS_getR (x := 251) dX12_portLine_269 flX12_37 BS_248 (Nat.le_of_ble_eq_true rfl) (Nat.le_of_ble_eq_true rfl) (Or.inr ⟨_, ct_12_7⟩) RF_248_7 ?_
                refine JT_bipush (v := 28) dX12_portLine_272 bp_28 ?_
                refine JT_iload_n (q := 0) dX12_portLine_274 rfl rfl ?_
                refine JT_iadd dX12_portLine_275 ?_
                obtain ⟨o26, h⟩ := h
                refine JS_iald dX12_portLine_276 BS_251 (Nat.le_of_ble_eq_true rfl) (Nat.le_of_ble_eq_true rfl) o26 ?_
                refine JT_if_le (tgt := 284) dX12_portLine_277 (by decide) (fun hc30 => ?_) (fun hc30 => ?_)
                · have h := h.1 hc30
                  refine JT_aload_n (q := 1) dX12_portLine_284 rfl rfl ?_
                  refine JS_getR (x := 251) dX12_portLine_285 flX12_37 BS_248 (Nat.le_of_ble_eq_true rfl) (Nat.le_of_ble_eq_true rfl) (Or.inr ⟨_, ct_12_7⟩) RF_248_7 ?_
                  refine JT_iconst (v := 1) dX12_portLine_288 ic_1 ?_
                  refine JT_dup2 dX12_portLine_289 rfl rfl ?_
                  refine JS_iald dX12_portLine_290 BS_251 (Nat.le_of_ble_eq_true rfl) (Nat.le_of_ble_eq_true rfl) (by unfold vp_in; decide) ?_
                  refine JT_iconst (v := 1) dX12_portLine_291 ic_1 ?_
                  refine JT_iadd dX12_portLine_292 ?_
                  refine JS_iast dX12_portLine_293 BS_251 (Nat.le_of_ble_eq_true rfl) (Nat.le_of_ble_eq_true rfl) (by unfold vp_in; decide) ?_
                  obtain ⟨s27, hs27⟩ : ∃ z, z = (pI (pI s7 251 (((28 : Int32) + (gI s 251 ((1 : Int32)).toNatClampNeg))).toNatClampNeg (2 : Int32)) 251 ((1 : Int32)).toNatClampNeg ((gI (pI s7 251 (((28 : Int32) + (gI s 251 ((1 : Int32)).toNatClampNeg))).toNatClampNeg (2 : Int32)) 251 ((1 : Int32)).toNatClampNeg) + (1 : Int32))) := ⟨_, rfl⟩
                  replace h := h s27 hs27
                  rw [← hs27]
                  refine JT_iconst (v := 1) dX12_portLine_294 ic_1 ?_
                  exact JS_iret dX12_portLine_295 rfl (n01 (Or.inr rfl)) h
                · have h := h.2 hc30
                  refine JT_aload_n (q := 1) dX12_portLine_280 rfl rfl ?_
                  obtain ⟨o29, h⟩ := h
                  refine JS_callVV (M' := MX12_next) (d' := 1) (As := []) (rest := []) (P := (fun wm9 => (mX12_next (pI s7 251 (((28 : Int32) + (gI s 251 ((1 : Int32)).toNatClampNeg))).toNatClampNeg (2 : Int32)) ) = wm9)) dX12_portLine_281 cvX12_199 okX12_next rfl (Nat.le_of_ble_eq_true rfl) BS_248 (Nat.le_of_ble_eq_true rfl) (Nat.le_of_ble_eq_true rfl) hci_12 (Nat.le_of_ble_eq_true rfl) (Nat.le_of_ble_eq_true rfl) (pX12_next   o29 rfl) (fun wm9 hq9 => ?_)
                  subst hq9
                  refine JT_aload_n (q := 1) dX12_portLine_284 rfl rfl ?_
                  refine JS_getR (x := 251) dX12_portLine_285 flX12_37 BS_248 (Nat.le_of_ble_eq_true rfl) (Nat.le_of_ble_eq_true rfl) (Or.inr ⟨_, ct_12_7⟩) RF_248_7 ?_
                  refine JT_iconst (v := 1) dX12_portLine_288 ic_1 ?_
                  refine JT_dup2 dX12_portLine_289 rfl rfl ?_
                  refine JS_iald dX12_portLine_290 BS_251 (Nat.le_of_ble_eq_true rfl) (Nat.le_of_ble_eq_true rfl) (by unfold vp_in; decide) ?_
                  refine JT_iconst (v := 1) dX12_portLine_291 ic_1 ?_
                  refine JT_iadd dX12_portLine_292 ?_
                  refine JS_iast dX12_portLine_293 BS_251 (Nat.le_of_ble_eq_true rfl) (Nat.le_of_ble_eq_true rfl) (by unfold vp_in; decide) ?_
                  obtain ⟨s28, hs28⟩ : ∃ z, z = (pI (mX12_next (pI s7 251 (((28 : Int32) + (gI s 251 ((1 : Int32)).toNatClampNeg))).toNatClampNeg (2 : Int32)) ) 251 ((1 : Int32)).toNatClampNeg ((gI (mX12_next (pI s7 251 (((28 : Int32) + (gI s 251 ((1 : Int32)).toNatClampNeg))).toNatClampNeg (2 : Int32)) ) 251 ((1 : Int32)).toNatClampNeg) + (1 : Int32))) := ⟨_, rfl⟩
                  replace h := h s28 hs28
                  rw [← hs28]
                  refine JT_iconst (v := 1) dX12_portLine_294 ic_1 ?_
                  exact JS_iret dX12_portLine_295 rfl (n01 (Or.inr rfl)) h
            · have h := h.2 hc39
              refine JT_iconst (v := 1) dX12_portLine_220 ic_1 ?_
              refine JT_goto (tgt := 267) dX12_portLine_221 (by decide) ?_
              obtain ⟨o33, h⟩ := h
              refine JS_iast dX12_portLine_267 BS_251 (Nat.le_of_ble_eq_true rfl) (Nat.le_of_ble_eq_true rfl) o33 ?_
              refine JT_aload_n (q := 1) dX12_portLine_268 rfl rfl ?_
              refine JS_getR (x := 251) dX12_portLine_269 flX12_37 BS_248 (Nat.le_of_ble_eq_true rfl) (Nat.le_of_ble_eq_true rfl) (Or.inr ⟨_, ct_12_7⟩) RF_248_7 ?_
              refine JT_bipush (v := 28) dX12_portLine_272 bp_28 ?_
              refine JT_iload_n (q := 0) dX12_portLine_274 rfl rfl ?_
              refine JT_iadd dX12_portLine_275 ?_
              obtain ⟨o34, h⟩ := h
              refine JS_iald dX12_portLine_276 BS_251 (Nat.le_of_ble_eq_true rfl) (Nat.le_of_ble_eq_true rfl) o34 ?_
              refine JT_if_le (tgt := 284) dX12_portLine_277 (by decide) (fun hc38 => ?_) (fun hc38 => ?_)
              · have h := h.1 hc38
                refine JT_aload_n (q := 1) dX12_portLine_284 rfl rfl ?_
                refine JS_getR (x := 251) dX12_portLine_285 flX12_37 BS_248 (Nat.le_of_ble_eq_true rfl) (Nat.le_of_ble_eq_true rfl) (Or.inr ⟨_, ct_12_7⟩) RF_248_7 ?_
                refine JT_iconst (v := 1) dX12_portLine_288 ic_1 ?_
                refine JT_dup2 dX12_portLine_289 rfl rfl ?_
                refine JS_iald dX12_portLine_290 BS_251 (Nat.le_of_ble_eq_true rfl) (Nat.le_of_ble_eq_true rfl) (by unfold vp_in; decide) ?_
                refine JT_iconst (v := 1) dX12_portLine_291 ic_1 ?_
                refine JT_iadd dX12_portLine_292 ?_
                refine JS_iast dX12_portLine_293 BS_251 (Nat.le_of_ble_eq_true rfl) (Nat.le_of_ble_eq_true rfl) (by unfold vp_in; decide) ?_
                obtain ⟨s35, hs35⟩ : ∃ z, z = (pI (pI s7 251 (((28 : Int32) + (gI s 251 ((1 : Int32)).toNatClampNeg))).toNatClampNeg (1 : Int32)) 251 ((1 : Int32)).toNatClampNeg ((gI (pI s7 251 (((28 : Int32) + (gI s 251 ((1 : Int32)).toNatClampNeg))).toNatClampNeg (1 : Int32)) 251 ((1 : Int32)).toNatClampNeg) + (1 : Int32))) := ⟨_, rfl⟩
                replace h := h s35 hs35
                rw [← hs35]
                refine JT_iconst (v := 1) dX12_portLine_294 ic_1 ?_
                exact JS_iret dX12_portLine_295 rfl (n01 (Or.inr rfl)) h
              · have h := h.2 hc38
                refine JT_aload_n (q := 1) dX12_portLine_280 rfl rfl ?_
                obtain ⟨o37, h⟩ := h
                refine JS_callVV (M' := MX12_next) (d' := 1) (As := []) (rest := []) (P := (fun wm9 => (mX12_next (pI s7 251 (((28 : Int32) + (gI s 251 ((1 : Int32)).toNatClampNeg))).toNatClampNeg (1 : Int32)) ) = wm9)) dX12_portLine_281 cvX12_199 okX12_next rfl (Nat.le_of_ble_eq_true rfl) BS_248 (Nat.le_of_ble_eq_true rfl) (Nat.le_of_ble_eq_true rfl) hci_12 (Nat.le_of_ble_eq_true rfl) (Nat.le_of_ble_eq_true rfl) (pX12_next   o37 rfl) (fun wm9 hq9 => ?_)
                subst hq9
                refine JT_aload_n (q := 1) dX12_portLine_284 rfl rfl ?_
                refine JS_getR (x := 251) dX12_portLine_285 flX12_37 BS_248 (Nat.le_of_ble_eq_true rfl) (Nat.le_of_ble_eq_true rfl) (Or.inr ⟨_, ct_12_7⟩) RF_248_7 ?_
                refine JT_iconst (v := 1) dX12_portLine_288 ic_1 ?_
                refine JT_dup2 dX12_portLine_289 rfl rfl ?_
                refine JS_iald dX12_portLine_290 BS_251 (Nat.le_of_ble_eq_true rfl) (Nat.le_of_ble_eq_true rfl) (by unfold vp_in; decide) ?_
                refine JT_iconst (v := 1) dX12_portLine_291 ic_1 ?_
                refine JT_iadd dX12_portLine_292 ?_
                refine JS_iast dX12_portLine_293 BS_251 (Nat.le_of_ble_eq_true rfl) (Nat.le_of_ble_eq_true rfl) (by unfold vp_in; decide) ?_
                obtain ⟨s36, hs36⟩ : ∃ z, z = (pI (mX12_next (pI s7 251 (((28 : Int32) + (gI s 251 ((1 : Int32)).toNatClampNeg))).toNatClampNeg (1 : Int32)) ) 251 ((1 : Int32)).toNatClampNeg ((gI (mX12_next (pI s7 251 (((28 : Int32) + (gI s 251 ((1 : Int32)).toNatClampNeg))).toNatClampNeg (1 : Int32)) ) 251 ((1 : Int32)).toNatClampNeg) + (1 : Int32))) := ⟨_, rfl⟩
                replace h := h s36 hs36
                rw [← hs36]
                refine JT_iconst (v := 1) dX12_portLine_294 ic_1 ?_
                exact JS_iret dX12_portLine_295 rfl (n01 (Or.inr rfl)) h
          · have h := h.2 hc41
            refine JT_iconst (v := 0) dX12_portLine_187 ic_0 ?_
            exact JS_iret dX12_portLine_188 rfl (n01 (Or.inl rfl)) h
        · have h := h.2 hc43
          refine JT_iconst (v := 0) dX12_portLine_175 ic_0 ?_
          exact JS_iret dX12_portLine_176 rfl (n01 (Or.inl rfl)) h
      · have h := h.2 hc47
        refine JT_aload_n (q := 1) dX12_portLine_154 rfl rfl ?_
        refine JT_iconst (v := 4) dX12_portLine_155 ic_4 ?_
        refine JS_callVI (M' := MX12_bad) (d' := 0) (As := [.int (4 : Int32)]) (rest := []) (P := (fun zv9 wm9 => (vX12_bad s (4 : Int32)) = zv9 ∧ (mX12_bad s (4 : Int32)) = wm9)) dX12_portLine_156 cvX12_196 okX12_bad rfl (Nat.le_of_ble_eq_true rfl) BS_248 (Nat.le_of_ble_eq_true rfl) (Nat.le_of_ble_eq_true rfl) hci_12 (Nat.le_of_ble_eq_true rfl) (Nat.le_of_ble_eq_true rfl) (pX12_bad  ((4 : Int32))  ⟨rfl, rfl⟩) (fun zv9 wm9 hq9 => ?_)
        obtain ⟨rfl, rfl⟩ := hq9
        exact JS_iret dX12_portLine_159 rfl (n01 (zX12_bad s (4 : Int32))) h
  · have h := h.2 hc68
    refine JT_aload_n (q := 0) dX12_portLine_10 rfl rfl ?_
    refine JS_getR (x := 251) dX12_portLine_11 flX12_37 BS_248 (Nat.le_of_ble_eq_true rfl) (Nat.le_of_ble_eq_true rfl) (Or.inr ⟨_, ct_12_7⟩) RF_248_7 ?_
    refine JT_iconst (v := 0) dX12_portLine_14 ic_0 ?_
    refine JS_iald dX12_portLine_15 BS_251 (Nat.le_of_ble_eq_true rfl) (Nat.le_of_ble_eq_true rfl) (by unfold vp_in; decide) ?_
    refine JT_istore_n (lv' := [(1, .int (gI s 251 ((0 : Int32)).toNatClampNeg)), (0, .ref 248)]) dX12_portLine_16 rfl (Nat.le_of_ble_eq_true rfl) rfl ?_
    refine JT_iload_n (q := 0) dX12_portLine_17 rfl rfl ?_
    refine JT_bipush (v := 9) dX12_portLine_18 bp_9 ?_
    refine JT_icmp_ne (tgt := 29) dX12_portLine_20 (by decide) (fun hc67 => ?_) (fun hc67 => ?_)
    · have h := h.1 hc67
      refine JT_aload_n (q := 1) dX12_portLine_29 rfl rfl ?_
      obtain ⟨o65, h⟩ := h
      refine JS_callVV (M' := MX12_next) (d' := 1) (As := []) (rest := []) (P := (fun wm9 => (mX12_next s ) = wm9)) dX12_portLine_30 cvX12_199 okX12_next rfl (Nat.le_of_ble_eq_true rfl) BS_248 (Nat.le_of_ble_eq_true rfl) (Nat.le_of_ble_eq_true rfl) hci_12 (Nat.le_of_ble_eq_true rfl) (Nat.le_of_ble_eq_true rfl) (pX12_next   o65 rfl) (fun wm9 hq9 => ?_)
      subst hq9
      refine JT_aload_n (q := 1) dX12_portLine_33 rfl rfl ?_
      refine JT_bipush (v := 15) dX12_portLine_34 bp_15 ?_
      refine JT_iload_n (q := 0) dX12_portLine_36 rfl rfl ?_
      refine JT_iadd dX12_portLine_37 ?_
      obtain ⟨o64, h⟩ := h
      refine JS_callVI (M' := MX12_fresh) (d' := 2) (As := [.int ((15 : Int32) + (gI s 251 ((0 : Int32)).toNatClampNeg))]) (rest := []) (P := (fun zv9 wm9 => (vX12_fresh (mX12_next s ) ((15 : Int32) + (gI s 251 ((0 : Int32)).toNatClampNeg))) = zv9 ∧ (mX12_fresh (mX12_next s ) ((15 : Int32) + (gI s 251 ((0 : Int32)).toNatClampNeg))) = wm9)) dX12_portLine_38 cvX12_221 okX12_fresh rfl (Nat.le_of_ble_eq_true rfl) BS_248 (Nat.le_of_ble_eq_true rfl) (Nat.le_of_ble_eq_true rfl) hci_12 (Nat.le_of_ble_eq_true rfl) (Nat.le_of_ble_eq_true rfl) (pX12_fresh  (((15 : Int32) + (gI s 251 ((0 : Int32)).toNatClampNeg))) o64 ⟨rfl, rfl⟩) (fun zv9 wm9 hq9 => ?_)
      obtain ⟨rfl, rfl⟩ := hq9
      refine JT_if_ne (tgt := 46) dX12_portLine_41 (by decide) (fun hc63 => ?_) (fun hc63 => ?_)
      · have h := h.1 hc63
        refine JT_aload_n (q := 1) dX12_portLine_46 rfl rfl ?_
        refine JT_iconst (v := 1) dX12_portLine_47 ic_1 ?_
        refine JT_bipush (v := 99) dX12_portLine_48 bp_99 ?_
        obtain ⟨o62, h⟩ := h
        refine JS_callVI (M' := MX12_takes) (d' := 2) (As := [.int (1 : Int32), .int (99 : Int32)]) (rest := []) (P := (fun zv9 wm9 => (vX12_takes (mX12_fresh (mX12_next s ) ((15 : Int32) + (gI s 251 ((0 : Int32)).toNatClampNeg))) (1 : Int32) (99 : Int32)) = zv9 ∧ (mX12_takes (mX12_fresh (mX12_next s ) ((15 : Int32) + (gI s 251 ((0 : Int32)).toNatClampNeg))) (1 : Int32) (99 : Int32)) = wm9)) dX12_portLine_50 cvX12_224 okX12_takes rfl (Nat.le_of_ble_eq_true rfl) BS_248 (Nat.le_of_ble_eq_true rfl) (Nat.le_of_ble_eq_true rfl) hci_12 (Nat.le_of_ble_eq_true rfl) (Nat.le_of_ble_eq_true rfl) (pX12_takes  ((1 : Int32)) ((99 : Int32)) o62 ⟨rfl, rfl⟩) (fun zv9 wm9 hq9 => ?_)
        obtain ⟨rfl, rfl⟩ := hq9
        obtain ⟨s50, hs50⟩ : ∃ z, z = (mX12_takes (mX12_fresh (mX12_next s ) ((15 : Int32) + (gI s 251 ((0 : Int32)).toNatClampNeg))) (1 : Int32) (99 : Int32)) := ⟨_, rfl⟩
        replace h := h s50 hs50
        rw [← hs50]
        refine JT_if_ne (tgt := 58) dX12_portLine_53 (by decide) (fun hc61 => ?_) (fun hc61 => ?_)
        · have h := h.1 hc61
          refine JT_aload_n (q := 1) dX12_portLine_58 rfl rfl ?_
          refine JS_getR (x := 251) dX12_portLine_59 flX12_37 BS_248 (Nat.le_of_ble_eq_true rfl) (Nat.le_of_ble_eq_true rfl) (Or.inr ⟨_, ct_12_7⟩) RF_248_7 ?_
          refine JT_iconst (v := 4) dX12_portLine_62 ic_4 ?_
          refine JT_iload_n (q := 0) dX12_portLine_63 rfl rfl ?_
          refine JT_iadd dX12_portLine_64 ?_
          refine JT_aload_n (q := 1) dX12_portLine_65 rfl rfl ?_
          refine JS_getI dX12_portLine_66 flX12_206 BS_248 (Nat.le_of_ble_eq_true rfl) (Nat.le_of_ble_eq_true rfl) (Or.inl ct_12_18) ?_
          obtain ⟨o51, h⟩ := h
          refine JS_iast dX12_portLine_69 BS_251 (Nat.le_of_ble_eq_true rfl) (Nat.le_of_ble_eq_true rfl) o51 ?_
          refine JT_aload_n (q := 1) dX12_portLine_70 rfl rfl ?_
          refine JS_getR (x := 251) dX12_portLine_71 flX12_37 BS_248 (Nat.le_of_ble_eq_true rfl) (Nat.le_of_ble_eq_true rfl) (Or.inr ⟨_, ct_12_7⟩) RF_248_7 ?_
          refine JT_bipush (v := 13) dX12_portLine_74 bp_13 ?_
          refine JT_iload_n (q := 0) dX12_portLine_76 rfl rfl ?_
          refine JT_iadd dX12_portLine_77 ?_
          refine JT_iconst (v := -1) dX12_portLine_78 ic_m1 ?_
          obtain ⟨o52, h⟩ := h
          refine JS_iast dX12_portLine_79 BS_251 (Nat.le_of_ble_eq_true rfl) (Nat.le_of_ble_eq_true rfl) o52 ?_
          obtain ⟨s53, hs53⟩ : ∃ z, z = (pI (pI s50 251 (((4 : Int32) + (gI s 251 ((0 : Int32)).toNatClampNeg))).toNatClampNeg (gI s50 248 18)) 251 (((13 : Int32) + (gI s 251 ((0 : Int32)).toNatClampNeg))).toNatClampNeg (-1 : Int32)) := ⟨_, rfl⟩
          replace h := h s53 hs53
          rw [← hs53]
          refine JT_aload_n (q := 1) dX12_portLine_80 rfl rfl ?_
          refine JT_ldc2 dX12_portLine_81 kwX12_128 ?_
          refine JS_callVI (M' := MX12_isWord) (d' := 0) (As := [.long (7039342 : Int64)]) (rest := []) (P := (fun zv9 wm9 => (vX12_isWord s53 (7039342 : Int64)) = zv9 ∧ s53 = wm9)) dX12_portLine_84 cvX12_217 okX12_isWord rfl (Nat.le_of_ble_eq_true rfl) BS_248 (Nat.le_of_ble_eq_true rfl) (Nat.le_of_ble_eq_true rfl) hci_12 (Nat.le_of_ble_eq_true rfl) (Nat.le_of_ble_eq_true rfl) (pX12_isWord  ((7039342 : Int64))  ⟨rfl, rfl⟩) (fun zv9 wm9 hq9 => ?_)
          obtain ⟨rfl, rfl⟩ := hq9
          refine JT_if_eq (tgt := 119) dX12_portLine_87 (by decide) (fun hc59 => ?_) (fun hc59 => ?_)
          · have h := h.1 hc59
            refine JT_aload_n (q := 1) dX12_portLine_119 rfl rfl ?_
            refine JS_getR (x := 251) dX12_portLine_120 flX12_37 BS_248 (Nat.le_of_ble_eq_true rfl) (Nat.le_of_ble_eq_true rfl) (Or.inr ⟨_, ct_12_7⟩) RF_248_7 ?_
            refine JT_iconst (v := 0) dX12_portLine_123 ic_0 ?_
            refine JT_dup2 dX12_portLine_124 rfl rfl ?_
            refine JS_iald dX12_portLine_125 BS_251 (Nat.le_of_ble_eq_true rfl) (Nat.le_of_ble_eq_true rfl) (by unfold vp_in; decide) ?_
            refine JT_iconst (v := 1) dX12_portLine_126 ic_1 ?_
            refine JT_iadd dX12_portLine_127 ?_
            refine JS_iast dX12_portLine_128 BS_251 (Nat.le_of_ble_eq_true rfl) (Nat.le_of_ble_eq_true rfl) (by unfold vp_in; decide) ?_
            refine JT_iconst (v := 1) dX12_portLine_129 ic_1 ?_
            exact JS_iret dX12_portLine_130 rfl (n01 (Or.inr rfl)) h
          · have h := h.2 hc59
            refine JT_aload_n (q := 1) dX12_portLine_90 rfl rfl ?_
            obtain ⟨o58, h⟩ := h
            refine JS_callVV (M' := MX12_next) (d' := 1) (As := []) (rest := []) (P := (fun wm9 => (mX12_next s53 ) = wm9)) dX12_portLine_91 cvX12_199 okX12_next rfl (Nat.le_of_ble_eq_true rfl) BS_248 (Nat.le_of_ble_eq_true rfl) (Nat.le_of_ble_eq_true rfl) hci_12 (Nat.le_of_ble_eq_true rfl) (Nat.le_of_ble_eq_true rfl) (pX12_next   o58 rfl) (fun wm9 hq9 => ?_)
            subst hq9
            refine JT_aload_n (q := 1) dX12_portLine_94 rfl rfl ?_
            refine JT_bipush (v := 15) dX12_portLine_95 bp_15 ?_
            refine JT_iload_n (q := 0) dX12_portLine_97 rfl rfl ?_
            obtain ⟨o57, h⟩ := h
            refine JS_callVI (M' := MX12_takesName) (d' := 2) (As := [.int (15 : Int32), .int (gI s 251 ((0 : Int32)).toNatClampNeg)]) (rest := []) (P := (fun zv9 wm9 => (vX12_takesName (mX12_next s53 ) (15 : Int32) (gI s 251 ((0 : Int32)).toNatClampNeg)) = zv9 ∧ (mX12_takesName (mX12_next s53 ) (15 : Int32) (gI s 251 ((0 : Int32)).toNatClampNeg)) = wm9)) dX12_portLine_98 cvX12_228 okX12_takesName rfl (Nat.le_of_ble_eq_true rfl) BS_248 (Nat.le_of_ble_eq_true rfl) (Nat.le_of_ble_eq_true rfl) hci_12 (Nat.le_of_ble_eq_true rfl) (Nat.le_of_ble_eq_true rfl) (pX12_takesName  ((15 : Int32)) ((gI s 251 ((0 : Int32)).toNatClampNeg)) o57 ⟨rfl, rfl⟩) (fun zv9 wm9 hq9 => ?_)
            obtain ⟨rfl, rfl⟩ := hq9
            refine JT_if_ne (tgt := 106) dX12_portLine_101 (by decide) (fun hc56 => ?_) (fun hc56 => ?_)
            · have h := h.1 hc56
              refine JT_aload_n (q := 1) dX12_portLine_106 rfl rfl ?_
              refine JS_getR (x := 251) dX12_portLine_107 flX12_37 BS_248 (Nat.le_of_ble_eq_true rfl) (Nat.le_of_ble_eq_true rfl) (Or.inr ⟨_, ct_12_7⟩) RF_248_7 ?_
              refine JT_bipush (v := 13) dX12_portLine_110 bp_13 ?_
              refine JT_iload_n (q := 0) dX12_portLine_112 rfl rfl ?_
              refine JT_iadd dX12_portLine_113 ?_
              refine JT_aload_n (q := 1) dX12_portLine_114 rfl rfl ?_
              refine JS_getI dX12_portLine_115 flX12_206 BS_248 (Nat.le_of_ble_eq_true rfl) (Nat.le_of_ble_eq_true rfl) (Or.inl ct_12_18) ?_
              obtain ⟨o54, h⟩ := h
              refine JS_iast dX12_portLine_118 BS_251 (Nat.le_of_ble_eq_true rfl) (Nat.le_of_ble_eq_true rfl) o54 ?_
              obtain ⟨s55, hs55⟩ : ∃ z, z = (pI (mX12_takesName (mX12_next s53 ) (15 : Int32) (gI s 251 ((0 : Int32)).toNatClampNeg)) 251 (((13 : Int32) + (gI s 251 ((0 : Int32)).toNatClampNeg))).toNatClampNeg (gI (mX12_takesName (mX12_next s53 ) (15 : Int32) (gI s 251 ((0 : Int32)).toNatClampNeg)) 248 18)) := ⟨_, rfl⟩
              replace h := h s55 hs55
              rw [← hs55]
              refine JT_aload_n (q := 1) dX12_portLine_119 rfl rfl ?_
              refine JS_getR (x := 251) dX12_portLine_120 flX12_37 BS_248 (Nat.le_of_ble_eq_true rfl) (Nat.le_of_ble_eq_true rfl) (Or.inr ⟨_, ct_12_7⟩) RF_248_7 ?_
              refine JT_iconst (v := 0) dX12_portLine_123 ic_0 ?_
              refine JT_dup2 dX12_portLine_124 rfl rfl ?_
              refine JS_iald dX12_portLine_125 BS_251 (Nat.le_of_ble_eq_true rfl) (Nat.le_of_ble_eq_true rfl) (by unfold vp_in; decide) ?_
              refine JT_iconst (v := 1) dX12_portLine_126 ic_1 ?_
              refine JT_iadd dX12_portLine_127 ?_
              refine JS_iast dX12_portLine_128 BS_251 (Nat.le_of_ble_eq_true rfl) (Nat.le_of_ble_eq_true rfl) (by unfold vp_in; decide) ?_
              refine JT_iconst (v := 1) dX12_portLine_129 ic_1 ?_
              exact JS_iret dX12_portLine_130 rfl (n01 (Or.inr rfl)) h
            · have h := h.2 hc56
              refine JT_iconst (v := 0) dX12_portLine_104 ic_0 ?_
              exact JS_iret dX12_portLine_105 rfl (n01 (Or.inl rfl)) h
        · have h := h.2 hc61
          refine JT_iconst (v := 0) dX12_portLine_56 ic_0 ?_
          exact JS_iret dX12_portLine_57 rfl (n01 (Or.inl rfl)) h
      · have h := h.2 hc63
        refine JT_iconst (v := 0) dX12_portLine_44 ic_0 ?_
        exact JS_iret dX12_portLine_45 rfl (n01 (Or.inl rfl)) h
    · have h := h.2 hc67
      refine JT_aload_n (q := 1) dX12_portLine_23 rfl rfl ?_
      refine JT_iconst (v := 4) dX12_portLine_24 ic_4 ?_
      refine JS_callVI (M' := MX12_bad) (d' := 0) (As := [.int (4 : Int32)]) (rest := []) (P := (fun zv9 wm9 => (vX12_bad s (4 : Int32)) = zv9 ∧ (mX12_bad s (4 : Int32)) = wm9)) dX12_portLine_25 cvX12_196 okX12_bad rfl (Nat.le_of_ble_eq_true rfl) BS_248 (Nat.le_of_ble_eq_true rfl) (Nat.le_of_ble_eq_true rfl) hci_12 (Nat.le_of_ble_eq_true rfl) (Nat.le_of_ble_eq_true rfl) (pX12_bad  ((4 : Int32))  ⟨rfl, rfl⟩) (fun zv9 wm9 hq9 => ?_)
      obtain ⟨rfl, rfl⟩ := hq9
      exact JS_iret dX12_portLine_28 rfl (n01 (zX12_bad s (4 : Int32))) h
set_option maxRecDepth 1000000 in
theorem gX12_portLine  : ∀ n : Nat, (∀ (a1 : Int32) (s : SM) (Q : Int32 → SM → Prop), ((qX12_portLine n).1 s a1) → Q ((lX12_portLine n).1 s a1).1 ((lX12_portLine n).1 s a1).2 → BI MX12_portLine 3 324 [(0, .ref 248), (1, .int a1)] s Q) ∧ (∀ (a1 : Int32) (s : SM) (Q : Int32 → SM → Prop), ((qX12_portLine n).2 s a1) → Q ((lX12_portLine n).2 s a1).1 ((lX12_portLine n).2 s a1).2 → BI MX12_portLine 3 351 [(0, .ref 248), (1, .int a1)] s Q) := by
  intro n
  induction n with
  | zero => exact ⟨fun _ _ _ hq _ => absurd hq id, fun _ _ _ hq _ => absurd hq id⟩
  | succ n ih =>
    refine ⟨?_, ?_⟩
    · intro a1 s Q hr h
      replace hr : uX12_portLine_324 (qX12_portLine n) s a1 := hr
      replace h : Q (tX12_portLine_324 (lX12_portLine n) s a1).1 (tX12_portLine_324 (lX12_portLine n) s a1).2 := h
      unfold uX12_portLine_324 at hr
      unfold tX12_portLine_324 at h
      refine bX12_portLine_324 a1 ?_
      refine ⟨fun c => ?_, fun c => ?_⟩
      · replace hr := hr.1 c
        replace h := q3p c h
        refine ⟨fun c => ?_, fun c => ?_⟩
        · replace hr := hr c
          replace h := q3p c h
          first | exact ih.2 a1 _ Q hr h | contradiction
        · replace h := q3n c h
          first | exact h | contradiction
      · replace hr := hr.2 c
        replace h := q3n c h
        refine ⟨fun c => ?_, fun c => ?_⟩
        · replace hr := hr c
          replace h := q3p c h
          first | exact ih.2 a1 _ Q hr h | contradiction
        · replace h := q3n c h
          first | exact h | contradiction
    · intro a1 s Q hr h
      replace hr : uX12_portLine_351 (qX12_portLine n) s a1 := hr
      replace h : Q (tX12_portLine_351 (lX12_portLine n) s a1).1 (tX12_portLine_351 (lX12_portLine n) s a1).2 := h
      unfold uX12_portLine_351 at hr
      unfold tX12_portLine_351 at h
      refine bX12_portLine_351 a1 ?_
      intro s1 e9
      replace hr := hr s1 e9
      try rw [← e9] at h
      try dsimp only at h
      refine ⟨hr.1, ?_⟩
      replace hr := hr.2
      refine ⟨hr.1, ?_⟩
      replace hr := hr.2
      refine ⟨fun c => ?_, fun c => ?_⟩
      · replace hr := hr c
        replace h := q3n c h
        refine ⟨hr, ?_⟩
        intro s3 e9
        try rw [← e9] at h
        try dsimp only at h
        first | exact h | contradiction
      · replace h := q3p c h
        first | exact h | contradiction
set_option maxRecDepth 1000000 in
theorem pX12_portLine  {s : SM} {Q : Int32 → SM → Prop} (hr : rX12_portLine s ) (h : Q (vX12_portLine s ) (mX12_portLine s )) : KI MX12_portLine 3 [.ref 248] s Q := by
  replace h : Q (fX12_portLine s ).1 (fX12_portLine s ).2 := h
  unfold rX12_portLine at hr
  unfold fX12_portLine at h
  refine bX12_portLine  ?_
  refine ⟨fun c => ?_, fun c => ?_⟩
  · replace hr := hr.1 c
    replace h := q3p c h
    refine ⟨fun c => ?_, fun c => ?_⟩
    · replace hr := hr.1 c
      replace h := q3p c h
      refine ⟨fun c => ?_, fun c => ?_⟩
      · replace hr := hr.1 c
        replace h := q3n c h
        first | exact (gX12_portLine  FU).1 (vX12_isWord s (1818848869 : Int64)) _ Q hr h | contradiction
      · replace hr := hr.2 c
        replace h := q3p c h
        refine ⟨fun c => ?_, fun c => ?_⟩
        · replace hr := hr c
          replace h := q3n c h
          first | exact (gX12_portLine  FU).1 (vX12_isWord s (1818848869 : Int64)) _ Q hr h | contradiction
        · replace h := q3p c h
          first | exact h | contradiction
    · replace hr := hr.2 c
      replace h := q3n c h
      refine ⟨fun c => ?_, fun c => ?_⟩
      · replace hr := hr c
        replace h := q3n c h
        refine ⟨hr.1, ?_⟩
        replace hr := hr.2
        refine ⟨hr.1, ?_⟩
        replace hr := hr.2
        refine ⟨fun c => ?_, fun c => ?_⟩
        · replace hr := hr c
          replace h := q3n c h
          refine ⟨hr.1, ?_⟩
          replace hr := hr.2
          refine ⟨fun c => ?_, fun c => ?_⟩
          · replace hr := hr c
            replace h := q3n c h
            refine ⟨hr.1, ?_⟩
            replace hr := hr.2
            intro s7 e9
            replace hr := hr s7 e9
            try rw [← e9] at h
            try dsimp only at h
            refine ⟨fun c => ?_, fun c => ?_⟩
            · replace hr := hr.1 c
              replace h := q3p c h
              refine ⟨fun c => ?_, fun c => ?_⟩
              · replace hr := hr.1 c
                replace h := q3p c h
                refine ⟨fun c => ?_, fun c => ?_⟩
                · replace hr := hr.1 c
                  replace h := q3p c h
                  refine ⟨hr.1, ?_⟩
                  replace hr := hr.2
                  intro s9 e9
                  replace hr := hr s9 e9
                  try rw [← e9] at h
                  try dsimp only at h
                  refine ⟨hr.1, ?_⟩
                  replace hr := hr.2
                  refine ⟨fun c => ?_, fun c => ?_⟩
                  · replace h := q3p c h
                    first | exact h | contradiction
                  · replace hr := hr c
                    replace h := q3n c h
                    refine ⟨hr, ?_⟩
                    intro s11 e9
                    try rw [← e9] at h
                    try dsimp only at h
                    first | exact h | contradiction
                · replace hr := hr.2 c
                  replace h := q3n c h
                  refine ⟨hr.1, ?_⟩
                  replace hr := hr.2
                  refine ⟨hr.1, ?_⟩
                  replace hr := hr.2
                  refine ⟨fun c => ?_, fun c => ?_⟩
                  · replace h := q3p c h
                    intro s19 e9
                    try rw [← e9] at h
                    try dsimp only at h
                    first | exact h | contradiction
                  · replace hr := hr c
                    replace h := q3n c h
                    refine ⟨hr, ?_⟩
                    intro s20 e9
                    try rw [← e9] at h
                    try dsimp only at h
                    first | exact h | contradiction
              · replace hr := hr.2 c
                replace h := q3n c h
                refine ⟨hr.1, ?_⟩
                replace hr := hr.2
                refine ⟨hr.1, ?_⟩
                replace hr := hr.2
                refine ⟨fun c => ?_, fun c => ?_⟩
                · replace h := q3p c h
                  intro s27 e9
                  try rw [← e9] at h
                  try dsimp only at h
                  first | exact h | contradiction
                · replace hr := hr c
                  replace h := q3n c h
                  refine ⟨hr, ?_⟩
                  intro s28 e9
                  try rw [← e9] at h
                  try dsimp only at h
                  first | exact h | contradiction
            · replace hr := hr.2 c
              replace h := q3n c h
              refine ⟨hr.1, ?_⟩
              replace hr := hr.2
              refine ⟨hr.1, ?_⟩
              replace hr := hr.2
              refine ⟨fun c => ?_, fun c => ?_⟩
              · replace h := q3p c h
                intro s35 e9
                try rw [← e9] at h
                try dsimp only at h
                first | exact h | contradiction
              · replace hr := hr c
                replace h := q3n c h
                refine ⟨hr, ?_⟩
                intro s36 e9
                try rw [← e9] at h
                try dsimp only at h
                first | exact h | contradiction
          · replace h := q3p c h
            first | exact h | contradiction
        · replace h := q3p c h
          first | exact h | contradiction
      · replace h := q3p c h
        first | exact h | contradiction
  · replace hr := hr.2 c
    replace h := q3n c h
    refine ⟨fun c => ?_, fun c => ?_⟩
    · replace hr := hr c
      replace h := q3n c h
      refine ⟨hr.1, ?_⟩
      replace hr := hr.2
      refine ⟨hr.1, ?_⟩
      replace hr := hr.2
      refine ⟨fun c => ?_, fun c => ?_⟩
      · replace hr := hr c
        replace h := q3n c h
        refine ⟨hr.1, ?_⟩
        replace hr := hr.2
        intro s50 e9
        replace hr := hr s50 e9
        try rw [← e9] at h
        try dsimp only at h
        refine ⟨fun c => ?_, fun c => ?_⟩
        · replace hr := hr c
          replace h := q3n c h
          refine ⟨hr.1, ?_⟩
          replace hr := hr.2
          refine ⟨hr.1, ?_⟩
          replace hr := hr.2
          intro s53 e9
          replace hr := hr s53 e9
          try rw [← e9] at h
          try dsimp only at h
          refine ⟨fun c => ?_, fun c => ?_⟩
          · replace h := q3p c h
            first | exact h | contradiction
          · replace hr := hr c
            replace h := q3n c h
            refine ⟨hr.1, ?_⟩
            replace hr := hr.2
            refine ⟨hr.1, ?_⟩
            replace hr := hr.2
            refine ⟨fun c => ?_, fun c => ?_⟩
            · replace hr := hr c
              replace h := q3n c h
              refine ⟨hr, ?_⟩
              intro s55 e9
              try rw [← e9] at h
              try dsimp only at h
              first | exact h | contradiction
            · replace h := q3p c h
              first | exact h | contradiction
        · replace h := q3p c h
          first | exact h | contradiction
      · replace h := q3p c h
        first | exact h | contradiction
    · replace h := q3p c h
      first | exact h | contradiction
set_option maxRecDepth 1000000 in
theorem bX12_trade_31 (a1 : Int32) (a2 : Int32) (a3 : Int32) (a4 : Int32) {s : SM} {Q : Int32 → SM → Prop} (h : (((gI s 250 ((34 : Int32)).toNatClampNeg) ≤ a4 → Q a3 s) ∧ (¬ (gI s 250 ((34 : Int32)).toNatClampNeg) ≤ a4 → rX12_of s a4 (4 : Int32) ∧ ((¬ (vX12_of s a4 (4 : Int32)) = a1 → BI MX12_trade 3 31 [(0, .ref 248), (1, .int a1), (2, .int a2), (3, .int (a3 + (0 : Int32))), (4, .int (a4 + 1))] s Q) ∧ ((vX12_of s a4 (4 : Int32)) = a1 → ((a2 = 0 → rX12_valueOf s a4 ∧ BI MX12_trade 3 31 [(0, .ref 248), (1, .int a1), (2, .int a2), (3, .int (a3 + (vX12_valueOf s a4))), (4, .int (a4 + 1))] s Q) ∧ (¬ a2 = 0 → rX12_of s a4 (5 : Int32) ∧ ((¬ (vX12_of s a4 (5 : Int32)) = (a2 - (1 : Int32)) → BI MX12_trade 3 31 [(0, .ref 248), (1, .int a1), (2, .int a2), (3, .int (a3 + (0 : Int32))), (4, .int (a4 + 1))] s Q) ∧ ((vX12_of s a4 (5 : Int32)) = (a2 - (1 : Int32)) → rX12_valueOf s a4 ∧ BI MX12_trade 3 31 [(0, .ref 248), (1, .int a1), (2, .int a2), (3, .int (a3 + (vX12_valueOf s a4))), (4, .int (a4 + 1))] s Q))))))))) : BI MX12_trade 3 31 [(0, .ref 248), (1, .int a1), (2, .int a2), (3, .int a3), (4, .int a4)] s Q := by
  refine JT_iload (q := 4) dX12_trade_31 rfl ?_
  refine JT_aload_n (q := 0) dX12_trade_33 rfl rfl ?_
  refine JS_getR (x := 250) dX12_trade_34 flX12_33 BS_248 (Nat.le_of_ble_eq_true rfl) (Nat.le_of_ble_eq_true rfl) (Or.inr ⟨_, ct_12_6⟩) RF_248_6 ?_
  refine JT_bipush (v := 34) dX12_trade_37 bp_34 ?_
  refine JS_iald dX12_trade_39 BS_250 (Nat.le_of_ble_eq_true rfl) (Nat.le_of_ble_eq_true rfl) (by unfold vp_in; decide) ?_
  refine JT_icmp_ge (tgt := 90) dX12_trade_40 (by decide) (fun hc8 => ?_) (fun hc8 => ?_)
  · have h := h.1 hc8
    refine JT_iload_n (q := 3) dX12_trade_90 rfl rfl ?_
    exact JS_iret dX12_trade_91 rfl rfl h
  · have h := h.2 hc8
    refine JT_iload_n (q := 3) dX12_trade_43 rfl rfl ?_
    refine JT_aload_n (q := 0) dX12_trade_44 rfl rfl ?_
    refine JT_iload (q := 4) dX12_trade_45 rfl ?_
    refine JT_iconst (v := 4) dX12_trade_47 ic_4 ?_
    obtain ⟨o7, h⟩ := h
    refine JS_callVI (M' := MX12_of) (d' := 0) (As := [.int a4, .int (4 : Int32)]) (rest := [.int a3]) (P := (fun zv9 wm9 => (vX12_of s a4 (4 : Int32)) = zv9 ∧ s = wm9)) dX12_trade_48 cvX12_265 okX12_of rfl (Nat.le_of_ble_eq_true rfl) BS_248 (Nat.le_of_ble_eq_true rfl) (Nat.le_of_ble_eq_true rfl) hci_12 (Nat.le_of_ble_eq_true rfl) (Nat.le_of_ble_eq_true rfl) (pX12_of  (a4) ((4 : Int32)) o7 ⟨rfl, rfl⟩) (fun zv9 wm9 hq9 => ?_)
    obtain ⟨rfl, rfl⟩ := hq9
    refine JT_iload_n (q := 1) dX12_trade_51 rfl rfl ?_
    refine JT_icmp_ne (tgt := 81) dX12_trade_52 (by decide) (fun hc6 => ?_) (fun hc6 => ?_)
    · have h := h.1 hc6
      refine JT_iconst (v := 0) dX12_trade_81 ic_0 ?_
      refine JT_iadd dX12_trade_82 ?_
      refine JT_istore_n (lv' := [(3, .int (a3 + (0 : Int32))), (0, .ref 248), (1, .int a1), (2, .int a2), (4, .int a4)]) dX12_trade_83 rfl (Nat.le_of_ble_eq_true rfl) rfl ?_
      refine JT_iinc (q := 4) (v := (a4 + 1)) (lv' := [(4, .int (a4 + 1)), (3, .int (a3 + (0 : Int32))), (0, .ref 248), (1, .int a1), (2, .int a2)]) dX12_trade_84 rfl (by rfl) (Nat.le_of_ble_eq_true rfl) rfl ?_
      refine JT_goto (tgt := 31) dX12_trade_87 (by decide) ?_
      exact JT_sub [2, 3, 4, 1, 0] rfl h
    · have h := h.2 hc6
      refine JT_iload_n (q := 2) dX12_trade_55 rfl rfl ?_
      refine JT_if_eq (tgt := 72) dX12_trade_56 (by decide) (fun hc5 => ?_) (fun hc5 => ?_)
      · have h := h.1 hc5
        refine JT_aload_n (q := 0) dX12_trade_72 rfl rfl ?_
        refine JT_iload (q := 4) dX12_trade_73 rfl ?_
        obtain ⟨o1, h⟩ := h
        refine JS_callVI (M' := MX12_valueOf) (d' := 2) (As := [.int a4]) (rest := [.int a3]) (P := (fun zv9 wm9 => (vX12_valueOf s a4) = zv9 ∧ s = wm9)) dX12_trade_75 cvX12_281 okX12_valueOf rfl (Nat.le_of_ble_eq_true rfl) BS_248 (Nat.le_of_ble_eq_true rfl) (Nat.le_of_ble_eq_true rfl) hci_12 (Nat.le_of_ble_eq_true rfl) (Nat.le_of_ble_eq_true rfl) (pX12_valueOf  (a4) o1 ⟨rfl, rfl⟩) (fun zv9 wm9 hq9 => ?_)
        obtain ⟨rfl, rfl⟩ := hq9
        refine JT_goto (tgt := 82) dX12_trade_78 (by decide) ?_
        refine JT_iadd dX12_trade_82 ?_
        refine JT_istore_n (lv' := [(3, .int (a3 + (vX12_valueOf s a4))), (0, .ref 248), (1, .int a1), (2, .int a2), (4, .int a4)]) dX12_trade_83 rfl (Nat.le_of_ble_eq_true rfl) rfl ?_
        refine JT_iinc (q := 4) (v := (a4 + 1)) (lv' := [(4, .int (a4 + 1)), (3, .int (a3 + (vX12_valueOf s a4))), (0, .ref 248), (1, .int a1), (2, .int a2)]) dX12_trade_84 rfl (by rfl) (Nat.le_of_ble_eq_true rfl) rfl ?_
        refine JT_goto (tgt := 31) dX12_trade_87 (by decide) ?_
        exact JT_sub [2, 3, 4, 1, 0] rfl h
      · have h := h.2 hc5
        refine JT_aload_n (q := 0) dX12_trade_59 rfl rfl ?_
        refine JT_iload (q := 4) dX12_trade_60 rfl ?_
        refine JT_iconst (v := 5) dX12_trade_62 ic_5 ?_
        obtain ⟨o4, h⟩ := h
        refine JS_callVI (M' := MX12_of) (d' := 0) (As := [.int a4, .int (5 : Int32)]) (rest := [.int a3]) (P := (fun zv9 wm9 => (vX12_of s a4 (5 : Int32)) = zv9 ∧ s = wm9)) dX12_trade_63 cvX12_265 okX12_of rfl (Nat.le_of_ble_eq_true rfl) BS_248 (Nat.le_of_ble_eq_true rfl) (Nat.le_of_ble_eq_true rfl) hci_12 (Nat.le_of_ble_eq_true rfl) (Nat.le_of_ble_eq_true rfl) (pX12_of  (a4) ((5 : Int32)) o4 ⟨rfl, rfl⟩) (fun zv9 wm9 hq9 => ?_)
        obtain ⟨rfl, rfl⟩ := hq9
        refine JT_iload_n (q := 2) dX12_trade_66 rfl rfl ?_
        refine JT_iconst (v := 1) dX12_trade_67 ic_1 ?_
        refine JT_isub dX12_trade_68 ?_
        refine JT_icmp_ne (tgt := 81) dX12_trade_69 (by decide) (fun hc3 => ?_) (fun hc3 => ?_)
        · have h := h.1 hc3
          refine JT_iconst (v := 0) dX12_trade_81 ic_0 ?_
          refine JT_iadd dX12_trade_82 ?_
          refine JT_istore_n (lv' := [(3, .int (a3 + (0 : Int32))), (0, .ref 248), (1, .int a1), (2, .int a2), (4, .int a4)]) dX12_trade_83 rfl (Nat.le_of_ble_eq_true rfl) rfl ?_
          refine JT_iinc (q := 4) (v := (a4 + 1)) (lv' := [(4, .int (a4 + 1)), (3, .int (a3 + (0 : Int32))), (0, .ref 248), (1, .int a1), (2, .int a2)]) dX12_trade_84 rfl (by rfl) (Nat.le_of_ble_eq_true rfl) rfl ?_
          refine JT_goto (tgt := 31) dX12_trade_87 (by decide) ?_
          exact JT_sub [2, 3, 4, 1, 0] rfl h
        · have h := h.2 hc3
          refine JT_aload_n (q := 0) dX12_trade_72 rfl rfl ?_
          refine JT_iload (q := 4) dX12_trade_73 rfl ?_
          obtain ⟨o2, h⟩ := h
          refine JS_callVI (M' := MX12_valueOf) (d' := 2) (As := [.int a4]) (rest := [.int a3]) (P := (fun zv9 wm9 => (vX12_valueOf s a4) = zv9 ∧ s = wm9)) dX12_trade_75 cvX12_281 okX12_valueOf rfl (Nat.le_of_ble_eq_true rfl) BS_248 (Nat.le_of_ble_eq_true rfl) (Nat.le_of_ble_eq_true rfl) hci_12 (Nat.le_of_ble_eq_true rfl) (Nat.le_of_ble_eq_true rfl) (pX12_valueOf  (a4) o2 ⟨rfl, rfl⟩) (fun zv9 wm9 hq9 => ?_)
          obtain ⟨rfl, rfl⟩ := hq9
          refine JT_goto (tgt := 82) dX12_trade_78 (by decide) ?_
          refine JT_iadd dX12_trade_82 ?_
          refine JT_istore_n (lv' := [(3, .int (a3 + (vX12_valueOf s a4))), (0, .ref 248), (1, .int a1), (2, .int a2), (4, .int a4)]) dX12_trade_83 rfl (Nat.le_of_ble_eq_true rfl) rfl ?_
          refine JT_iinc (q := 4) (v := (a4 + 1)) (lv' := [(4, .int (a4 + 1)), (3, .int (a3 + (vX12_valueOf s a4))), (0, .ref 248), (1, .int a1), (2, .int a2)]) dX12_trade_84 rfl (by rfl) (Nat.le_of_ble_eq_true rfl) rfl ?_
          refine JT_goto (tgt := 31) dX12_trade_87 (by decide) ?_
          exact JT_sub [2, 3, 4, 1, 0] rfl h
set_option maxRecDepth 1000000 in
theorem bX12_trade (a1 : Int32) (a2 : Int32) {s : SM} {Q : Int32 → SM → Prop} (h : (((vX12_isIn (pI s 248 0 (0 : Int32)) a1 (0 : Int32) (99 : Int32)) = 0 → Q (-1 : Int32) (pI s 248 0 (0 : Int32))) ∧ (¬ (vX12_isIn (pI s 248 0 (0 : Int32)) a1 (0 : Int32) (99 : Int32)) = 0 → ((¬ (vX12_isIn (pI s 248 0 (0 : Int32)) a2 (0 : Int32) (3 : Int32)) = 0 → BI MX12_trade 3 31 [(0, .ref 248), (1, .int a1), (2, .int a2), (3, .int (0 : Int32)), (4, .int (0 : Int32))] (pI s 248 0 (0 : Int32)) Q) ∧ ((vX12_isIn (pI s 248 0 (0 : Int32)) a2 (0 : Int32) (3 : Int32)) = 0 → Q (-1 : Int32) (pI s 248 0 (0 : Int32))))))) : KI MX12_trade 3 [.ref 248, .int a1, .int a2] s Q := by
  show BI MX12_trade 3 0 [(0, .ref 248), (1, .int a1), (2, .int a2)] s Q
  refine JT_aload_n (q := 0) dX12_trade_0 rfl rfl ?_
  refine JT_iconst (v := 0) dX12_trade_1 ic_0 ?_
  refine JS_putI dX12_trade_2 flX12_1 BS_248 (Nat.le_of_ble_eq_true rfl) (Nat.le_of_ble_eq_true rfl) ct_12_0 ?_
  refine JT_iload_n (q := 1) dX12_trade_5 rfl rfl ?_
  refine JT_iconst (v := 0) dX12_trade_6 ic_0 ?_
  refine JT_bipush (v := 99) dX12_trade_7 bp_99 ?_
  refine JS_callSI (M' := MX12_isIn) (d' := 0) (As := [.int a1, .int (0 : Int32), .int (99 : Int32)]) (rest := []) (P := (fun zv9 wm9 => (vX12_isIn (pI s 248 0 (0 : Int32)) a1 (0 : Int32) (99 : Int32)) = zv9 ∧ (pI s 248 0 (0 : Int32)) = wm9)) dX12_trade_9 cvX12_202 okX12_isIn rfl (Nat.le_of_ble_eq_true rfl) (Nat.le_of_ble_eq_true rfl) (Nat.le_of_ble_eq_true rfl) (pX12_isIn  (a1) ((0 : Int32)) ((99 : Int32))  ⟨rfl, rfl⟩) (fun zv9 wm9 hq9 => ?_)
  obtain ⟨rfl, rfl⟩ := hq9
  refine JT_if_eq (tgt := 24) dX12_trade_12 (by decide) (fun hc3 => ?_) (fun hc3 => ?_)
  · have h := h.1 hc3
    refine JT_iconst (v := -1) dX12_trade_24 ic_m1 ?_
    exact JS_iret dX12_trade_25 rfl rfl h
  · have h := h.2 hc3
    refine JT_iload_n (q := 2) dX12_trade_15 rfl rfl ?_
    refine JT_iconst (v := 0) dX12_trade_16 ic_0 ?_
    refine JT_iconst (v := 3) dX12_trade_17 ic_3 ?_
    refine JS_callSI (M' := MX12_isIn) (d' := 0) (As := [.int a2, .int (0 : Int32), .int (3 : Int32)]) (rest := []) (P := (fun zv9 wm9 => (vX12_isIn (pI s 248 0 (0 : Int32)) a2 (0 : Int32) (3 : Int32)) = zv9 ∧ (pI s 248 0 (0 : Int32)) = wm9)) dX12_trade_18 cvX12_202 okX12_isIn rfl (Nat.le_of_ble_eq_true rfl) (Nat.le_of_ble_eq_true rfl) (Nat.le_of_ble_eq_true rfl) (pX12_isIn  (a2) ((0 : Int32)) ((3 : Int32))  ⟨rfl, rfl⟩) (fun zv9 wm9 hq9 => ?_)
    obtain ⟨rfl, rfl⟩ := hq9
    refine JT_if_ne (tgt := 26) dX12_trade_21 (by decide) (fun hc1 => ?_) (fun hc1 => ?_)
    · have h := h.1 hc1
      refine JT_iconst (v := 0) dX12_trade_26 ic_0 ?_
      refine JT_istore_n (lv' := [(3, .int (0 : Int32)), (0, .ref 248), (1, .int a1), (2, .int a2)]) dX12_trade_27 rfl (Nat.le_of_ble_eq_true rfl) rfl ?_
      refine JT_iconst (v := 0) dX12_trade_28 ic_0 ?_
      refine JT_istore (lv' := [(4, .int (0 : Int32)), (3, .int (0 : Int32)), (0, .ref 248), (1, .int a1), (2, .int a2)]) dX12_trade_29 (Nat.le_of_ble_eq_true rfl) rfl ?_
      exact JT_sub [2, 3, 4, 1, 0] rfl h
    · have h := h.2 hc1
      refine JT_iconst (v := -1) dX12_trade_24 ic_m1 ?_
      exact JS_iret dX12_trade_25 rfl rfl h
set_option maxRecDepth 1000000 in
theorem gX12_trade  : ∀ n : Nat, (∀ (a1 : Int32) (a2 : Int32) (a3 : Int32) (a4 : Int32) (s : SM) (Q : Int32 → SM → Prop), ((qX12_trade n) s a1 a2 a3 a4) → Q ((lX12_trade n) s a1 a2 a3 a4).1 ((lX12_trade n) s a1 a2 a3 a4).2 → BI MX12_trade 3 31 [(0, .ref 248), (1, .int a1), (2, .int a2), (3, .int a3), (4, .int a4)] s Q) := by
  intro n
  induction n with
  | zero => exact fun _ _ _ _ _ _ hq _ => absurd hq id
  | succ n ih =>
    intro a1 a2 a3 a4 s Q hr h
    replace hr : uX12_trade_31 (qX12_trade n) s a1 a2 a3 a4 := hr
    replace h : Q (tX12_trade_31 (lX12_trade n) s a1 a2 a3 a4).1 (tX12_trade_31 (lX12_trade n) s a1 a2 a3 a4).2 := h
    unfold uX12_trade_31 at hr
    unfold tX12_trade_31 at h
    refine bX12_trade_31 a1 a2 a3 a4 ?_
    refine ⟨fun c => ?_, fun c => ?_⟩
    · replace h := q3p c h
      first | exact h | contradiction
    · replace hr := hr c
      replace h := q3n c h
      refine ⟨hr.1, ?_⟩
      replace hr := hr.2
      refine ⟨fun c => ?_, fun c => ?_⟩
      · replace hr := hr.1 c
        replace h := q3n c h
        first | exact ih a1 a2 (a3 + (0 : Int32)) (a4 + 1) _ Q hr h | contradiction
      · replace hr := hr.2 c
        replace h := q3p c h
        refine ⟨fun c => ?_, fun c => ?_⟩
        · replace hr := hr.1 c
          replace h := q3p c h
          refine ⟨hr.1, ?_⟩
          replace hr := hr.2
          first | exact ih a1 a2 (a3 + (vX12_valueOf s a4)) (a4 + 1) _ Q hr h | contradiction
        · replace hr := hr.2 c
          replace h := q3n c h
          refine ⟨hr.1, ?_⟩
          replace hr := hr.2
          refine ⟨fun c => ?_, fun c => ?_⟩
          · replace hr := hr.1 c
            replace h := q3n c h
            first | exact ih a1 a2 (a3 + (0 : Int32)) (a4 + 1) _ Q hr h | contradiction
          · replace hr := hr.2 c
            replace h := q3p c h
            refine ⟨hr.1, ?_⟩
            replace hr := hr.2
            first | exact ih a1 a2 (a3 + (vX12_valueOf s a4)) (a4 + 1) _ Q hr h | contradiction
set_option maxRecDepth 1000000 in
theorem pX12_trade (a1 : Int32) (a2 : Int32) {s : SM} {Q : Int32 → SM → Prop} (hr : rX12_trade s a1 a2) (h : Q (vX12_trade s a1 a2) (mX12_trade s a1 a2)) : KI MX12_trade 3 [.ref 248, .int a1, .int a2] s Q := by
  replace h : Q (fX12_trade s a1 a2).1 (fX12_trade s a1 a2).2 := h
  unfold rX12_trade at hr
  unfold fX12_trade at h
  refine bX12_trade a1 a2 ?_
  refine ⟨fun c => ?_, fun c => ?_⟩
  · replace h := q3p c h
    first | exact h | contradiction
  · replace hr := hr c
    replace h := q3n c h
    refine ⟨fun c => ?_, fun c => ?_⟩
    · replace hr := hr c
      replace h := q3n c h
      first | exact (gX12_trade  FU) a1 a2 (0 : Int32) (0 : Int32) _ Q hr h | contradiction
    · replace h := q3p c h
      first | exact h | contradiction
set_option maxRecDepth 1000000 in
theorem bX12_whyScar (a1 : Int32) (a2 : Int32) {s : SM} {Q : Int32 → SM → Prop} (h : rX12_isOpen s a1 ∧ ((¬ (vX12_isOpen s a1) = 0 → rX12_of s a1 (8 : Int32) ∧ ((¬ (vX12_has s (vX12_of s a1 (8 : Int32)) a2) = 0 → Q (6 : Int32) s) ∧ ((vX12_has s (vX12_of s a1 (8 : Int32)) a2) = 0 → rX12_of s a1 ((6 : Int32) + a2) ∧ (((vX12_of s a1 ((6 : Int32) + a2)) < 0 → Q (6 : Int32) s) ∧ (¬ (vX12_of s a1 ((6 : Int32) + a2)) < 0 → rX12_of s a1 ((6 : Int32) + a2) ∧ Q (if (vX12_isLiving s (vX12_of s a1 ((6 : Int32) + a2))) = 0 then (6 : Int32) else (0 : Int32)) s))))) ∧ ((vX12_isOpen s a1) = 0 → Q (4 : Int32) s))) : KI MX12_whyScar 3 [.ref 248, .int a1, .int a2] s Q := by
  show BI MX12_whyScar 3 0 [(0, .ref 248), (1, .int a1), (2, .int a2)] s Q
  refine JT_aload_n (q := 0) dX12_whyScar_0 rfl rfl ?_
  refine JT_iload_n (q := 1) dX12_whyScar_1 rfl rfl ?_
  obtain ⟨o11, h⟩ := h
  refine JS_callVI (M' := MX12_isOpen) (d' := 2) (As := [.int a1]) (rest := []) (P := (fun zv9 wm9 => (vX12_isOpen s a1) = zv9 ∧ s = wm9)) dX12_whyScar_2 cvX12_278 okX12_isOpen rfl (Nat.le_of_ble_eq_true rfl) BS_248 (Nat.le_of_ble_eq_true rfl) (Nat.le_of_ble_eq_true rfl) hci_12 (Nat.le_of_ble_eq_true rfl) (Nat.le_of_ble_eq_true rfl) (pX12_isOpen  (a1) o11 ⟨rfl, rfl⟩) (fun zv9 wm9 hq9 => ?_)
  obtain ⟨rfl, rfl⟩ := hq9
  refine JT_if_ne (tgt := 12) dX12_whyScar_5 (by decide) (fun hc10 => ?_) (fun hc10 => ?_)
  · have h := h.1 hc10
    refine JT_aload_n (q := 0) dX12_whyScar_12 rfl rfl ?_
    refine JT_iload_n (q := 1) dX12_whyScar_13 rfl rfl ?_
    refine JT_bipush (v := 8) dX12_whyScar_14 bp_8 ?_
    obtain ⟨o9, h⟩ := h
    refine JS_callVI (M' := MX12_of) (d' := 0) (As := [.int a1, .int (8 : Int32)]) (rest := []) (P := (fun zv9 wm9 => (vX12_of s a1 (8 : Int32)) = zv9 ∧ s = wm9)) dX12_whyScar_16 cvX12_265 okX12_of rfl (Nat.le_of_ble_eq_true rfl) BS_248 (Nat.le_of_ble_eq_true rfl) (Nat.le_of_ble_eq_true rfl) hci_12 (Nat.le_of_ble_eq_true rfl) (Nat.le_of_ble_eq_true rfl) (pX12_of  (a1) ((8 : Int32)) o9 ⟨rfl, rfl⟩) (fun zv9 wm9 hq9 => ?_)
    obtain ⟨rfl, rfl⟩ := hq9
    refine JT_iload_n (q := 2) dX12_whyScar_19 rfl rfl ?_
    refine JS_callSI (M' := MX12_has) (d' := 0) (As := [.int (vX12_of s a1 (8 : Int32)), .int a2]) (rest := []) (P := (fun zv9 wm9 => (vX12_has s (vX12_of s a1 (8 : Int32)) a2) = zv9 ∧ s = wm9)) dX12_whyScar_20 cvX12_259 okX12_has rfl (Nat.le_of_ble_eq_true rfl) (Nat.le_of_ble_eq_true rfl) (Nat.le_of_ble_eq_true rfl) (pX12_has  ((vX12_of s a1 (8 : Int32))) (a2)  ⟨rfl, rfl⟩) (fun zv9 wm9 hq9 => ?_)
    obtain ⟨rfl, rfl⟩ := hq9
    refine JT_if_ne (tgt := 54) dX12_whyScar_23 (by decide) (fun hc7 => ?_) (fun hc7 => ?_)
    · have h := h.1 hc7
      refine JT_bipush (v := 6) dX12_whyScar_54 bp_6 ?_
      refine JT_goto (tgt := 60) dX12_whyScar_56 (by decide) ?_
      exact JS_iret dX12_whyScar_60 rfl rfl h
    · have h := h.2 hc7
      refine JT_aload_n (q := 0) dX12_whyScar_26 rfl rfl ?_
      refine JT_iload_n (q := 1) dX12_whyScar_27 rfl rfl ?_
      refine JT_bipush (v := 6) dX12_whyScar_28 bp_6 ?_
      refine JT_iload_n (q := 2) dX12_whyScar_30 rfl rfl ?_
      refine JT_iadd dX12_whyScar_31 ?_
      obtain ⟨o6, h⟩ := h
      refine JS_callVI (M' := MX12_of) (d' := 0) (As := [.int a1, .int ((6 : Int32) + a2)]) (rest := []) (P := (fun zv9 wm9 => (vX12_of s a1 ((6 : Int32) + a2)) = zv9 ∧ s = wm9)) dX12_whyScar_32 cvX12_265 okX12_of rfl (Nat.le_of_ble_eq_true rfl) BS_248 (Nat.le_of_ble_eq_true rfl) (Nat.le_of_ble_eq_true rfl) hci_12 (Nat.le_of_ble_eq_true rfl) (Nat.le_of_ble_eq_true rfl) (pX12_of  (a1) (((6 : Int32) + a2)) o6 ⟨rfl, rfl⟩) (fun zv9 wm9 hq9 => ?_)
      obtain ⟨rfl, rfl⟩ := hq9
      refine JT_if_lt (tgt := 54) dX12_whyScar_35 (by decide) (fun hc5 => ?_) (fun hc5 => ?_)
      · have h := h.1 hc5
        refine JT_bipush (v := 6) dX12_whyScar_54 bp_6 ?_
        refine JT_goto (tgt := 60) dX12_whyScar_56 (by decide) ?_
        exact JS_iret dX12_whyScar_60 rfl rfl h
      · have h := h.2 hc5
        refine JT_aload_n (q := 0) dX12_whyScar_38 rfl rfl ?_
        refine JT_aload_n (q := 0) dX12_whyScar_39 rfl rfl ?_
        refine JT_iload_n (q := 1) dX12_whyScar_40 rfl rfl ?_
        refine JT_bipush (v := 6) dX12_whyScar_41 bp_6 ?_
        refine JT_iload_n (q := 2) dX12_whyScar_43 rfl rfl ?_
        refine JT_iadd dX12_whyScar_44 ?_
        obtain ⟨o4, h⟩ := h
        refine JS_callVI (M' := MX12_of) (d' := 0) (As := [.int a1, .int ((6 : Int32) + a2)]) (rest := [.ref 248]) (P := (fun zv9 wm9 => (vX12_of s a1 ((6 : Int32) + a2)) = zv9 ∧ s = wm9)) dX12_whyScar_45 cvX12_265 okX12_of rfl (Nat.le_of_ble_eq_true rfl) BS_248 (Nat.le_of_ble_eq_true rfl) (Nat.le_of_ble_eq_true rfl) hci_12 (Nat.le_of_ble_eq_true rfl) (Nat.le_of_ble_eq_true rfl) (pX12_of  (a1) (((6 : Int32) + a2)) o4 ⟨rfl, rfl⟩) (fun zv9 wm9 hq9 => ?_)
        obtain ⟨rfl, rfl⟩ := hq9
        refine JS_callVI (M' := MX12_isLiving) (d' := 1) (As := [.int (vX12_of s a1 ((6 : Int32) + a2))]) (rest := []) (P := (fun zv9 wm9 => (vX12_isLiving s (vX12_of s a1 ((6 : Int32) + a2))) = zv9 ∧ s = wm9)) dX12_whyScar_48 cvX12_294 okX12_isLiving rfl (Nat.le_of_ble_eq_true rfl) BS_248 (Nat.le_of_ble_eq_true rfl) (Nat.le_of_ble_eq_true rfl) hci_12 (Nat.le_of_ble_eq_true rfl) (Nat.le_of_ble_eq_true rfl) (pX12_isLiving  ((vX12_of s a1 ((6 : Int32) + a2)))  ⟨rfl, rfl⟩) (fun zv9 wm9 hq9 => ?_)
        obtain ⟨rfl, rfl⟩ := hq9
        have hj1 : ∀ v : Int32, v = (if (vX12_isLiving s (vX12_of s a1 ((6 : Int32) + a2))) = 0 then (6 : Int32) else (0 : Int32)) → JT MX12_whyScar 3 0 0 60 [(0, .ref 248), (1, .int a1), (2, .int a2)] [.int v] (std s) (KQ Q) := by
          intro v hv
          subst hv
          exact JS_iret dX12_whyScar_60 rfl rfl h
        refine JT_if_ne (tgt := 59) dX12_whyScar_51 (by decide) (fun hc2 => ?_) (fun hc2 => ?_)
        · refine JT_iconst (v := 0) dX12_whyScar_59 ic_0 ?_
          exact hj1 _ (by rw [if_neg hc2])
        · refine JT_bipush (v := 6) dX12_whyScar_54 bp_6 ?_
          refine JT_goto (tgt := 60) dX12_whyScar_56 (by decide) ?_
          exact hj1 _ (by rw [if_pos hc2])
  · have h := h.2 hc10
    refine JT_iconst (v := 4) dX12_whyScar_8 ic_4 ?_
    refine JT_goto (tgt := 60) dX12_whyScar_9 (by decide) ?_
    exact JS_iret dX12_whyScar_60 rfl rfl h
set_option maxRecDepth 1000000 in
theorem pX12_whyScar (a1 : Int32) (a2 : Int32) {s : SM} {Q : Int32 → SM → Prop} (hr : rX12_whyScar s a1 a2) (h : Q (vX12_whyScar s a1 a2) s) : KI MX12_whyScar 3 [.ref 248, .int a1, .int a2] s Q := by
  refine bX12_whyScar a1 a2 ?_
  unfold rX12_whyScar at hr
  unfold vX12_whyScar at h
  refine ⟨hr.1, ?_⟩
  replace hr := hr.2
  refine ⟨fun c => ?_, fun c => ?_⟩
  · replace hr := hr c
    replace h := qln c h
    refine ⟨hr.1, ?_⟩
    replace hr := hr.2
    refine ⟨fun c => ?_, fun c => ?_⟩
    · replace h := qln c h
      first | exact h | contradiction
    · replace hr := hr c
      replace h := qlp c h
      refine ⟨hr.1, ?_⟩
      replace hr := hr.2
      refine ⟨fun c => ?_, fun c => ?_⟩
      · replace h := qlp c h
        first | exact h | contradiction
      · replace hr := hr c
        replace h := qln c h
        refine ⟨hr, ?_⟩
        first | exact h | contradiction
  · replace h := qlp c h
    first | exact h | contradiction
set_option maxRecDepth 1000000 in
theorem bX12_whyStrike_63 (a1 : Int32) (a2 : Int32) (a3 : Int32) (a4 : Int32) {s : SM} {Q : Int32 → SM → Prop} (h : (((vX12_isLiving s a3) = 0 → Q (0 : Int32) s) ∧ (¬ (vX12_isLiving s a3) = 0 → rX12_leftOf s a3 ∧ Q (if a4 ≤ (vX12_leftOf s a3) then (0 : Int32) else (5 : Int32)) s))) : BI MX12_whyStrike 3 63 [(0, .ref 248), (1, .int a1), (2, .int a2), (3, .int a3), (4, .int a4)] s Q := by
  refine JT_aload_n (q := 0) dX12_whyStrike_63 rfl rfl ?_
  refine JT_iload_n (q := 3) dX12_whyStrike_64 rfl rfl ?_
  refine JS_callVI (M' := MX12_isLiving) (d' := 1) (As := [.int a3]) (rest := []) (P := (fun zv9 wm9 => (vX12_isLiving s a3) = zv9 ∧ s = wm9)) dX12_whyStrike_65 cvX12_294 okX12_isLiving rfl (Nat.le_of_ble_eq_true rfl) BS_248 (Nat.le_of_ble_eq_true rfl) (Nat.le_of_ble_eq_true rfl) hci_12 (Nat.le_of_ble_eq_true rfl) (Nat.le_of_ble_eq_true rfl) (pX12_isLiving  (a3)  ⟨rfl, rfl⟩) (fun zv9 wm9 hq9 => ?_)
  obtain ⟨rfl, rfl⟩ := hq9
  refine JT_if_eq (tgt := 85) dX12_whyStrike_68 (by decide) (fun hc4 => ?_) (fun hc4 => ?_)
  · have h := h.1 hc4
    refine JT_iconst (v := 0) dX12_whyStrike_85 ic_0 ?_
    exact JS_iret dX12_whyStrike_86 rfl rfl h
  · have h := h.2 hc4
    refine JT_aload_n (q := 0) dX12_whyStrike_71 rfl rfl ?_
    refine JT_iload_n (q := 3) dX12_whyStrike_72 rfl rfl ?_
    obtain ⟨o3, h⟩ := h
    refine JS_callVI (M' := MX12_leftOf) (d' := 2) (As := [.int a3]) (rest := []) (P := (fun zv9 wm9 => (vX12_leftOf s a3) = zv9 ∧ s = wm9)) dX12_whyStrike_73 cvX12_297 okX12_leftOf rfl (Nat.le_of_ble_eq_true rfl) BS_248 (Nat.le_of_ble_eq_true rfl) (Nat.le_of_ble_eq_true rfl) hci_12 (Nat.le_of_ble_eq_true rfl) (Nat.le_of_ble_eq_true rfl) (pX12_leftOf  (a3) o3 ⟨rfl, rfl⟩) (fun zv9 wm9 hq9 => ?_)
    obtain ⟨rfl, rfl⟩ := hq9
    refine JT_iload (q := 4) dX12_whyStrike_76 rfl ?_
    have hj1 : ∀ v : Int32, v = (if a4 ≤ (vX12_leftOf s a3) then (0 : Int32) else (5 : Int32)) → JT MX12_whyStrike 3 0 0 86 [(0, .ref 248), (1, .int a1), (2, .int a2), (3, .int a3), (4, .int a4)] [.int v] (std s) (KQ Q) := by
      intro v hv
      subst hv
      exact JS_iret dX12_whyStrike_86 rfl rfl h
    refine JT_icmp_ge (tgt := 85) dX12_whyStrike_78 (by decide) (fun hc2 => ?_) (fun hc2 => ?_)
    · refine JT_iconst (v := 0) dX12_whyStrike_85 ic_0 ?_
      exact hj1 _ (by rw [if_pos hc2])
    · refine JT_iconst (v := 5) dX12_whyStrike_81 ic_5 ?_
      refine JT_goto (tgt := 86) dX12_whyStrike_82 (by decide) ?_
      exact hj1 _ (by rw [if_neg hc2])
set_option maxRecDepth 1000000 in
theorem bX12_whyStrike (a1 : Int32) {s : SM} {Q : Int32 → SM → Prop} (h : rX12_isOpen s a1 ∧ ((¬ (vX12_isOpen s a1) = 0 → rX12_of s a1 (6 : Int32) ∧ rX12_of s a1 (7 : Int32) ∧ (((vX12_isLiving s (vX12_of s a1 (6 : Int32))) = 0 → BI MX12_whyStrike 3 63 [(0, .ref 248), (1, .int a1), (2, .int (vX12_of s a1 (6 : Int32))), (3, .int (vX12_of s a1 (7 : Int32))), (4, .int ((gI s 250 ((2 : Int32)).toNatClampNeg) * (if (vX12_of s a1 (6 : Int32)) = (vX12_of s a1 (7 : Int32)) then (2 : Int32) else (1 : Int32))))] s Q) ∧ (¬ (vX12_isLiving s (vX12_of s a1 (6 : Int32))) = 0 → rX12_leftOf s (vX12_of s a1 (6 : Int32)) ∧ (((vX12_leftOf s (vX12_of s a1 (6 : Int32))) < ((gI s 250 ((2 : Int32)).toNatClampNeg) * (if (vX12_of s a1 (6 : Int32)) = (vX12_of s a1 (7 : Int32)) then (2 : Int32) else (1 : Int32))) → Q (5 : Int32) s) ∧ (¬ (vX12_leftOf s (vX12_of s a1 (6 : Int32))) < ((gI s 250 ((2 : Int32)).toNatClampNeg) * (if (vX12_of s a1 (6 : Int32)) = (vX12_of s a1 (7 : Int32)) then (2 : Int32) else (1 : Int32))) → BI MX12_whyStrike 3 63 [(0, .ref 248), (1, .int a1), (2, .int (vX12_of s a1 (6 : Int32))), (3, .int (vX12_of s a1 (7 : Int32))), (4, .int ((gI s 250 ((2 : Int32)).toNatClampNeg) * (if (vX12_of s a1 (6 : Int32)) = (vX12_of s a1 (7 : Int32)) then (2 : Int32) else (1 : Int32))))] s Q))))) ∧ ((vX12_isOpen s a1) = 0 → Q (4 : Int32) s))) : KI MX12_whyStrike 3 [.ref 248, .int a1] s Q := by
  show BI MX12_whyStrike 3 0 [(0, .ref 248), (1, .int a1)] s Q
  refine JT_aload_n (q := 0) dX12_whyStrike_0 rfl rfl ?_
  refine JT_iload_n (q := 1) dX12_whyStrike_1 rfl rfl ?_
  obtain ⟨o10, h⟩ := h
  refine JS_callVI (M' := MX12_isOpen) (d' := 2) (As := [.int a1]) (rest := []) (P := (fun zv9 wm9 => (vX12_isOpen s a1) = zv9 ∧ s = wm9)) dX12_whyStrike_2 cvX12_278 okX12_isOpen rfl (Nat.le_of_ble_eq_true rfl) BS_248 (Nat.le_of_ble_eq_true rfl) (Nat.le_of_ble_eq_true rfl) hci_12 (Nat.le_of_ble_eq_true rfl) (Nat.le_of_ble_eq_true rfl) (pX12_isOpen  (a1) o10 ⟨rfl, rfl⟩) (fun zv9 wm9 hq9 => ?_)
  obtain ⟨rfl, rfl⟩ := hq9
  refine JT_if_ne (tgt := 10) dX12_whyStrike_5 (by decide) (fun hc9 => ?_) (fun hc9 => ?_)
  · have h := h.1 hc9
    refine JT_aload_n (q := 0) dX12_whyStrike_10 rfl rfl ?_
    refine JT_iload_n (q := 1) dX12_whyStrike_11 rfl rfl ?_
    refine JT_bipush (v := 6) dX12_whyStrike_12 bp_6 ?_
    obtain ⟨o8, h⟩ := h
    refine JS_callVI (M' := MX12_of) (d' := 0) (As := [.int a1, .int (6 : Int32)]) (rest := []) (P := (fun zv9 wm9 => (vX12_of s a1 (6 : Int32)) = zv9 ∧ s = wm9)) dX12_whyStrike_14 cvX12_265 okX12_of rfl (Nat.le_of_ble_eq_true rfl) BS_248 (Nat.le_of_ble_eq_true rfl) (Nat.le_of_ble_eq_true rfl) hci_12 (Nat.le_of_ble_eq_true rfl) (Nat.le_of_ble_eq_true rfl) (pX12_of  (a1) ((6 : Int32)) o8 ⟨rfl, rfl⟩) (fun zv9 wm9 hq9 => ?_)
    obtain ⟨rfl, rfl⟩ := hq9
    refine JT_istore_n (lv' := [(2, .int (vX12_of s a1 (6 : Int32))), (0, .ref 248), (1, .int a1)]) dX12_whyStrike_17 rfl (Nat.le_of_ble_eq_true rfl) rfl ?_
    refine JT_aload_n (q := 1) dX12_whyStrike_18 rfl rfl ?_
    refine JT_iload_n (q := 2) dX12_whyStrike_19 rfl rfl ?_
    refine JT_bipush (v := 7) dX12_whyStrike_20 bp_7 ?_
    obtain ⟨o7, h⟩ := h
    refine JS_callVI (M' := MX12_of) (d' := 0) (As := [.int a1, .int (7 : Int32)]) (rest := []) (P := (fun zv9 wm9 => (vX12_of s a1 (7 : Int32)) = zv9 ∧ s = wm9)) dX12_whyStrike_22 cvX12_265 okX12_of rfl (Nat.le_of_ble_eq_true rfl) BS_248 (Nat.le_of_ble_eq_true rfl) (Nat.le_of_ble_eq_true rfl) hci_12 (Nat.le_of_ble_eq_true rfl) (Nat.le_of_ble_eq_true rfl) (pX12_of  (a1) ((7 : Int32)) o7 ⟨rfl, rfl⟩) (fun zv9 wm9 hq9 => ?_)
    obtain ⟨rfl, rfl⟩ := hq9
    refine JT_istore_n (lv' := [(3, .int (vX12_of s a1 (7 : Int32))), (2, .int (vX12_of s a1 (6 : Int32))), (0, .ref 248), (1, .int a1)]) dX12_whyStrike_25 rfl (Nat.le_of_ble_eq_true rfl) rfl ?_
    refine JT_aload_n (q := 2) dX12_whyStrike_26 rfl rfl ?_
    refine JS_getR (x := 250) dX12_whyStrike_27 flX12_33 BS_248 (Nat.le_of_ble_eq_true rfl) (Nat.le_of_ble_eq_true rfl) (Or.inr ⟨_, ct_12_6⟩) RF_248_6 ?_
    refine JT_iconst (v := 2) dX12_whyStrike_30 ic_2 ?_
    refine JS_iald dX12_whyStrike_31 BS_250 (Nat.le_of_ble_eq_true rfl) (Nat.le_of_ble_eq_true rfl) (by unfold vp_in; decide) ?_
    refine JT_iload_n (q := 1) dX12_whyStrike_32 rfl rfl ?_
    refine JT_iload_n (q := 0) dX12_whyStrike_33 rfl rfl ?_
    have hj5 : ∀ v : Int32, v = (if (vX12_of s a1 (6 : Int32)) = (vX12_of s a1 (7 : Int32)) then (2 : Int32) else (1 : Int32)) → JT MX12_whyStrike 3 0 0 42 [(3, .int (vX12_of s a1 (7 : Int32))), (2, .int (vX12_of s a1 (6 : Int32))), (0, .ref 248), (1, .int a1)] [.int v, .int (gI s 250 ((2 : Int32)).toNatClampNeg)] (std s) (KQ Q) := by
      intro v hv
      subst hv
      refine JT_imul dX12_whyStrike_42 ?_
      refine JT_istore (lv' := [(4, .int ((gI s 250 ((2 : Int32)).toNatClampNeg) * (if (vX12_of s a1 (6 : Int32)) = (vX12_of s a1 (7 : Int32)) then (2 : Int32) else (1 : Int32)))), (3, .int (vX12_of s a1 (7 : Int32))), (2, .int (vX12_of s a1 (6 : Int32))), (0, .ref 248), (1, .int a1)]) dX12_whyStrike_43 (Nat.le_of_ble_eq_true rfl) rfl ?_
      refine JT_aload_n (q := 3) dX12_whyStrike_45 rfl rfl ?_
      refine JT_iload_n (q := 2) dX12_whyStrike_46 rfl rfl ?_
      refine JS_callVI (M' := MX12_isLiving) (d' := 1) (As := [.int (vX12_of s a1 (6 : Int32))]) (rest := []) (P := (fun zv9 wm9 => (vX12_isLiving s (vX12_of s a1 (6 : Int32))) = zv9 ∧ s = wm9)) dX12_whyStrike_47 cvX12_294 okX12_isLiving rfl (Nat.le_of_ble_eq_true rfl) BS_248 (Nat.le_of_ble_eq_true rfl) (Nat.le_of_ble_eq_true rfl) hci_12 (Nat.le_of_ble_eq_true rfl) (Nat.le_of_ble_eq_true rfl) (pX12_isLiving  ((vX12_of s a1 (6 : Int32)))  ⟨rfl, rfl⟩) (fun zv9 wm9 hq9 => ?_)
      obtain ⟨rfl, rfl⟩ := hq9
      refine JT_if_eq (tgt := 63) dX12_whyStrike_50 (by decide) (fun hc3 => ?_) (fun hc3 => ?_)
      · have h := h.1 hc3
        exact JT_sub [3, 4, 2, 1, 0] rfl h
      · have h := h.2 hc3
        refine JT_aload_n (q := 3) dX12_whyStrike_53 rfl rfl ?_
        refine JT_iload_n (q := 2) dX12_whyStrike_54 rfl rfl ?_
        obtain ⟨o2, h⟩ := h
        refine JS_callVI (M' := MX12_leftOf) (d' := 2) (As := [.int (vX12_of s a1 (6 : Int32))]) (rest := []) (P := (fun zv9 wm9 => (vX12_leftOf s (vX12_of s a1 (6 : Int32))) = zv9 ∧ s = wm9)) dX12_whyStrike_55 cvX12_297 okX12_leftOf rfl (Nat.le_of_ble_eq_true rfl) BS_248 (Nat.le_of_ble_eq_true rfl) (Nat.le_of_ble_eq_true rfl) hci_12 (Nat.le_of_ble_eq_true rfl) (Nat.le_of_ble_eq_true rfl) (pX12_leftOf  ((vX12_of s a1 (6 : Int32))) o2 ⟨rfl, rfl⟩) (fun zv9 wm9 hq9 => ?_)
        obtain ⟨rfl, rfl⟩ := hq9
        refine JT_iload (q := 0) dX12_whyStrike_58 rfl ?_
        refine JT_icmp_lt (tgt := 81) dX12_whyStrike_60 (by decide) (fun hc1 => ?_) (fun hc1 => ?_)
        · have h := h.1 hc1
          refine JT_iconst (v := 5) dX12_whyStrike_81 ic_5 ?_
          refine JT_goto (tgt := 86) dX12_whyStrike_82 (by decide) ?_
          exact JS_iret dX12_whyStrike_86 rfl rfl h
        · have h := h.2 hc1
          exact JT_sub [3, 4, 2, 1, 0] rfl h
    refine JT_icmp_ne (tgt := 41) dX12_whyStrike_34 (by decide) (fun hc6 => ?_) (fun hc6 => ?_)
    · refine JT_iconst (v := 1) dX12_whyStrike_41 ic_1 ?_
      exact hj5 _ (by rw [if_neg hc6])
    · refine JT_iconst (v := 2) dX12_whyStrike_37 ic_2 ?_
      refine JT_goto (tgt := 42) dX12_whyStrike_38 (by decide) ?_
      exact hj5 _ (by rw [if_pos hc6])
  · have h := h.2 hc9
    refine JT_iconst (v := 4) dX12_whyStrike_8 ic_4 ?_
    exact JS_iret dX12_whyStrike_9 rfl rfl h
set_option maxRecDepth 1000000 in
theorem gX12_whyStrike  : ∀ n : Nat, (∀ (a1 : Int32) (a2 : Int32) (a3 : Int32) (a4 : Int32) (s : SM) (Q : Int32 → SM → Prop), ((qX12_whyStrike n) s a1 a2 a3 a4) → Q ((lX12_whyStrike n) s a1 a2 a3 a4) s → BI MX12_whyStrike 3 63 [(0, .ref 248), (1, .int a1), (2, .int a2), (3, .int a3), (4, .int a4)] s Q) := by
  intro n
  induction n with
  | zero => exact fun _ _ _ _ _ _ hq _ => absurd hq id
  | succ n ih =>
    intro a1 a2 a3 a4 s Q hr h
    replace hr : uX12_whyStrike_63 (qX12_whyStrike n) s a1 a2 a3 a4 := hr
    replace h : Q (tX12_whyStrike_63 (lX12_whyStrike n) s a1 a2 a3 a4) s := h
    unfold uX12_whyStrike_63 at hr
    unfold tX12_whyStrike_63 at h
    refine bX12_whyStrike_63 a1 a2 a3 a4 ?_
    refine ⟨fun c => ?_, fun c => ?_⟩
    · replace h := qlp c h
      first | exact h | contradiction
    · replace hr := hr c
      replace h := qln c h
      refine ⟨hr, ?_⟩
      first | exact h | contradiction
set_option maxRecDepth 1000000 in
theorem pX12_whyStrike (a1 : Int32) {s : SM} {Q : Int32 → SM → Prop} (hr : rX12_whyStrike s a1) (h : Q (vX12_whyStrike s a1) s) : KI MX12_whyStrike 3 [.ref 248, .int a1] s Q := by
  replace h : Q (fX12_whyStrike s a1) s := h
  unfold rX12_whyStrike at hr
  unfold fX12_whyStrike at h
  refine bX12_whyStrike a1 ?_
  refine ⟨hr.1, ?_⟩
  replace hr := hr.2
  refine ⟨fun c => ?_, fun c => ?_⟩
  · replace hr := hr c
    replace h := qln c h
    refine ⟨hr.1, ?_⟩
    replace hr := hr.2
    refine ⟨hr.1, ?_⟩
    replace hr := hr.2
    refine ⟨fun c => ?_, fun c => ?_⟩
    · replace hr := hr.1 c
      replace h := qlp c h
      first | exact (gX12_whyStrike  FU) a1 (vX12_of s a1 (6 : Int32)) (vX12_of s a1 (7 : Int32)) ((gI s 250 ((2 : Int32)).toNatClampNeg) * (if (vX12_of s a1 (6 : Int32)) = (vX12_of s a1 (7 : Int32)) then (2 : Int32) else (1 : Int32))) _ Q hr h | contradiction
    · replace hr := hr.2 c
      replace h := qln c h
      refine ⟨hr.1, ?_⟩
      replace hr := hr.2
      refine ⟨fun c => ?_, fun c => ?_⟩
      · replace h := qlp c h
        first | exact h | contradiction
      · replace hr := hr c
        replace h := qln c h
        first | exact (gX12_whyStrike  FU) a1 (vX12_of s a1 (6 : Int32)) (vX12_of s a1 (7 : Int32)) ((gI s 250 ((2 : Int32)).toNatClampNeg) * (if (vX12_of s a1 (6 : Int32)) = (vX12_of s a1 (7 : Int32)) then (2 : Int32) else (1 : Int32))) _ Q hr h | contradiction
  · replace h := qlp c h
    first | exact h | contradiction
set_option maxRecDepth 1000000 in
theorem bX12_witness_19 (a1 : Int32) (a2 : Int32) (a3 : Int32) {s : SM} {Q : Int32 → SM → Prop} (h : ((((1 : Int32) <<< ((gI s 250 ((0 : Int32)).toNatClampNeg) &&& 31)) ≤ a3 → Q a2 s) ∧ (¬ ((1 : Int32) <<< ((gI s 250 ((0 : Int32)).toNatClampNeg) &&& 31)) ≤ a3 → ((a2 < 0 → BI MX12_witness 3 46 [(0, .ref 248), (1, .int a1), (2, .int a2), (3, .int a3)] s Q) ∧ (¬ a2 < 0 → rX12_bits s a3 ∧ rX12_bits s a2 ∧ (((vX12_bits s a2) ≤ (vX12_bits s a3) → BI MX12_witness 3 19 [(0, .ref 248), (1, .int a1), (2, .int a2), (3, .int (a3 + 1))] s Q) ∧ (¬ (vX12_bits s a2) ≤ (vX12_bits s a3) → BI MX12_witness 3 46 [(0, .ref 248), (1, .int a1), (2, .int a2), (3, .int a3)] s Q))))))) : BI MX12_witness 3 19 [(0, .ref 248), (1, .int a1), (2, .int a2), (3, .int a3)] s Q := by
  refine JT_iload_n (q := 3) dX12_witness_19 rfl rfl ?_
  refine JT_iconst (v := 1) dX12_witness_20 ic_1 ?_
  refine JT_aload_n (q := 0) dX12_witness_21 rfl rfl ?_
  refine JS_getR (x := 250) dX12_witness_22 flX12_33 BS_248 (Nat.le_of_ble_eq_true rfl) (Nat.le_of_ble_eq_true rfl) (Or.inr ⟨_, ct_12_6⟩) RF_248_6 ?_
  refine JT_iconst (v := 0) dX12_witness_25 ic_0 ?_
  refine JS_iald dX12_witness_26 BS_250 (Nat.le_of_ble_eq_true rfl) (Nat.le_of_ble_eq_true rfl) (by unfold vp_in; decide) ?_
  refine JT_ishl dX12_witness_27 ?_
  refine JT_icmp_ge (tgt := 63) dX12_witness_28 (by decide) (fun hc5 => ?_) (fun hc5 => ?_)
  · have h := h.1 hc5
    refine JT_iload_n (q := 2) dX12_witness_63 rfl rfl ?_
    exact JS_iret dX12_witness_64 rfl rfl h
  · have h := h.2 hc5
    refine JT_iload_n (q := 2) dX12_witness_31 rfl rfl ?_
    refine JT_if_lt (tgt := 46) dX12_witness_32 (by decide) (fun hc4 => ?_) (fun hc4 => ?_)
    · have h := h.1 hc4
      exact JT_sub [0, 1, 2, 3] rfl h
    · have h := h.2 hc4
      refine JT_iload_n (q := 3) dX12_witness_35 rfl rfl ?_
      obtain ⟨o3, h⟩ := h
      refine JS_callSI (M' := MX12_bits) (d' := 0) (As := [.int a3]) (rest := []) (P := (fun zv9 wm9 => (vX12_bits s a3) = zv9 ∧ s = wm9)) dX12_witness_36 cvX12_452 okX12_bits rfl (Nat.le_of_ble_eq_true rfl) (Nat.le_of_ble_eq_true rfl) (Nat.le_of_ble_eq_true rfl) (pX12_bits  (a3) o3 ⟨rfl, rfl⟩) (fun zv9 wm9 hq9 => ?_)
      obtain ⟨rfl, rfl⟩ := hq9
      refine JT_iload_n (q := 2) dX12_witness_39 rfl rfl ?_
      obtain ⟨o2, h⟩ := h
      refine JS_callSI (M' := MX12_bits) (d' := 0) (As := [.int a2]) (rest := [.int (vX12_bits s a3)]) (P := (fun zv9 wm9 => (vX12_bits s a2) = zv9 ∧ s = wm9)) dX12_witness_40 cvX12_452 okX12_bits rfl (Nat.le_of_ble_eq_true rfl) (Nat.le_of_ble_eq_true rfl) (Nat.le_of_ble_eq_true rfl) (pX12_bits  (a2) o2 ⟨rfl, rfl⟩) (fun zv9 wm9 hq9 => ?_)
      obtain ⟨rfl, rfl⟩ := hq9
      refine JT_icmp_ge (tgt := 57) dX12_witness_43 (by decide) (fun hc1 => ?_) (fun hc1 => ?_)
      · have h := h.1 hc1
        refine JT_iinc (q := 3) (v := (a3 + 1)) (lv' := [(3, .int (a3 + 1)), (0, .ref 248), (1, .int a1), (2, .int a2)]) dX12_witness_57 rfl (by rfl) (Nat.le_of_ble_eq_true rfl) rfl ?_
        refine JT_goto (tgt := 19) dX12_witness_60 (by decide) ?_
        exact JT_sub [1, 2, 3, 0] rfl h
      · have h := h.2 hc1
        exact JT_sub [0, 1, 2, 3] rfl h
set_option maxRecDepth 1000000 in
theorem bX12_witness_46 (a1 : Int32) (a2 : Int32) (a3 : Int32) {s : SM} {Q : Int32 → SM → Prop} (h : rX12_isKnown s a1 a3 ∧ (((vX12_isKnown s a1 a3) = 0 → BI MX12_witness 3 19 [(0, .ref 248), (1, .int a1), (2, .int a2), (3, .int (a3 + 1))] s Q) ∧ (¬ (vX12_isKnown s a1 a3) = 0 → BI MX12_witness 3 19 [(0, .ref 248), (1, .int a1), (2, .int a3), (3, .int (a3 + 1))] s Q))) : BI MX12_witness 3 46 [(0, .ref 248), (1, .int a1), (2, .int a2), (3, .int a3)] s Q := by
  refine JT_aload_n (q := 0) dX12_witness_46 rfl rfl ?_
  refine JT_iload_n (q := 1) dX12_witness_47 rfl rfl ?_
  refine JT_iload_n (q := 3) dX12_witness_48 rfl rfl ?_
  obtain ⟨o2, h⟩ := h
  refine JS_callVI (M' := MX12_isKnown) (d' := 2) (As := [.int a1, .int a3]) (rest := []) (P := (fun zv9 wm9 => (vX12_isKnown s a1 a3) = zv9 ∧ s = wm9)) dX12_witness_49 cvX12_312 okX12_isKnown rfl (Nat.le_of_ble_eq_true rfl) BS_248 (Nat.le_of_ble_eq_true rfl) (Nat.le_of_ble_eq_true rfl) hci_12 (Nat.le_of_ble_eq_true rfl) (Nat.le_of_ble_eq_true rfl) (pX12_isKnown  (a1) (a3) o2 ⟨rfl, rfl⟩) (fun zv9 wm9 hq9 => ?_)
  obtain ⟨rfl, rfl⟩ := hq9
  refine JT_if_eq (tgt := 57) dX12_witness_52 (by decide) (fun hc1 => ?_) (fun hc1 => ?_)
  · have h := h.1 hc1
    refine JT_iinc (q := 3) (v := (a3 + 1)) (lv' := [(3, .int (a3 + 1)), (0, .ref 248), (1, .int a1), (2, .int a2)]) dX12_witness_57 rfl (by rfl) (Nat.le_of_ble_eq_true rfl) rfl ?_
    refine JT_goto (tgt := 19) dX12_witness_60 (by decide) ?_
    exact JT_sub [1, 2, 3, 0] rfl h
  · have h := h.2 hc1
    refine JT_iload_n (q := 3) dX12_witness_55 rfl rfl ?_
    refine JT_istore_n (lv' := [(2, .int a3), (0, .ref 248), (1, .int a1), (3, .int a3)]) dX12_witness_56 rfl (Nat.le_of_ble_eq_true rfl) rfl ?_
    refine JT_iinc (q := 3) (v := (a3 + 1)) (lv' := [(3, .int (a3 + 1)), (2, .int a3), (0, .ref 248), (1, .int a1)]) dX12_witness_57 rfl (by rfl) (Nat.le_of_ble_eq_true rfl) rfl ?_
    refine JT_goto (tgt := 19) dX12_witness_60 (by decide) ?_
    exact JT_sub [2, 3, 1, 0] rfl h
set_option maxRecDepth 1000000 in
theorem bX12_witness (a1 : Int32) {s : SM} {Q : Int32 → SM → Prop} (h : ((¬ (vX12_isDeal (pI s 248 0 (0 : Int32)) a1) = 0 → BI MX12_witness 3 19 [(0, .ref 248), (1, .int a1), (2, .int (-1 : Int32)), (3, .int (0 : Int32))] (pI s 248 0 (0 : Int32)) Q) ∧ ((vX12_isDeal (pI s 248 0 (0 : Int32)) a1) = 0 → Q (-1 : Int32) (pI s 248 0 (0 : Int32))))) : KI MX12_witness 3 [.ref 248, .int a1] s Q := by
  show BI MX12_witness 3 0 [(0, .ref 248), (1, .int a1)] s Q
  refine JT_aload_n (q := 0) dX12_witness_0 rfl rfl ?_
  refine JT_iconst (v := 0) dX12_witness_1 ic_0 ?_
  refine JS_putI dX12_witness_2 flX12_1 BS_248 (Nat.le_of_ble_eq_true rfl) (Nat.le_of_ble_eq_true rfl) ct_12_0 ?_
  refine JT_aload_n (q := 0) dX12_witness_5 rfl rfl ?_
  refine JT_iload_n (q := 1) dX12_witness_6 rfl rfl ?_
  refine JS_callVI (M' := MX12_isDeal) (d' := 1) (As := [.int a1]) (rest := []) (P := (fun zv9 wm9 => (vX12_isDeal (pI s 248 0 (0 : Int32)) a1) = zv9 ∧ (pI s 248 0 (0 : Int32)) = wm9)) dX12_witness_7 cvX12_262 okX12_isDeal rfl (Nat.le_of_ble_eq_true rfl) BS_248 (Nat.le_of_ble_eq_true rfl) (Nat.le_of_ble_eq_true rfl) hci_12 (Nat.le_of_ble_eq_true rfl) (Nat.le_of_ble_eq_true rfl) (pX12_isDeal  (a1)  ⟨rfl, rfl⟩) (fun zv9 wm9 hq9 => ?_)
  obtain ⟨rfl, rfl⟩ := hq9
  refine JT_if_ne (tgt := 15) dX12_witness_10 (by decide) (fun hc1 => ?_) (fun hc1 => ?_)
  · have h := h.1 hc1
    refine JT_iconst (v := -1) dX12_witness_15 ic_m1 ?_
    refine JT_istore_n (lv' := [(2, .int (-1 : Int32)), (0, .ref 248), (1, .int a1)]) dX12_witness_16 rfl (Nat.le_of_ble_eq_true rfl) rfl ?_
    refine JT_iconst (v := 0) dX12_witness_17 ic_0 ?_
    refine JT_istore_n (lv' := [(3, .int (0 : Int32)), (2, .int (-1 : Int32)), (0, .ref 248), (1, .int a1)]) dX12_witness_18 rfl (Nat.le_of_ble_eq_true rfl) rfl ?_
    exact JT_sub [2, 3, 1, 0] rfl h
  · have h := h.2 hc1
    refine JT_iconst (v := -1) dX12_witness_13 ic_m1 ?_
    exact JS_iret dX12_witness_14 rfl rfl h
set_option maxRecDepth 1000000 in
theorem gX12_witness  : ∀ n : Nat, (∀ (a1 : Int32) (a2 : Int32) (a3 : Int32) (s : SM) (Q : Int32 → SM → Prop), ((qX12_witness n).1 s a1 a2 a3) → Q ((lX12_witness n).1 s a1 a2 a3).1 ((lX12_witness n).1 s a1 a2 a3).2 → BI MX12_witness 3 19 [(0, .ref 248), (1, .int a1), (2, .int a2), (3, .int a3)] s Q) ∧ (∀ (a1 : Int32) (a2 : Int32) (a3 : Int32) (s : SM) (Q : Int32 → SM → Prop), ((qX12_witness n).2 s a1 a2 a3) → Q ((lX12_witness n).2 s a1 a2 a3).1 ((lX12_witness n).2 s a1 a2 a3).2 → BI MX12_witness 3 46 [(0, .ref 248), (1, .int a1), (2, .int a2), (3, .int a3)] s Q) := by
  intro n
  induction n with
  | zero => exact ⟨fun _ _ _ _ _ hq _ => absurd hq id, fun _ _ _ _ _ hq _ => absurd hq id⟩
  | succ n ih =>
    refine ⟨?_, ?_⟩
    · intro a1 a2 a3 s Q hr h
      replace hr : uX12_witness_19 (qX12_witness n) s a1 a2 a3 := hr
      replace h : Q (tX12_witness_19 (lX12_witness n) s a1 a2 a3).1 (tX12_witness_19 (lX12_witness n) s a1 a2 a3).2 := h
      unfold uX12_witness_19 at hr
      unfold tX12_witness_19 at h
      refine bX12_witness_19 a1 a2 a3 ?_
      refine ⟨fun c => ?_, fun c => ?_⟩
      · replace h := q3p c h
        first | exact h | contradiction
      · replace hr := hr c
        replace h := q3n c h
        refine ⟨fun c => ?_, fun c => ?_⟩
        · replace hr := hr.1 c
          replace h := q3p c h
          first | exact ih.2 a1 a2 a3 _ Q hr h | contradiction
        · replace hr := hr.2 c
          replace h := q3n c h
          refine ⟨hr.1, ?_⟩
          replace hr := hr.2
          refine ⟨hr.1, ?_⟩
          replace hr := hr.2
          refine ⟨fun c => ?_, fun c => ?_⟩
          · replace hr := hr.1 c
            replace h := q3p c h
            first | exact ih.1 a1 a2 (a3 + 1) _ Q hr h | contradiction
          · replace hr := hr.2 c
            replace h := q3n c h
            first | exact ih.2 a1 a2 a3 _ Q hr h | contradiction
    · intro a1 a2 a3 s Q hr h
      replace hr : uX12_witness_46 (qX12_witness n) s a1 a2 a3 := hr
      replace h : Q (tX12_witness_46 (lX12_witness n) s a1 a2 a3).1 (tX12_witness_46 (lX12_witness n) s a1 a2 a3).2 := h
      unfold uX12_witness_46 at hr
      unfold tX12_witness_46 at h
      refine bX12_witness_46 a1 a2 a3 ?_
      refine ⟨hr.1, ?_⟩
      replace hr := hr.2
      refine ⟨fun c => ?_, fun c => ?_⟩
      · replace hr := hr.1 c
        replace h := q3p c h
        first | exact ih.1 a1 a2 (a3 + 1) _ Q hr h | contradiction
      · replace hr := hr.2 c
        replace h := q3n c h
        first | exact ih.1 a1 a3 (a3 + 1) _ Q hr h | contradiction
set_option maxRecDepth 1000000 in
theorem pX12_witness (a1 : Int32) {s : SM} {Q : Int32 → SM → Prop} (hr : rX12_witness s a1) (h : Q (vX12_witness s a1) (mX12_witness s a1)) : KI MX12_witness 3 [.ref 248, .int a1] s Q := by
  replace h : Q (fX12_witness s a1).1 (fX12_witness s a1).2 := h
  unfold rX12_witness at hr
  unfold fX12_witness at h
  refine bX12_witness a1 ?_
  refine ⟨fun c => ?_, fun c => ?_⟩
  · replace hr := hr c
    replace h := q3n c h
    first | exact (gX12_witness  FU).1 a1 (-1 : Int32) (0 : Int32) _ Q hr h | contradiction
  · replace h := q3p c h
    first | exact h | contradiction
