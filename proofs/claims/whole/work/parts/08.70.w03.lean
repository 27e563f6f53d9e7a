set_option maxRecDepth 1000000 in
theorem bX11_fullest_7 (a1 : Int32) (a2 : Int32) (a3 : Int32) (a4 : Int32) {s : SM} {Q : Int32 → SM → Prop} (h : ((a1 < a4 → BI MX11_fullest 2 50 [(0, .ref 2), (1, .int a1), (2, .int a2), (3, .int a3), (4, .int a4)] s Q) ∧ (¬ a1 < a4 → (((9 : Int32) ≤ a4 → BI MX11_fullest 2 50 [(0, .ref 2), (1, .int a1), (2, .int a2), (3, .int a3), (4, .int a4)] s Q) ∧ (¬ (9 : Int32) ≤ a4 → rX4_leastLeft s 31 5 a2 ∧ BI MX11_fullest 2 7 [(0, .ref 2), (1, .int a1), (2, .int (a2 ||| (if (vX4_leastLeft s 31 5 a2) = (-1 : Int32) then (0 : Int32) else ((1 : Int32) <<< ((vX4_leastLeft s 31 5 a2) &&& 31))))), (3, .int (vX4_leastLeft s 31 5 a2)), (4, .int (a4 + 1))] s Q))))) : BI MX11_fullest 2 7 [(0, .ref 2), (1, .int a1), (2, .int a2), (3, .int a3), (4, .int a4)] s Q := by
  refine JT_iload (q := 4) dX11_fullest_7 rfl ?_
  refine JT_iload_n (q := 1) dX11_fullest_9 rfl rfl ?_
  refine JT_icmp_gt (tgt := 50) dX11_fullest_10 (by decide) (fun hc5 => ?_) (fun hc5 => ?_)
  · have h := h.1 hc5
    exact JT_sub [0, 1, 2, 3, 4] rfl h
  · have h := h.2 hc5
    refine JT_iload (q := 4) dX11_fullest_13 rfl ?_
    refine JT_bipush (v := 9) dX11_fullest_15 bp_9 ?_
    refine JT_icmp_ge (tgt := 50) dX11_fullest_17 (by decide) (fun hc4 => ?_) (fun hc4 => ?_)
    · have h := h.1 hc4
      exact JT_sub [0, 1, 2, 3, 4] rfl h
    · have h := h.2 hc4
      refine JT_aload_n (q := 0) dX11_fullest_20 rfl rfl ?_
      refine JS_getR (x := 31) dX11_fullest_21 flX11_41 BS_2 (Nat.le_of_ble_eq_true rfl) (Nat.le_of_ble_eq_true rfl) (Or.inl ⟨_, ct_11_5⟩) RF_2_5 ?_
      refine JT_iload_n (q := 2) dX11_fullest_24 rfl rfl ?_
      obtain ⟨o3, h⟩ := h
      refine JS_callVI (M' := MX4_leastLeft) (d' := 1) (As := [.int a2]) (rest := []) (P := (fun zv9 wm9 => (vX4_leastLeft s 31 5 a2) = zv9 ∧ s = wm9)) dX11_fullest_25 cvX11_260 okX4_leastLeft rfl (Nat.le_of_ble_eq_true rfl) BS_31 (Nat.le_of_ble_eq_true rfl) (Nat.le_of_ble_eq_true rfl) hci_4 (Nat.le_of_ble_eq_true rfl) (Nat.le_of_ble_eq_true rfl) (pX4_leastLeft hL_31 (a2) o3 ⟨rfl, rfl⟩) (fun zv9 wm9 hq9 => ?_)
      obtain ⟨rfl, rfl⟩ := hq9
      refine JT_istore_n (lv' := [(3, .int (vX4_leastLeft s 31 5 a2)), (0, .ref 2), (1, .int a1), (2, .int a2), (4, .int a4)]) dX11_fullest_28 rfl (Nat.le_of_ble_eq_true rfl) rfl ?_
      refine JT_iload_n (q := 3) dX11_fullest_29 rfl rfl ?_
      refine JT_iload_n (q := 0) dX11_fullest_30 rfl rfl ?_
      refine JT_iconst (v := -1) dX11_fullest_31 ic_m1 ?_
      have hj1 : ∀ v : Int32, v = (if (vX4_leastLeft s 31 5 a2) = (-1 : Int32) then (0 : Int32) else ((1 : Int32) <<< ((vX4_leastLeft s 31 5 a2) &&& 31))) → JT MX11_fullest 2 0 0 42 [(3, .int (vX4_leastLeft s 31 5 a2)), (0, .ref 2), (1, .int a1), (2, .int a2), (4, .int a4)] [.int v, .int a2] (std s) (KQ Q) := by
        intro v hv
        subst hv
        refine JT_ior dX11_fullest_42 ?_
        refine JT_istore_n (lv' := [(2, .int (a2 ||| (if (vX4_leastLeft s 31 5 a2) = (-1 : Int32) then (0 : Int32) else ((1 : Int32) <<< ((vX4_leastLeft s 31 5 a2) &&& 31))))), (3, .int (vX4_leastLeft s 31 5 a2)), (0, .ref 2), (1, .int a1), (4, .int a4)]) dX11_fullest_43 rfl (Nat.le_of_ble_eq_true rfl) rfl ?_
        refine JT_iinc (q := 4) (v := (a4 + 1)) (lv' := [(4, .int (a4 + 1)), (2, .int (a2 ||| (if (vX4_leastLeft s 31 5 a2) = (-1 : Int32) then (0 : Int32) else ((1 : Int32) <<< ((vX4_leastLeft s 31 5 a2) &&& 31))))), (3, .int (vX4_leastLeft s 31 5 a2)), (0, .ref 2), (1, .int a1)]) dX11_fullest_44 rfl (by rfl) (Nat.le_of_ble_eq_true rfl) rfl ?_
        refine JT_goto (tgt := 7) dX11_fullest_47 (by decide) ?_
        exact JT_sub [3, 4, 1, 2, 0] rfl h
      refine JT_icmp_ne (tgt := 39) dX11_fullest_32 (by decide) (fun hc2 => ?_) (fun hc2 => ?_)
      · refine JT_iconst (v := 1) dX11_fullest_39 ic_1 ?_
        refine JT_iload_n (q := 0) dX11_fullest_40 rfl rfl ?_
        refine JT_ishl dX11_fullest_41 ?_
        exact hj1 _ (by rw [if_neg hc2])
      · refine JT_iconst (v := 0) dX11_fullest_35 ic_0 ?_
        refine JT_goto (tgt := 42) dX11_fullest_36 (by decide) ?_
        exact hj1 _ (by rw [if_pos hc2])
set_option maxRecDepth 1000000 in
theorem bX11_fullest_50 (a1 : Int32) (a2 : Int32) (a3 : Int32) (a4 : Int32) {s : SM} {Q : Int32 → SM → Prop} (h : Q (if (9 : Int32) ≤ a1 then (-1 : Int32) else a3) s) : BI MX11_fullest 2 50 [(0, .ref 2), (1, .int a1), (2, .int a2), (3, .int a3), (4, .int a4)] s Q := by
  refine JT_iload_n (q := 1) dX11_fullest_50 rfl rfl ?_
  refine JT_bipush (v := 9) dX11_fullest_51 bp_9 ?_
  have hj1 : ∀ v : Int32, v = (if (9 : Int32) ≤ a1 then (-1 : Int32) else a3) → JT MX11_fullest 2 0 0 61 [(0, .ref 2), (1, .int a1), (2, .int a2), (3, .int a3), (4, .int a4)] [.int v] (std s) (KQ Q) := by
    intro v hv
    subst hv
    exact JS_iret dX11_fullest_61 rfl rfl h
  refine JT_icmp_ge (tgt := 60) dX11_fullest_53 (by decide) (fun hc2 => ?_) (fun hc2 => ?_)
  · refine JT_iconst (v := -1) dX11_fullest_60 ic_m1 ?_
    exact hj1 _ (by rw [if_pos hc2])
  · refine JT_iload_n (q := 3) dX11_fullest_56 rfl rfl ?_
    refine JT_goto (tgt := 61) dX11_fullest_57 (by decide) ?_
    exact hj1 _ (by rw [if_neg hc2])
set_option maxRecDepth 1000000 in
theorem bX11_fullest (a1 : Int32) {s : SM} {Q : Int32 → SM → Prop} (h : BI MX11_fullest 2 7 [(0, .ref 2), (1, .int a1), (2, .int (0 : Int32)), (3, .int (-1 : Int32)), (4, .int (0 : Int32))] s Q) : KI MX11_fullest 2 [.ref 2, .int a1] s Q := by
  show BI MX11_fullest 2 0 [(0, .ref 2), (1, .int a1)] s Q
  refine JT_iconst (v := 0) dX11_fullest_0 ic_0 ?_
  refine JT_istore_n (lv' := [(2, .int (0 : Int32)), (0, .ref 2), (1, .int a1)]) dX11_fullest_1 rfl (Nat.le_of_ble_eq_true rfl) rfl ?_
  refine JT_iconst (v := -1) dX11_fullest_2 ic_m1 ?_
  refine JT_istore_n (lv' := [(3, .int (-1 : Int32)), (2, .int (0 : Int32)), (0, .ref 2), (1, .int a1)]) dX11_fullest_3 rfl (Nat.le_of_ble_eq_true rfl) rfl ?_
  refine JT_iconst (v := 0) dX11_fullest_4 ic_0 ?_
  refine JT_istore (lv' := [(4, .int (0 : Int32)), (3, .int (-1 : Int32)), (2, .int (0 : Int32)), (0, .ref 2), (1, .int a1)]) dX11_fullest_5 (Nat.le_of_ble_eq_true rfl) rfl ?_
  exact JT_sub [3, 4, 2, 1, 0] rfl h
set_option maxRecDepth 1000000 in
theorem gX11_fullest  : ∀ n : Nat, (∀ (a1 : Int32) (a2 : Int32) (a3 : Int32) (a4 : Int32) (s : SM) (Q : Int32 → SM → Prop), ((qX11_fullest n).1 s a1 a2 a3 a4) → Q ((lX11_fullest n).1 s a1 a2 a3 a4) s → BI MX11_fullest 2 7 [(0, .ref 2), (1, .int a1), (2, .int a2), (3, .int a3), (4, .int a4)] s Q) ∧ (∀ (a1 : Int32) (a2 : Int32) (a3 : Int32) (a4 : Int32) (s : SM) (Q : Int32 → SM → Prop), ((qX11_fullest n).2 s a1 a2 a3 a4) → Q ((lX11_fullest n).2 s a1 a2 a3 a4) s → BI MX11_fullest 2 50 [(0, .ref 2), (1, .int a1), (2, .int a2), (3, .int a3), (4, .int a4)] s Q) := by
  intro n
  induction n with
  | zero => exact ⟨fun _ _ _ _ _ _ hq _ => absurd hq id, fun _ _ _ _ _ _ hq _ => absurd hq id⟩
  | succ n ih =>
    refine ⟨?_, ?_⟩
    · intro a1 a2 a3 a4 s Q hr h
      replace hr : uX11_fullest_7 (qX11_fullest n) s a1 a2 a3 a4 := hr
      replace h : Q (tX11_fullest_7 (lX11_fullest n) s a1 a2 a3 a4) s := h
      unfold uX11_fullest_7 at hr
      unfold tX11_fullest_7 at h
      refine bX11_fullest_7 a1 a2 a3 a4 ?_
      refine ⟨fun c => ?_, fun c => ?_⟩
      · replace hr := hr.1 c
        replace h := qlp c h
        first | exact ih.2 a1 a2 a3 a4 _ Q hr h | contradiction
      · replace hr := hr.2 c
        replace h := qln c h
        refine ⟨fun c => ?_, fun c => ?_⟩
        · replace hr := hr.1 c
          replace h := qlp c h
          first | exact ih.2 a1 a2 a3 a4 _ Q hr h | contradiction
        · replace hr := hr.2 c
          replace h := qln c h
          refine ⟨hr.1, ?_⟩
          replace hr := hr.2
          first | exact ih.1 a1 (a2 ||| (if (vX4_leastLeft s 31 5 a2) = (-1 : Int32) then (0 : Int32) else ((1 : Int32) <<< ((vX4_leastLeft s 31 5 a2) &&& 31)))) (vX4_leastLeft s 31 5 a2) (a4 + 1) _ Q hr h | contradiction
    · intro a1 a2 a3 a4 s Q hr h
      replace hr : uX11_fullest_50 (qX11_fullest n) s a1 a2 a3 a4 := hr
      replace h : Q (tX11_fullest_50 (lX11_fullest n) s a1 a2 a3 a4) s := h
      unfold uX11_fullest_50 at hr
      unfold tX11_fullest_50 at h
      refine bX11_fullest_50 a1 a2 a3 a4 ?_
      first | exact h | contradiction
set_option maxRecDepth 1000000 in
theorem pX11_fullest (a1 : Int32) {s : SM} {Q : Int32 → SM → Prop} (hr : rX11_fullest s a1) (h : Q (vX11_fullest s a1) s) : KI MX11_fullest 2 [.ref 2, .int a1] s Q := by
  replace h : Q (fX11_fullest s a1) s := h
  unfold rX11_fullest at hr
  unfold fX11_fullest at h
  refine bX11_fullest a1 ?_
  first | exact (gX11_fullest  FU).1 a1 (0 : Int32) (-1 : Int32) (0 : Int32) _ Q hr h | contradiction
set_option maxRecDepth 1000000 in
theorem bX11_owes_27 (a1 : Int32) (a2 : Int32) (a3 : Int32) (a4 : Int32) {s : SM} {Q : Int32 → SM → Prop} (h : (((gI s 31 9) ≤ a4 → Q a3 s) ∧ (¬ (gI s 31 9) ≤ a4 → rX4_isOpen s 31 5 a4 ∧ (((vX4_isOpen s 31 5 a4) = 0 → BI MX11_owes 2 27 [(0, .ref 2), (1, .int a1), (2, .int a2), (3, .int a3), (4, .int (a4 + 1))] s Q) ∧ (¬ (vX4_isOpen s 31 5 a4) = 0 → ((¬ a2 = 0 → vp_in a4 60 ∧ ((¬ a2 = 0 → vp_in a4 60 ∧ BI MX11_owes 2 27 [(0, .ref 2), (1, .int a1), (2, .int a2), (3, .int (a3 ||| (if (gI s 33 (a4).toNatClampNeg) = a1 then ((1 : Int32) <<< ((gI s 32 (a4).toNatClampNeg) &&& 31)) else (0 : Int32)))), (4, .int (a4 + 1))] s Q) ∧ (a2 = 0 → vp_in a4 60 ∧ BI MX11_owes 2 27 [(0, .ref 2), (1, .int a1), (2, .int a2), (3, .int (a3 ||| (if (gI s 33 (a4).toNatClampNeg) = a1 then ((1 : Int32) <<< ((gI s 33 (a4).toNatClampNeg) &&& 31)) else (0 : Int32)))), (4, .int (a4 + 1))] s Q))) ∧ (a2 = 0 → vp_in a4 60 ∧ ((¬ a2 = 0 → vp_in a4 60 ∧ BI MX11_owes 2 27 [(0, .ref 2), (1, .int a1), (2, .int a2), (3, .int (a3 ||| (if (gI s 32 (a4).toNatClampNeg) = a1 then ((1 : Int32) <<< ((gI s 32 (a4).toNatClampNeg) &&& 31)) else (0 : Int32)))), (4, .int (a4 + 1))] s Q) ∧ (a2 = 0 → vp_in a4 60 ∧ BI MX11_owes 2 27 [(0, .ref 2), (1, .int a1), (2, .int a2), (3, .int (a3 ||| (if (gI s 32 (a4).toNatClampNeg) = a1 then ((1 : Int32) <<< ((gI s 33 (a4).toNatClampNeg) &&& 31)) else (0 : Int32)))), (4, .int (a4 + 1))] s Q))))))))) : BI MX11_owes 2 27 [(0, .ref 2), (1, .int a1), (2, .int a2), (3, .int a3), (4, .int a4)] s Q := by
  refine JT_iload (q := 4) dX11_owes_27 rfl ?_
  refine JT_aload_n (q := 0) dX11_owes_29 rfl rfl ?_
  refine JS_getR (x := 31) dX11_owes_30 flX11_41 BS_2 (Nat.le_of_ble_eq_true rfl) (Nat.le_of_ble_eq_true rfl) (Or.inl ⟨_, ct_11_5⟩) RF_2_5 ?_
  refine JS_getI dX11_owes_33 flX11_162 BS_31 (Nat.le_of_ble_eq_true rfl) (Nat.le_of_ble_eq_true rfl) (Or.inl ct_4_9) ?_
  refine JT_icmp_ge (tgt := 132) dX11_owes_36 (by decide) (fun hc20 => ?_) (fun hc20 => ?_)
  · have h := h.1 hc20
    refine JT_iload_n (q := 3) dX11_owes_132 rfl rfl ?_
    exact JS_iret dX11_owes_133 rfl rfl h
  · have h := h.2 hc20
    refine JT_aload_n (q := 0) dX11_owes_39 rfl rfl ?_
    refine JS_getR (x := 31) dX11_owes_40 flX11_41 BS_2 (Nat.le_of_ble_eq_true rfl) (Nat.le_of_ble_eq_true rfl) (Or.inl ⟨_, ct_11_5⟩) RF_2_5 ?_
    refine JT_iload (q := 4) dX11_owes_43 rfl ?_
    obtain ⟨o19, h⟩ := h
    refine JS_callVI (M' := MX4_isOpen) (d' := 1) (As := [.int a4]) (rest := []) (P := (fun zv9 wm9 => (vX4_isOpen s 31 5 a4) = zv9 ∧ s = wm9)) dX11_owes_45 cvX11_251 okX4_isOpen rfl (Nat.le_of_ble_eq_true rfl) BS_31 (Nat.le_of_ble_eq_true rfl) (Nat.le_of_ble_eq_true rfl) hci_4 (Nat.le_of_ble_eq_true rfl) (Nat.le_of_ble_eq_true rfl) (pX4_isOpen hL_31 (a4) o19 ⟨rfl, rfl⟩) (fun zv9 wm9 hq9 => ?_)
    obtain ⟨rfl, rfl⟩ := hq9
    refine JT_if_eq (tgt := 126) dX11_owes_48 (by decide) (fun hc18 => ?_) (fun hc18 => ?_)
    · have h := h.1 hc18
      refine JT_iinc (q := 4) (v := (a4 + 1)) (lv' := [(4, .int (a4 + 1)), (0, .ref 2), (1, .int a1), (2, .int a2), (3, .int a3)]) dX11_owes_126 rfl (by rfl) (Nat.le_of_ble_eq_true rfl) rfl ?_
      refine JT_goto (tgt := 27) dX11_owes_129 (by decide) ?_
      exact JT_sub [1, 2, 3, 4, 0] rfl h
    · have h := h.2 hc18
      refine JT_iload_n (q := 2) dX11_owes_51 rfl rfl ?_
      refine JT_if_ne (tgt := 68) dX11_owes_52 (by decide) (fun hc17 => ?_) (fun hc17 => ?_)
      · have h := h.1 hc17
        refine JT_aload_n (q := 0) dX11_owes_68 rfl rfl ?_
        refine JS_getR (x := 31) dX11_owes_69 flX11_41 BS_2 (Nat.le_of_ble_eq_true rfl) (Nat.le_of_ble_eq_true rfl) (Or.inl ⟨_, ct_11_5⟩) RF_2_5 ?_
        refine JS_getR (x := 33) dX11_owes_72 flX11_217 BS_31 (Nat.le_of_ble_eq_true rfl) (Nat.le_of_ble_eq_true rfl) (Or.inr ⟨_, ct_4_1⟩) RF_31_1 ?_
        refine JT_iload (q := 4) dX11_owes_75 rfl ?_
        obtain ⟨o1, h⟩ := h
        refine JS_iald dX11_owes_77 BS_33 (Nat.le_of_ble_eq_true rfl) (Nat.le_of_ble_eq_true rfl) o1 ?_
        refine JT_istore (lv' := [(5, .int (gI s 33 (a4).toNatClampNeg)), (0, .ref 2), (1, .int a1), (2, .int a2), (3, .int a3), (4, .int a4)]) dX11_owes_78 (Nat.le_of_ble_eq_true rfl) rfl ?_
        refine JT_iload_n (q := 3) dX11_owes_80 rfl rfl ?_
        refine JT_if_ne (tgt := 97) dX11_owes_81 (by decide) (fun hc8 => ?_) (fun hc8 => ?_)
        · have h := h.1 hc8
          refine JT_aload_n (q := 1) dX11_owes_97 rfl rfl ?_
          refine JS_getR (x := 31) dX11_owes_98 flX11_41 BS_2 (Nat.le_of_ble_eq_true rfl) (Nat.le_of_ble_eq_true rfl) (Or.inl ⟨_, ct_11_5⟩) RF_2_5 ?_
          refine JS_getR (x := 32) dX11_owes_101 flX11_214 BS_31 (Nat.le_of_ble_eq_true rfl) (Nat.le_of_ble_eq_true rfl) (Or.inr ⟨_, ct_4_0⟩) RF_31_0 ?_
          refine JT_iload (q := 5) dX11_owes_104 rfl ?_
          obtain ⟨o2, h⟩ := h
          refine JS_iald dX11_owes_106 BS_32 (Nat.le_of_ble_eq_true rfl) (Nat.le_of_ble_eq_true rfl) o2 ?_
          refine JT_istore (lv' := [(6, .int (gI s 32 (a4).toNatClampNeg)), (5, .int (gI s 33 (a4).toNatClampNeg)), (0, .ref 2), (1, .int a1), (2, .int a2), (3, .int a3), (4, .int a4)]) dX11_owes_107 (Nat.le_of_ble_eq_true rfl) rfl ?_
          refine JT_iload_n (q := 5) dX11_owes_109 rfl rfl ?_
          refine JT_iload (q := 1) dX11_owes_110 rfl ?_
          refine JT_iload_n (q := 3) dX11_owes_112 rfl rfl ?_
          have hj3 : ∀ v : Int32, v = (if (gI s 33 (a4).toNatClampNeg) = a1 then ((1 : Int32) <<< ((gI s 32 (a4).toNatClampNeg) &&& 31)) else (0 : Int32)) → JT MX11_owes 2 0 0 124 [(6, .int (gI s 32 (a4).toNatClampNeg)), (5, .int (gI s 33 (a4).toNatClampNeg)), (0, .ref 2), (1, .int a1), (2, .int a2), (3, .int a3), (4, .int a4)] [.int v, .int a3] (std s) (KQ Q) := by
            intro v hv
            subst hv
            refine JT_ior dX11_owes_124 ?_
            refine JT_istore_n (lv' := [(3, .int (a3 ||| (if (gI s 33 (a4).toNatClampNeg) = a1 then ((1 : Int32) <<< ((gI s 32 (a4).toNatClampNeg) &&& 31)) else (0 : Int32)))), (6, .int (gI s 32 (a4).toNatClampNeg)), (5, .int (gI s 33 (a4).toNatClampNeg)), (0, .ref 2), (1, .int a1), (2, .int a2), (4, .int a4)]) dX11_owes_125 rfl (Nat.le_of_ble_eq_true rfl) rfl ?_
            refine JT_iinc (q := 6) (v := (a4 + 1)) (lv' := [(4, .int (a4 + 1)), (3, .int (a3 ||| (if (gI s 33 (a4).toNatClampNeg) = a1 then ((1 : Int32) <<< ((gI s 32 (a4).toNatClampNeg) &&& 31)) else (0 : Int32)))), (6, .int (gI s 32 (a4).toNatClampNeg)), (5, .int (gI s 33 (a4).toNatClampNeg)), (0, .ref 2), (1, .int a1), (2, .int a2)]) dX11_owes_126 rfl (by rfl) (Nat.le_of_ble_eq_true rfl) rfl ?_
            refine JT_goto (tgt := 27) dX11_owes_129 (by decide) ?_
            exact JT_sub [4, 5, 6, 1, 0] rfl h
          refine JT_icmp_ne (tgt := 123) dX11_owes_113 (by decide) (fun hc4 => ?_) (fun hc4 => ?_)
          · refine JT_iconst (v := 0) dX11_owes_123 ic_0 ?_
            exact hj3 _ (by rw [if_neg hc4])
          · refine JT_iconst (v := 1) dX11_owes_116 ic_1 ?_
            refine JT_iload (q := 0) dX11_owes_117 rfl ?_
            refine JT_ishl dX11_owes_119 ?_
            refine JT_goto (tgt := 124) dX11_owes_120 (by decide) ?_
            exact hj3 _ (by rw [if_pos hc4])
        · have h := h.2 hc8
          refine JT_aload_n (q := 1) dX11_owes_84 rfl rfl ?_
          refine JS_getR (x := 31) dX11_owes_85 flX11_41 BS_2 (Nat.le_of_ble_eq_true rfl) (Nat.le_of_ble_eq_true rfl) (Or.inl ⟨_, ct_11_5⟩) RF_2_5 ?_
          refine JS_getR (x := 33) dX11_owes_88 flX11_217 BS_31 (Nat.le_of_ble_eq_true rfl) (Nat.le_of_ble_eq_true rfl) (Or.inr ⟨_, ct_4_1⟩) RF_31_1 ?_
          refine JT_iload (q := 5) dX11_owes_91 rfl ?_
          obtain ⟨o5, h⟩ := h
          refine JS_iald dX11_owes_93 BS_33 (Nat.le_of_ble_eq_true rfl) (Nat.le_of_ble_eq_true rfl) o5 ?_
          refine JT_goto (tgt := 107) dX11_owes_94 (by decide) ?_
          refine JT_istore (lv' := [(6, .int (gI s 33 (a4).toNatClampNeg)), (5, .int (gI s 33 (a4).toNatClampNeg)), (0, .ref 2), (1, .int a1), (2, .int a2), (3, .int a3), (4, .int a4)]) dX11_owes_107 (Nat.le_of_ble_eq_true rfl) rfl ?_
          refine JT_iload_n (q := 5) dX11_owes_109 rfl rfl ?_
          refine JT_iload (q := 1) dX11_owes_110 rfl ?_
          refine JT_iload_n (q := 3) dX11_owes_112 rfl rfl ?_
          have hj6 : ∀ v : Int32, v = (if (gI s 33 (a4).toNatClampNeg) = a1 then ((1 : Int32) <<< ((gI s 33 (a4).toNatClampNeg) &&& 31)) else (0 : Int32)) → JT MX11_owes 2 0 0 124 [(6, .int (gI s 33 (a4).toNatClampNeg)), (5, .int (gI s 33 (a4).toNatClampNeg)), (0, .ref 2), (1, .int a1), (2, .int a2), (3, .int a3), (4, .int a4)] [.int v, .int a3] (std s) (KQ Q) := by
            intro v hv
            subst hv
            refine JT_ior dX11_owes_124 ?_
            refine JT_istore_n (lv' := [(3, .int (a3 ||| (if (gI s 33 (a4).toNatClampNeg) = a1 then ((1 : Int32) <<< ((gI s 33 (a4).toNatClampNeg) &&& 31)) else (0 : Int32)))), (6, .int (gI s 33 (a4).toNatClampNeg)), (5, .int (gI s 33 (a4).toNatClampNeg)), (0, .ref 2), (1, .int a1), (2, .int a2), (4, .int a4)]) dX11_owes_125 rfl (Nat.le_of_ble_eq_true rfl) rfl ?_
            refine JT_iinc (q := 6) (v := (a4 + 1)) (lv' := [(4, .int (a4 + 1)), (3, .int (a3 ||| (if (gI s 33 (a4).toNatClampNeg) = a1 then ((1 : Int32) <<< ((gI s 33 (a4).toNatClampNeg) &&& 31)) else (0 : Int32)))), (6, .int (gI s 33 (a4).toNatClampNeg)), (5, .int (gI s 33 (a4).toNatClampNeg)), (0, .ref 2), (1, .int a1), (2, .int a2)]) dX11_owes_126 rfl (by rfl) (Nat.le_of_ble_eq_true rfl) rfl ?_
            refine JT_goto (tgt := 27) dX11_owes_129 (by decide) ?_
            exact JT_sub [4, 5, 6, 1, 0] rfl h
          refine JT_icmp_ne (tgt := 123) dX11_owes_113 (by decide) (fun hc7 => ?_) (fun hc7 => ?_)
          · refine JT_iconst (v := 0) dX11_owes_123 ic_0 ?_
            exact hj6 _ (by rw [if_neg hc7])
          · refine JT_iconst (v := 1) dX11_owes_116 ic_1 ?_
            refine JT_iload (q := 0) dX11_owes_117 rfl ?_
            refine JT_ishl dX11_owes_119 ?_
            refine JT_goto (tgt := 124) dX11_owes_120 (by decide) ?_
            exact hj6 _ (by rw [if_pos hc7])
      · have h := h.2 hc17
        refine JT_aload_n (q := 0) dX11_owes_55 rfl rfl ?_
        refine JS_getR (x := 31) dX11_owes_56 flX11_41 BS_2 (Nat.le_of_ble_eq_true rfl) (Nat.le_of_ble_eq_true rfl) (Or.inl ⟨_, ct_11_5⟩) RF_2_5 ?_
        refine JS_getR (x := 32) dX11_owes_59 flX11_214 BS_31 (Nat.le_of_ble_eq_true rfl) (Nat.le_of_ble_eq_true rfl) (Or.inr ⟨_, ct_4_0⟩) RF_31_0 ?_
        refine JT_iload (q := 4) dX11_owes_62 rfl ?_
        obtain ⟨o9, h⟩ := h
        refine JS_iald dX11_owes_64 BS_32 (Nat.le_of_ble_eq_true rfl) (Nat.le_of_ble_eq_true rfl) o9 ?_
        refine JT_goto (tgt := 78) dX11_owes_65 (by decide) ?_
        refine JT_istore (lv' := [(5, .int (gI s 32 (a4).toNatClampNeg)), (0, .ref 2), (1, .int a1), (2, .int a2), (3, .int a3), (4, .int a4)]) dX11_owes_78 (Nat.le_of_ble_eq_true rfl) rfl ?_
        refine JT_iload_n (q := 3) dX11_owes_80 rfl rfl ?_
        refine JT_if_ne (tgt := 97) dX11_owes_81 (by decide) (fun hc16 => ?_) (fun hc16 => ?_)
        · have h := h.1 hc16
          refine JT_aload_n (q := 1) dX11_owes_97 rfl rfl ?_
          refine JS_getR (x := 31) dX11_owes_98 flX11_41 BS_2 (Nat.le_of_ble_eq_true rfl) (Nat.le_of_ble_eq_true rfl) (Or.inl ⟨_, ct_11_5⟩) RF_2_5 ?_
          refine JS_getR (x := 32) dX11_owes_101 flX11_214 BS_31 (Nat.le_of_ble_eq_true rfl) (Nat.le_of_ble_eq_true rfl) (Or.inr ⟨_, ct_4_0⟩) RF_31_0 ?_
          refine JT_iload (q := 5) dX11_owes_104 rfl ?_
          obtain ⟨o10, h⟩ := h
          refine JS_iald dX11_owes_106 BS_32 (Nat.le_of_ble_eq_true rfl) (Nat.le_of_ble_eq_true rfl) o10 ?_
          refine JT_istore (lv' := [(6, .int (gI s 32 (a4).toNatClampNeg)), (5, .int (gI s 32 (a4).toNatClampNeg)), (0, .ref 2), (1, .int a1), (2, .int a2), (3, .int a3), (4, .int a4)]) dX11_owes_107 (Nat.le_of_ble_eq_true rfl) rfl ?_
          refine JT_iload_n (q := 5) dX11_owes_109 rfl rfl ?_
          refine JT_iload (q := 1) dX11_owes_110 rfl ?_
          refine JT_iload_n (q := 3) dX11_owes_112 rfl rfl ?_
          have hj11 : ∀ v : Int32, v = (if (gI s 32 (a4).toNatClampNeg) = a1 then ((1 : Int32) <<< ((gI s 32 (a4).toNatClampNeg) &&& 31)) else (0 : Int32)) → JT MX11_owes 2 0 0 124 [(6, .int (gI s 32 (a4).toNatClampNeg)), (5, .int (gI s 32 (a4).toNatClampNeg)), (0, .ref 2), (1, .int a1), (2, .int a2), (3, .int a3), (4, .int a4)] [.int v, .int a3] (std s) (KQ Q) := by
            intro v hv
            subst hv
            refine JT_ior dX11_owes_124 ?_
            refine JT_istore_n (lv' := [(3, .int (a3 ||| (if (gI s 32 (a4).toNatClampNeg) = a1 then ((1 : Int32) <<< ((gI s 32 (a4).toNatClampNeg) &&& 31)) else (0 : Int32)))), (6, .int (gI s 32 (a4).toNatClampNeg)), (5, .int (gI s 32 (a4).toNatClampNeg)), (0, .ref 2), (1, .int a1), (2, .int a2), (4, .int a4)]) dX11_owes_125 rfl (Nat.le_of_ble_eq_true rfl) rfl ?_
            refine JT_iinc (q := 6) (v := (a4 + 1)) (lv' := [(4, .int (a4 + 1)), (3, .int (a3 ||| (if (gI s 32 (a4).toNatClampNeg) = a1 then ((1 : Int32) <<< ((gI s 32 (a4).toNatClampNeg) &&& 31)) else (0 : Int32)))), (6, .int (gI s 32 (a4).toNatClampNeg)), (5, .int (gI s 32 (a4).toNatClampNeg)), (0, .ref 2), (1, .int a1), (2, .int a2)]) dX11_owes_126 rfl (by rfl) (Nat.le_of_ble_eq_true rfl) rfl ?_
            refine JT_goto (tgt := 27) dX11_owes_129 (by decide) ?_
            exact JT_sub [4, 5, 6, 1, 0] rfl h
          refine JT_icmp_ne (tgt := 123) dX11_owes_113 (by decide) (fun hc12 => ?_) (fun hc12 => ?_)
          · refine JT_iconst (v := 0) dX11_owes_123 ic_0 ?_
            exact hj11 _ (by rw [if_neg hc12])
          · refine JT_iconst (v := 1) dX11_owes_116 ic_1 ?_
            refine JT_iload (q := 0) dX11_owes_117 rfl ?_
            refine JT_ishl dX11_owes_119 ?_
            refine JT_goto (tgt := 124) dX11_owes_120 (by decide) ?_
            exact hj11 _ (by rw [if_pos hc12])
        · have h := h.2 hc16
          refine JT_aload_n (q := 1) dX11_owes_84 rfl rfl ?_
          refine JS_getR (x := 31) dX11_owes_85 flX11_41 BS_2 (Nat.le_of_ble_eq_true rfl) (Nat.le_of_ble_eq_true rfl) (Or.inl ⟨_, ct_11_5⟩) RF_2_5 ?_
          refine JS_getR (x := 33) dX11_owes_88 flX11_217 BS_31 (Nat.le_of_ble_eq_true rfl) (Nat.le_of_ble_eq_true rfl) (Or.inr ⟨_, ct_4_1⟩) RF_31_1 ?_
          refine JT_iload (q := 5) dX11_owes_91 rfl ?_
          obtain ⟨o13, h⟩ := h
          refine JS_iald dX11_owes_93 BS_33 (Nat.le_of_ble_eq_true rfl) (Nat.le_of_ble_eq_true rfl) o13 ?_
          refine JT_goto (tgt := 107) dX11_owes_94 (by decide) ?_
          refine JT_istore (lv' := [(6, .int (gI s 33 (a4).toNatClampNeg)), (5, .int (gI s 32 (a4).toNatClampNeg)), (0, .ref 2), (1, .int a1), (2, .int a2), (3, .int a3), (4, .int a4)]) dX11_owes_107 (Nat.le_of_ble_eq_true rfl) rfl ?_
          refine JT_iload_n (q := 5) dX11_owes_109 rfl rfl ?_
          refine JT_iload (q := 1) dX11_owes_110 rfl ?_
          refine JT_iload_n (q := 3) dX11_owes_112 rfl rfl ?_
          have hj14 : ∀ v : Int32, v = (if (gI s 32 (a4).toNatClampNeg) = a1 then ((1 : Int32) <<< ((gI s 33 (a4).toNatClampNeg) &&& 31)) else (0 : Int32)) → JT MX11_owes 2 0 0 124 [(6, .int (gI s 33 (a4).toNatClampNeg)), (5, .int (gI s 32 (a4).toNatClampNeg)), (0, .ref 2), (1, .int a1), (2, .int a2), (3, .int a3), (4, .int a4)] [.int v, .int a3] (std s) (KQ Q) := by
            intro v hv
            subst hv
            refine JT_ior dX11_owes_124 ?_
            refine JT_istore_n (lv' := [(3, .int (a3 ||| (if (gI s 32 (a4).toNatClampNeg) = a1 then ((1 : Int32) <<< ((gI s 33 (a4).toNatClampNeg) &&& 31)) else (0 : Int32)))), (6, .int (gI s 33 (a4).toNatClampNeg)), (5, .int (gI s 32 (a4).toNatClampNeg)), (0, .ref 2), (1, .int a1), (2, .int a2), (4, .int a4)]) dX11_owes_125 rfl (Nat.le_of_ble_eq_true rfl) rfl ?_
            refine JT_iinc (q := 6) (v := (a4 + 1)) (lv' := [(4, .int (a4 + 1)), (3, .int (a3 ||| (if (gI s 32 (a4).toNatClampNeg) = a1 then ((1 : Int32) <<< ((gI s 33 (a4).toNatClampNeg) &&& 31)) else (0 : Int32)))), (6, .int (gI s 33 (a4).toNatClampNeg)), (5, .int (gI s 32 (a4).toNatClampNeg)), (0, .ref 2), (1, .int a1), (2, .int a2)]) dX11_owes_126 rfl (by rfl) (Nat.le_of_ble_eq_true rfl) rfl ?_
            refine JT_goto (tgt := 27) dX11_owes_129 (by decide) ?_
            exact JT_sub [4, 5, 6, 1, 0] rfl h
          refine JT_icmp_ne (tgt := 123) dX11_owes_113 (by decide) (fun hc15 => ?_) (fun hc15 => ?_)
          · refine JT_iconst (v := 0) dX11_owes_123 ic_0 ?_
            exact hj14 _ (by rw [if_neg hc15])
          · refine JT_iconst (v := 1) dX11_owes_116 ic_1 ?_
            refine JT_iload (q := 0) dX11_owes_117 rfl ?_
            refine JT_ishl dX11_owes_119 ?_
            refine JT_goto (tgt := 124) dX11_owes_120 (by decide) ?_
            exact hj14 _ (by rw [if_pos hc15])
set_option maxRecDepth 1000000 in
theorem bX11_owes (a1 : Int32) (a2 : Int32) {s : SM} {Q : Int32 → SM → Prop} (h : (((vX6_hasBody s 5 a1) = 0 → Q (-1 : Int32) s) ∧ (¬ (vX6_hasBody s 5 a1) = 0 → ((a2 < 0 → Q (-1 : Int32) s) ∧ (¬ a2 < 0 → ((a2 ≤ (1 : Int32) → BI MX11_owes 2 27 [(0, .ref 2), (1, .int a1), (2, .int a2), (3, .int (0 : Int32)), (4, .int (0 : Int32))] s Q) ∧ (¬ a2 ≤ (1 : Int32) → Q (-1 : Int32) s))))))) : KI MX11_owes 2 [.ref 2, .int a1, .int a2] s Q := by
  show BI MX11_owes 2 0 [(0, .ref 2), (1, .int a1), (2, .int a2)] s Q
  refine JT_aload_n (q := 0) dX11_owes_0 rfl rfl ?_
  refine JS_getR (x := 5) dX11_owes_1 flX11_19 BS_2 (Nat.le_of_ble_eq_true rfl) (Nat.le_of_ble_eq_true rfl) (Or.inl ⟨_, ct_11_1⟩) RF_2_1 ?_
  refine JT_iload_n (q := 1) dX11_owes_4 rfl rfl ?_
  refine JS_callVI (M' := MX6_hasBody) (d' := 0) (As := [.int a1]) (rest := []) (P := (fun zv9 wm9 => (vX6_hasBody s 5 a1) = zv9 ∧ s = wm9)) dX11_owes_5 cvX11_172 okX6_hasBody rfl (Nat.le_of_ble_eq_true rfl) BS_5 (Nat.le_of_ble_eq_true rfl) (Nat.le_of_ble_eq_true rfl) hci_6 (Nat.le_of_ble_eq_true rfl) (Nat.le_of_ble_eq_true rfl) (pX6_hasBody hp_5 (a1)  ⟨rfl, rfl⟩) (fun zv9 wm9 hq9 => ?_)
  obtain ⟨rfl, rfl⟩ := hq9
  refine JT_if_eq (tgt := 20) dX11_owes_8 (by decide) (fun hc3 => ?_) (fun hc3 => ?_)
  · have h := h.1 hc3
    refine JT_iconst (v := -1) dX11_owes_20 ic_m1 ?_
    exact JS_iret dX11_owes_21 rfl rfl h
  · have h := h.2 hc3
    refine JT_iload_n (q := 2) dX11_owes_11 rfl rfl ?_
    refine JT_if_lt (tgt := 20) dX11_owes_12 (by decide) (fun hc2 => ?_) (fun hc2 => ?_)
    · have h := h.1 hc2
      refine JT_iconst (v := -1) dX11_owes_20 ic_m1 ?_
      exact JS_iret dX11_owes_21 rfl rfl h
    · have h := h.2 hc2
      refine JT_iload_n (q := 2) dX11_owes_15 rfl rfl ?_
      refine JT_iconst (v := 1) dX11_owes_16 ic_1 ?_
      refine JT_icmp_le (tgt := 22) dX11_owes_17 (by decide) (fun hc1 => ?_) (fun hc1 => ?_)
      · have h := h.1 hc1
        refine JT_iconst (v := 0) dX11_owes_22 ic_0 ?_
        refine JT_istore_n (lv' := [(3, .int (0 : Int32)), (0, .ref 2), (1, .int a1), (2, .int a2)]) dX11_owes_23 rfl (Nat.le_of_ble_eq_true rfl) rfl ?_
        refine JT_iconst (v := 0) dX11_owes_24 ic_0 ?_
        refine JT_istore (lv' := [(4, .int (0 : Int32)), (3, .int (0 : Int32)), (0, .ref 2), (1, .int a1), (2, .int a2)]) dX11_owes_25 (Nat.le_of_ble_eq_true rfl) rfl ?_
        exact JT_sub [2, 3, 4, 1, 0] rfl h
      · have h := h.2 hc1
        refine JT_iconst (v := -1) dX11_owes_20 ic_m1 ?_
        exact JS_iret dX11_owes_21 rfl rfl h
set_option maxRecDepth 1000000 in
theorem gX11_owes  : ∀ n : Nat, (∀ (a1 : Int32) (a2 : Int32) (a3 : Int32) (a4 : Int32) (s : SM) (Q : Int32 → SM → Prop), ((qX11_owes n) s a1 a2 a3 a4) → Q ((lX11_owes n) s a1 a2 a3 a4) s → BI MX11_owes 2 27 [(0, .ref 2), (1, .int a1), (2, .int a2), (3, .int a3), (4, .int a4)] s Q) := by
  intro n
  induction n with
  | zero => exact fun _ _ _ _ _ _ hq _ => absurd hq id
  | succ n ih =>
    intro a1 a2 a3 a4 s Q hr h
    replace hr : uX11_owes_27 (qX11_owes n) s a1 a2 a3 a4 := hr
    replace h : Q (tX11_owes_27 (lX11_owes n) s a1 a2 a3 a4) s := h
    unfold uX11_owes_27 at hr
    unfold tX11_owes_27 at h
    refine bX11_owes_27 a1 a2 a3 a4 ?_
    refine ⟨fun c => ?_, fun c => ?_⟩
    · replace h := qlp c h
      first | exact h | contradiction
    · replace hr := hr c
      replace h := qln c h
      refine ⟨hr.1, ?_⟩
      replace hr := hr.2
      refine ⟨fun c => ?_, fun c => ?_⟩
      · replace hr := hr.1 c
        replace h := qlp c h
        first | exact ih a1 a2 a3 (a4 + 1) _ Q hr h | contradiction
      · replace hr := hr.2 c
        replace h := qln c h
        refine ⟨fun c => ?_, fun c => ?_⟩
        · replace hr := hr.1 c
          replace h := qln c h
          refine ⟨hr.1, ?_⟩
          replace hr := hr.2
          refine ⟨fun c => ?_, fun c => ?_⟩
          · replace hr := hr.1 c
            replace h := qln c h
            refine ⟨hr.1, ?_⟩
            replace hr := hr.2
            first | exact ih a1 a2 (a3 ||| (if (gI s 33 (a4).toNatClampNeg) = a1 then ((1 : Int32) <<< ((gI s 32 (a4).toNatClampNeg) &&& 31)) else (0 : Int32))) (a4 + 1) _ Q hr h | contradiction
          · replace hr := hr.2 c
            replace h := qlp c h
            refine ⟨hr.1, ?_⟩
            replace hr := hr.2
            first | exact ih a1 a2 (a3 ||| (if (gI s 33 (a4).toNatClampNeg) = a1 then ((1 : Int32) <<< ((gI s 33 (a4).toNatClampNeg) &&& 31)) else (0 : Int32))) (a4 + 1) _ Q hr h | contradiction
        · replace hr := hr.2 c
          replace h := qlp c h
          refine ⟨hr.1, ?_⟩
          replace hr := hr.2
          refine ⟨fun c => ?_, fun c => ?_⟩
          · replace hr := hr.1 c
            replace h := qln c h
            refine ⟨hr.1, ?_⟩
            replace hr := hr.2
            first | exact ih a1 a2 (a3 ||| (if (gI s 32 (a4).toNatClampNeg) = a1 then ((1 : Int32) <<< ((gI s 32 (a4).toNatClampNeg) &&& 31)) else (0 : Int32))) (a4 + 1) _ Q hr h | contradiction
          · replace hr := hr.2 c
            replace h := qlp c h
            refine ⟨hr.1, ?_⟩
            replace hr := hr.2
            first | exact ih a1 a2 (a3 ||| (if (gI s 32 (a4).toNatClampNeg) = a1 then ((1 : Int32) <<< ((gI s 33 (a4).toNatClampNeg) &&& 31)) else (0 : Int32))) (a4 + 1) _ Q hr h | contradiction
set_option maxRecDepth 1000000 in
theorem pX11_owes (a1 : Int32) (a2 : Int32) {s : SM} {Q : Int32 → SM → Prop} (hr : rX11_owes s a1 a2) (h : Q (vX11_owes s a1 a2) s) : KI MX11_owes 2 [.ref 2, .int a1, .int a2] s Q := by
  replace h : Q (fX11_owes s a1 a2) s := h
  unfold rX11_owes at hr
  unfold fX11_owes at h
  refine bX11_owes a1 a2 ?_
  refine ⟨fun c => ?_, fun c => ?_⟩
  · replace h := qlp c h
    first | exact h | contradiction
  · replace hr := hr c
    replace h := qln c h
    refine ⟨fun c => ?_, fun c => ?_⟩
    · replace h := qlp c h
      first | exact h | contradiction
    · replace hr := hr c
      replace h := qln c h
      refine ⟨fun c => ?_, fun c => ?_⟩
      · replace hr := hr c
        replace h := qlp c h
        first | exact (gX11_owes  FU) a1 a2 (0 : Int32) (0 : Int32) _ Q hr h | contradiction
      · replace h := qln c h
        first | exact h | contradiction
set_option maxRecDepth 1000000 in
theorem bX11_trade_23 (a1 : Int32) (a2 : Int32) (a3 : Int32) (a4 : Int32) {s : SM} {Q : Int32 → SM → Prop} (h : (((gI s 31 9) ≤ a4 → Q a3 s) ∧ (¬ (gI s 31 9) ≤ a4 → vp_in a4 60 ∧ ((¬ (gI s 36 (a4).toNatClampNeg) = a1 → BI MX11_trade 2 23 [(0, .ref 2), (1, .int a1), (2, .int a2), (3, .int a3), (4, .int (a4 + 1))] s Q) ∧ ((gI s 36 (a4).toNatClampNeg) = a1 → ((a2 = 0 → BI MX11_trade 2 69 [(0, .ref 2), (1, .int a1), (2, .int a2), (3, .int a3), (4, .int a4)] s Q) ∧ (¬ a2 = 0 → vp_in a4 60 ∧ ((¬ (gI s 37 (a4).toNatClampNeg) = (a2 - (1 : Int32)) → BI MX11_trade 2 23 [(0, .ref 2), (1, .int a1), (2, .int a2), (3, .int a3), (4, .int (a4 + 1))] s Q) ∧ ((gI s 37 (a4).toNatClampNeg) = (a2 - (1 : Int32)) → BI MX11_trade 2 69 [(0, .ref 2), (1, .int a1), (2, .int a2), (3, .int a3), (4, .int a4)] s Q))))))))) : BI MX11_trade 2 23 [(0, .ref 2), (1, .int a1), (2, .int a2), (3, .int a3), (4, .int a4)] s Q := by
  refine JT_iload (q := 4) dX11_trade_23 rfl ?_
  refine JT_aload_n (q := 0) dX11_trade_25 rfl rfl ?_
  refine JS_getR (x := 31) dX11_trade_26 flX11_41 BS_2 (Nat.le_of_ble_eq_true rfl) (Nat.le_of_ble_eq_true rfl) (Or.inl ⟨_, ct_11_5⟩) RF_2_5 ?_
  refine JS_getI dX11_trade_29 flX11_162 BS_31 (Nat.le_of_ble_eq_true rfl) (Nat.le_of_ble_eq_true rfl) (Or.inl ct_4_9) ?_
  refine JT_icmp_ge (tgt := 87) dX11_trade_32 (by decide) (fun hc6 => ?_) (fun hc6 => ?_)
  · have h := h.1 hc6
    refine JT_iload_n (q := 3) dX11_trade_87 rfl rfl ?_
    exact JS_iret dX11_trade_88 rfl rfl h
  · have h := h.2 hc6
    refine JT_aload_n (q := 0) dX11_trade_35 rfl rfl ?_
    refine JS_getR (x := 31) dX11_trade_36 flX11_41 BS_2 (Nat.le_of_ble_eq_true rfl) (Nat.le_of_ble_eq_true rfl) (Or.inl ⟨_, ct_11_5⟩) RF_2_5 ?_
    refine JS_getR (x := 36) dX11_trade_39 flX11_226 BS_31 (Nat.le_of_ble_eq_true rfl) (Nat.le_of_ble_eq_true rfl) (Or.inr ⟨_, ct_4_4⟩) RF_31_4 ?_
    refine JT_iload (q := 4) dX11_trade_42 rfl ?_
    obtain ⟨o1, h⟩ := h
    refine JS_iald dX11_trade_44 BS_36 (Nat.le_of_ble_eq_true rfl) (Nat.le_of_ble_eq_true rfl) o1 ?_
    refine JT_iload_n (q := 1) dX11_trade_45 rfl rfl ?_
    refine JT_icmp_ne (tgt := 81) dX11_trade_46 (by decide) (fun hc5 => ?_) (fun hc5 => ?_)
    · have h := h.1 hc5
      refine JT_iinc (q := 4) (v := (a4 + 1)) (lv' := [(4, .int (a4 + 1)), (0, .ref 2), (1, .int a1), (2, .int a2), (3, .int a3)]) dX11_trade_81 rfl (by rfl) (Nat.le_of_ble_eq_true rfl) rfl ?_
      refine JT_goto (tgt := 23) dX11_trade_84 (by decide) ?_
      exact JT_sub [1, 2, 3, 4, 0] rfl h
    · have h := h.2 hc5
      refine JT_iload_n (q := 2) dX11_trade_49 rfl rfl ?_
      refine JT_if_eq (tgt := 69) dX11_trade_50 (by decide) (fun hc4 => ?_) (fun hc4 => ?_)
      · have h := h.1 hc4
        exact JT_sub [0, 1, 2, 3, 4] rfl h
      · have h := h.2 hc4
        refine JT_aload_n (q := 0) dX11_trade_53 rfl rfl ?_
        refine JS_getR (x := 31) dX11_trade_54 flX11_41 BS_2 (Nat.le_of_ble_eq_true rfl) (Nat.le_of_ble_eq_true rfl) (Or.inl ⟨_, ct_11_5⟩) RF_2_5 ?_
        refine JS_getR (x := 37) dX11_trade_57 flX11_229 BS_31 (Nat.le_of_ble_eq_true rfl) (Nat.le_of_ble_eq_true rfl) (Or.inr ⟨_, ct_4_5⟩) RF_31_5 ?_
        refine JT_iload (q := 4) dX11_trade_60 rfl ?_
        obtain ⟨o2, h⟩ := h
        refine JS_iald dX11_trade_62 BS_37 (Nat.le_of_ble_eq_true rfl) (Nat.le_of_ble_eq_true rfl) o2 ?_
        refine JT_iload_n (q := 2) dX11_trade_63 rfl rfl ?_
        refine JT_iconst (v := 1) dX11_trade_64 ic_1 ?_
        refine JT_isub dX11_trade_65 ?_
        refine JT_icmp_ne (tgt := 81) dX11_trade_66 (by decide) (fun hc3 => ?_) (fun hc3 => ?_)
        · have h := h.1 hc3
          refine JT_iinc (q := 4) (v := (a4 + 1)) (lv' := [(4, .int (a4 + 1)), (0, .ref 2), (1, .int a1), (2, .int a2), (3, .int a3)]) dX11_trade_81 rfl (by rfl) (Nat.le_of_ble_eq_true rfl) rfl ?_
          refine JT_goto (tgt := 23) dX11_trade_84 (by decide) ?_
          exact JT_sub [1, 2, 3, 4, 0] rfl h
        · have h := h.2 hc3
          exact JT_sub [0, 1, 2, 3, 4] rfl h
set_option maxRecDepth 1000000 in
theorem bX11_trade_69 (a1 : Int32) (a2 : Int32) (a3 : Int32) (a4 : Int32) {s : SM} {Q : Int32 → SM → Prop} (h : rX4_valueOf s 31 5 a4 ∧ BI MX11_trade 2 23 [(0, .ref 2), (1, .int a1), (2, .int a2), (3, .int (a3 + (vX4_valueOf s 31 5 a4))), (4, .int (a4 + 1))] s Q) : BI MX11_trade 2 69 [(0, .ref 2), (1, .int a1), (2, .int a2), (3, .int a3), (4, .int a4)] s Q := by
  refine JT_iload_n (q := 3) dX11_trade_69 rfl rfl ?_
  refine JT_aload_n (q := 0) dX11_trade_70 rfl rfl ?_
  refine JS_getR (x := 31) dX11_trade_71 flX11_41 BS_2 (Nat.le_of_ble_eq_true rfl) (Nat.le_of_ble_eq_true rfl) (Or.inl ⟨_, ct_11_5⟩) RF_2_5 ?_
  refine JT_iload (q := 4) dX11_trade_74 rfl ?_
  obtain ⟨o1, h⟩ := h
  refine JS_callVI (M' := MX4_valueOf) (d' := 1) (As := [.int a4]) (rest := [.int a3]) (P := (fun zv9 wm9 => (vX4_valueOf s 31 5 a4) = zv9 ∧ s = wm9)) dX11_trade_76 cvX11_238 okX4_valueOf rfl (Nat.le_of_ble_eq_true rfl) BS_31 (Nat.le_of_ble_eq_true rfl) (Nat.le_of_ble_eq_true rfl) hci_4 (Nat.le_of_ble_eq_true rfl) (Nat.le_of_ble_eq_true rfl) (pX4_valueOf hL_31 (a4) o1 ⟨rfl, rfl⟩) (fun zv9 wm9 hq9 => ?_)
  obtain ⟨rfl, rfl⟩ := hq9
  refine JT_iadd dX11_trade_79 ?_
  refine JT_istore_n (lv' := [(3, .int (a3 + (vX4_valueOf s 31 5 a4))), (0, .ref 2), (1, .int a1), (2, .int a2), (4, .int a4)]) dX11_trade_80 rfl (Nat.le_of_ble_eq_true rfl) rfl ?_
  refine JT_iinc (q := 4) (v := (a4 + 1)) (lv' := [(4, .int (a4 + 1)), (3, .int (a3 + (vX4_valueOf s 31 5 a4))), (0, .ref 2), (1, .int a1), (2, .int a2)]) dX11_trade_81 rfl (by rfl) (Nat.le_of_ble_eq_true rfl) rfl ?_
  refine JT_goto (tgt := 23) dX11_trade_84 (by decide) ?_
  exact JT_sub [2, 3, 4, 1, 0] rfl h
set_option maxRecDepth 1000000 in
theorem bX11_trade (a1 : Int32) (a2 : Int32) {s : SM} {Q : Int32 → SM → Prop} (h : (((vX11_isYear s a1) = 0 → Q (-1 : Int32) s) ∧ (¬ (vX11_isYear s a1) = 0 → ((a2 < 0 → Q (-1 : Int32) s) ∧ (¬ a2 < 0 → ((a2 ≤ (3 : Int32) → BI MX11_trade 2 23 [(0, .ref 2), (1, .int a1), (2, .int a2), (3, .int (0 : Int32)), (4, .int (0 : Int32))] s Q) ∧ (¬ a2 ≤ (3 : Int32) → Q (-1 : Int32) s))))))) : KI MX11_trade 2 [.ref 2, .int a1, .int a2] s Q := by
  show BI MX11_trade 2 0 [(0, .ref 2), (1, .int a1), (2, .int a2)] s Q
  refine JT_iload_n (q := 1) dX11_trade_0 rfl rfl ?_
  refine JS_callSI (M' := MX11_isYear) (d' := 0) (As := [.int a1]) (rest := []) (P := (fun zv9 wm9 => (vX11_isYear s a1) = zv9 ∧ s = wm9)) dX11_trade_1 cvX11_248 okX11_isYear rfl (Nat.le_of_ble_eq_true rfl) (Nat.le_of_ble_eq_true rfl) (Nat.le_of_ble_eq_true rfl) (pX11_isYear  (a1)  ⟨rfl, rfl⟩) (fun zv9 wm9 hq9 => ?_)
  obtain ⟨rfl, rfl⟩ := hq9
  refine JT_if_eq (tgt := 16) dX11_trade_4 (by decide) (fun hc3 => ?_) (fun hc3 => ?_)
  · have h := h.1 hc3
    refine JT_iconst (v := -1) dX11_trade_16 ic_m1 ?_
    exact JS_iret dX11_trade_17 rfl rfl h
  · have h := h.2 hc3
    refine JT_iload_n (q := 2) dX11_trade_7 rfl rfl ?_
    refine JT_if_lt (tgt := 16) dX11_trade_8 (by decide) (fun hc2 => ?_) (fun hc2 => ?_)
    · have h := h.1 hc2
      refine JT_iconst (v := -1) dX11_trade_16 ic_m1 ?_
      exact JS_iret dX11_trade_17 rfl rfl h
    · have h := h.2 hc2
      refine JT_iload_n (q := 2) dX11_trade_11 rfl rfl ?_
      refine JT_iconst (v := 3) dX11_trade_12 ic_3 ?_
      refine JT_icmp_le (tgt := 18) dX11_trade_13 (by decide) (fun hc1 => ?_) (fun hc1 => ?_)
      · have h := h.1 hc1
        refine JT_iconst (v := 0) dX11_trade_18 ic_0 ?_
        refine JT_istore_n (lv' := [(3, .int (0 : Int32)), (0, .ref 2), (1, .int a1), (2, .int a2)]) dX11_trade_19 rfl (Nat.le_of_ble_eq_true rfl) rfl ?_
        refine JT_iconst (v := 0) dX11_trade_20 ic_0 ?_
        refine JT_istore (lv' := [(4, .int (0 : Int32)), (3, .int (0 : Int32)), (0, .ref 2), (1, .int a1), (2, .int a2)]) dX11_trade_21 (Nat.le_of_ble_eq_true rfl) rfl ?_
        exact JT_sub [2, 3, 4, 1, 0] rfl h
      · have h := h.2 hc1
        refine JT_iconst (v := -1) dX11_trade_16 ic_m1 ?_
        exact JS_iret dX11_trade_17 rfl rfl h
set_option maxRecDepth 1000000 in
theorem gX11_trade  : ∀ n : Nat, (∀ (a1 : Int32) (a2 : Int32) (a3 : Int32) (a4 : Int32) (s : SM) (Q : Int32 → SM → Prop), ((qX11_trade n).1 s a1 a2 a3 a4) → Q ((lX11_trade n).1 s a1 a2 a3 a4) s → BI MX11_trade 2 23 [(0, .ref 2), (1, .int a1), (2, .int a2), (3, .int a3), (4, .int a4)] s Q) ∧ (∀ (a1 : Int32) (a2 : Int32) (a3 : Int32) (a4 : Int32) (s : SM) (Q : Int32 → SM → Prop), ((qX11_trade n).2 s a1 a2 a3 a4) → Q ((lX11_trade n).2 s a1 a2 a3 a4) s → BI MX11_trade 2 69 [(0, .ref 2), (1, .int a1), (2, .int a2), (3, .int a3), (4, .int a4)] s Q) := by
  intro n
  induction n with
  | zero => exact ⟨fun _ _ _ _ _ _ hq _ => absurd hq id, fun _ _ _ _ _ _ hq _ => absurd hq id⟩
  | succ n ih =>
    refine ⟨?_, ?_⟩
    · intro a1 a2 a3 a4 s Q hr h
      replace hr : uX11_trade_23 (qX11_trade n) s a1 a2 a3 a4 := hr
      replace h : Q (tX11_trade_23 (lX11_trade n) s a1 a2 a3 a4) s := h
      unfold uX11_trade_23 at hr
      unfold tX11_trade_23 at h
      refine bX11_trade_23 a1 a2 a3 a4 ?_
      refine ⟨fun c => ?_, fun c => ?_⟩
      · replace h := qlp c h
        first | exact h | contradiction
      · replace hr := hr c
        replace h := qln c h
        refine ⟨hr.1, ?_⟩
        replace hr := hr.2
        refine ⟨fun c => ?_, fun c => ?_⟩
        · replace hr := hr.1 c
          replace h := qln c h
          first | exact ih.1 a1 a2 a3 (a4 + 1) _ Q hr h | contradiction
        · replace hr := hr.2 c
          replace h := qlp c h
          refine ⟨fun c => ?_, fun c => ?_⟩
          · replace hr := hr.1 c
            replace h := qlp c h
            first | exact ih.2 a1 a2 a3 a4 _ Q hr h | contradiction
          · replace hr := hr.2 c
            replace h := qln c h
            refine ⟨hr.1, ?_⟩
            replace hr := hr.2
            refine ⟨fun c => ?_, fun c => ?_⟩
            · replace hr := hr.1 c
              replace h := qln c h
              first | exact ih.1 a1 a2 a3 (a4 + 1) _ Q hr h | contradiction
            · replace hr := hr.2 c
              replace h := qlp c h
              first | exact ih.2 a1 a2 a3 a4 _ Q hr h | contradiction
    · intro a1 a2 a3 a4 s Q hr h
      replace hr : uX11_trade_69 (qX11_trade n) s a1 a2 a3 a4 := hr
      replace h : Q (tX11_trade_69 (lX11_trade n) s a1 a2 a3 a4) s := h
      unfold uX11_trade_69 at hr
      unfold tX11_trade_69 at h
      refine bX11_trade_69 a1 a2 a3 a4 ?_
      refine ⟨hr.1, ?_⟩
      replace hr := hr.2
      first | exact ih.1 a1 a2 (a3 + (vX4_valueOf s 31 5 a4)) (a4 + 1) _ Q hr h | contradiction
set_option maxRecDepth 1000000 in
theorem pX11_trade (a1 : Int32) (a2 : Int32) {s : SM} {Q : Int32 → SM → Prop} (hr : rX11_trade s a1 a2) (h : Q (vX11_trade s a1 a2) s) : KI MX11_trade 2 [.ref 2, .int a1, .int a2] s Q := by
  replace h : Q (fX11_trade s a1 a2) s := h
  unfold rX11_trade at hr
  unfold fX11_trade at h
  refine bX11_trade a1 a2 ?_
  refine ⟨fun c => ?_, fun c => ?_⟩
  · replace h := qlp c h
    first | exact h | contradiction
  · replace hr := hr c
    replace h := qln c h
    refine ⟨fun c => ?_, fun c => ?_⟩
    · replace h := qlp c h
      first | exact h | contradiction
    · replace hr := hr c
      replace h := qln c h
      refine ⟨fun c => ?_, fun c => ?_⟩
      · replace hr := hr c
        replace h := qlp c h
        first | exact (gX11_trade  FU).1 a1 a2 (0 : Int32) (0 : Int32) _ Q hr h | contradiction
      · replace h := qln c h
        first | exact h | contradiction
set_option maxRecDepth 1000000 in
theorem bX11_witness_86 (a1 : Int32) (a2 : Int32) (a3 : Int32) {s : SM} {Q : Int32 → SM → Prop} (h : Q (if (if a2 = (-1 : Int32) then a3 else a2) = (-1 : Int32) then (-1 : Int32) else ((1 : Int32) <<< ((if a2 = (-1 : Int32) then a3 else a2) &&& 31))) s) : BI MX11_witness 2 86 [(0, .ref 2), (1, .int a1), (2, .int a2), (3, .int a3)] s Q := by
  refine JT_iload_n (q := 2) dX11_witness_86 rfl rfl ?_
  refine JT_iconst (v := -1) dX11_witness_87 ic_m1 ?_
  have hj3 : ∀ v : Int32, v = (if a2 = (-1 : Int32) then a3 else a2) → JT MX11_witness 2 0 0 96 [(0, .ref 2), (1, .int a1), (2, .int a2), (3, .int a3)] [.int v] (std s) (KQ Q) := by
    intro v hv
    subst hv
    refine JT_istore (lv' := [(4, .int (if a2 = (-1 : Int32) then a3 else a2)), (0, .ref 2), (1, .int a1), (2, .int a2), (3, .int a3)]) dX11_witness_96 (Nat.le_of_ble_eq_true rfl) rfl ?_
    refine JT_iload (q := 0) dX11_witness_98 rfl ?_
    refine JT_iconst (v := -1) dX11_witness_100 ic_m1 ?_
    have hj1 : ∀ v : Int32, v = (if (if a2 = (-1 : Int32) then a3 else a2) = (-1 : Int32) then (-1 : Int32) else ((1 : Int32) <<< ((if a2 = (-1 : Int32) then a3 else a2) &&& 31))) → JT MX11_witness 2 0 0 112 [(4, .int (if a2 = (-1 : Int32) then a3 else a2)), (0, .ref 2), (1, .int a1), (2, .int a2), (3, .int a3)] [.int v] (std s) (KQ Q) := by
      intro v hv
      subst hv
      exact JS_iret dX11_witness_112 rfl rfl h
    refine JT_icmp_ne (tgt := 108) dX11_witness_101 (by decide) (fun hc2 => ?_) (fun hc2 => ?_)
    · refine JT_iconst (v := 1) dX11_witness_108 ic_1 ?_
      refine JT_iload (q := 0) dX11_witness_109 rfl ?_
      refine JT_ishl dX11_witness_111 ?_
      exact hj1 _ (by rw [if_neg hc2])
    · refine JT_iconst (v := -1) dX11_witness_104 ic_m1 ?_
      refine JT_goto (tgt := 112) dX11_witness_105 (by decide) ?_
      exact hj1 _ (by rw [if_pos hc2])
  refine JT_icmp_ne (tgt := 95) dX11_witness_88 (by decide) (fun hc4 => ?_) (fun hc4 => ?_)
  · refine JT_iload_n (q := 2) dX11_witness_95 rfl rfl ?_
    exact hj3 _ (by rw [if_neg hc4])
  · refine JT_iload_n (q := 3) dX11_witness_91 rfl rfl ?_
    refine JT_goto (tgt := 96) dX11_witness_92 (by decide) ?_
    exact hj3 _ (by rw [if_pos hc4])
set_option maxRecDepth 1000000 in
theorem bX11_witness (a1 : Int32) {s : SM} {Q : Int32 → SM → Prop} (h : ((¬ (vX4_hasDeal s 31 5 a1) = 0 → rX4_unscarredBearer s 31 5 a1 (0 : Int32) ∧ rX4_unscarredBearer s 31 5 a1 (1 : Int32) ∧ vp_in a1 60 ∧ vp_in (gI s 35 (a1).toNatClampNeg) 6 ∧ ((¬ (gI s 11 ((gI s 35 (a1).toNatClampNeg)).toNatClampNeg) = (4 : Int32) → (((vX4_unscarredBearer s 31 5 a1 (0 : Int32)) = (-1 : Int32) → BI MX11_witness 2 86 [(0, .ref 2), (1, .int a1), (2, .int (vX4_unscarredBearer s 31 5 a1 (0 : Int32))), (3, .int (vX4_unscarredBearer s 31 5 a1 (1 : Int32)))] s Q) ∧ (¬ (vX4_unscarredBearer s 31 5 a1 (0 : Int32)) = (-1 : Int32) → ((¬ (vX4_unscarredBearer s 31 5 a1 (1 : Int32)) = (-1 : Int32) → Q ((1 : Int32) <<< ((if (vX4_unscarredBearer s 31 5 a1 (1 : Int32)) < (vX4_unscarredBearer s 31 5 a1 (0 : Int32)) then (vX4_unscarredBearer s 31 5 a1 (1 : Int32)) else (vX4_unscarredBearer s 31 5 a1 (0 : Int32))) &&& 31)) s) ∧ ((vX4_unscarredBearer s 31 5 a1 (1 : Int32)) = (-1 : Int32) → BI MX11_witness 2 86 [(0, .ref 2), (1, .int a1), (2, .int (vX4_unscarredBearer s 31 5 a1 (0 : Int32))), (3, .int (vX4_unscarredBearer s 31 5 a1 (1 : Int32)))] s Q))))) ∧ ((gI s 11 ((gI s 35 (a1).toNatClampNeg)).toNatClampNeg) = (4 : Int32) → Q (if (vX4_unscarredBearer s 31 5 a1 (0 : Int32)) = (-1 : Int32) then (-1 : Int32) else (if (vX4_unscarredBearer s 31 5 a1 (1 : Int32)) = (-1 : Int32) then (-1 : Int32) else (((1 : Int32) <<< ((vX4_unscarredBearer s 31 5 a1 (0 : Int32)) &&& 31)) ||| ((1 : Int32) <<< ((vX4_unscarredBearer s 31 5 a1 (1 : Int32)) &&& 31))))) s))) ∧ ((vX4_hasDeal s 31 5 a1) = 0 → Q (-1 : Int32) s))) : KI MX11_witness 2 [.ref 2, .int a1] s Q := by
  show BI MX11_witness 2 0 [(0, .ref 2), (1, .int a1)] s Q
  refine JT_aload_n (q := 0) dX11_witness_0 rfl rfl ?_
  refine JS_getR (x := 31) dX11_witness_1 flX11_41 BS_2 (Nat.le_of_ble_eq_true rfl) (Nat.le_of_ble_eq_true rfl) (Or.inl ⟨_, ct_11_5⟩) RF_2_5 ?_
  refine JT_iload_n (q := 1) dX11_witness_4 rfl rfl ?_
  refine JS_callVI (M' := MX4_hasDeal) (d' := 0) (As := [.int a1]) (rest := []) (P := (fun zv9 wm9 => (vX4_hasDeal s 31 5 a1) = zv9 ∧ s = wm9)) dX11_witness_5 cvX11_211 okX4_hasDeal rfl (Nat.le_of_ble_eq_true rfl) BS_31 (Nat.le_of_ble_eq_true rfl) (Nat.le_of_ble_eq_true rfl) hci_4 (Nat.le_of_ble_eq_true rfl) (Nat.le_of_ble_eq_true rfl) (pX4_hasDeal hL_31 (a1)  ⟨rfl, rfl⟩) (fun zv9 wm9 hq9 => ?_)
  obtain ⟨rfl, rfl⟩ := hq9
  refine JT_if_ne (tgt := 13) dX11_witness_8 (by decide) (fun hc11 => ?_) (fun hc11 => ?_)
  · have h := h.1 hc11
    refine JT_aload_n (q := 0) dX11_witness_13 rfl rfl ?_
    refine JS_getR (x := 31) dX11_witness_14 flX11_41 BS_2 (Nat.le_of_ble_eq_true rfl) (Nat.le_of_ble_eq_true rfl) (Or.inl ⟨_, ct_11_5⟩) RF_2_5 ?_
    refine JT_iload_n (q := 1) dX11_witness_17 rfl rfl ?_
    refine JT_iconst (v := 0) dX11_witness_18 ic_0 ?_
    obtain ⟨o10, h⟩ := h
    refine JS_callVI (M' := MX4_unscarredBearer) (d' := 1) (As := [.int a1, .int (0 : Int32)]) (rest := []) (P := (fun zv9 wm9 => (vX4_unscarredBearer s 31 5 a1 (0 : Int32)) = zv9 ∧ s = wm9)) dX11_witness_19 cvX11_419 okX4_unscarredBearer rfl (Nat.le_of_ble_eq_true rfl) BS_31 (Nat.le_of_ble_eq_true rfl) (Nat.le_of_ble_eq_true rfl) hci_4 (Nat.le_of_ble_eq_true rfl) (Nat.le_of_ble_eq_true rfl) (pX4_unscarredBearer hL_31 (a1) ((0 : Int32)) o10 ⟨rfl, rfl⟩) (fun zv9 wm9 hq9 => ?_)
    obtain ⟨rfl, rfl⟩ := hq9
    refine JT_istore_n (lv' := [(2, .int (vX4_unscarredBearer s 31 5 a1 (0 : Int32))), (0, .ref 2), (1, .int a1)]) dX11_witness_22 rfl (Nat.le_of_ble_eq_true rfl) rfl ?_
    refine JT_aload_n (q := 1) dX11_witness_23 rfl rfl ?_
    refine JS_getR (x := 31) dX11_witness_24 flX11_41 BS_2 (Nat.le_of_ble_eq_true rfl) (Nat.le_of_ble_eq_true rfl) (Or.inl ⟨_, ct_11_5⟩) RF_2_5 ?_
    refine JT_iload_n (q := 2) dX11_witness_27 rfl rfl ?_
    refine JT_iconst (v := 1) dX11_witness_28 ic_1 ?_
    obtain ⟨o9, h⟩ := h
    refine JS_callVI (M' := MX4_unscarredBearer) (d' := 1) (As := [.int a1, .int (1 : Int32)]) (rest := []) (P := (fun zv9 wm9 => (vX4_unscarredBearer s 31 5 a1 (1 : Int32)) = zv9 ∧ s = wm9)) dX11_witness_29 cvX11_419 okX4_unscarredBearer rfl (Nat.le_of_ble_eq_true rfl) BS_31 (Nat.le_of_ble_eq_true rfl) (Nat.le_of_ble_eq_true rfl) hci_4 (Nat.le_of_ble_eq_true rfl) (Nat.le_of_ble_eq_true rfl) (pX4_unscarredBearer hL_31 (a1) ((1 : Int32)) o9 ⟨rfl, rfl⟩) (fun zv9 wm9 hq9 => ?_)
    obtain ⟨rfl, rfl⟩ := hq9
    refine JT_istore_n (lv' := [(3, .int (vX4_unscarredBearer s 31 5 a1 (1 : Int32))), (2, .int (vX4_unscarredBearer s 31 5 a1 (0 : Int32))), (0, .ref 2), (1, .int a1)]) dX11_witness_32 rfl (Nat.le_of_ble_eq_true rfl) rfl ?_
    refine JT_aload_n (q := 2) dX11_witness_33 rfl rfl ?_
    refine JS_getR (x := 5) dX11_witness_34 flX11_19 BS_2 (Nat.le_of_ble_eq_true rfl) (Nat.le_of_ble_eq_true rfl) (Or.inl ⟨_, ct_11_1⟩) RF_2_1 ?_
    refine JS_getR (x := 11) dX11_witness_37 flX11_208 BS_5 (Nat.le_of_ble_eq_true rfl) (Nat.le_of_ble_eq_true rfl) (Or.inr ⟨_, ct_6_5⟩) RF_5_5 ?_
    refine JT_aload_n (q := 2) dX11_witness_40 rfl rfl ?_
    refine JS_getR (x := 31) dX11_witness_41 flX11_41 BS_2 (Nat.le_of_ble_eq_true rfl) (Nat.le_of_ble_eq_true rfl) (Or.inl ⟨_, ct_11_5⟩) RF_2_5 ?_
    refine JS_getR (x := 35) dX11_witness_44 flX11_223 BS_31 (Nat.le_of_ble_eq_true rfl) (Nat.le_of_ble_eq_true rfl) (Or.inr ⟨_, ct_4_3⟩) RF_31_3 ?_
    refine JT_iload_n (q := 3) dX11_witness_47 rfl rfl ?_
    obtain ⟨o1, h⟩ := h
    refine JS_iald dX11_witness_48 BS_35 (Nat.le_of_ble_eq_true rfl) (Nat.le_of_ble_eq_true rfl) o1 ?_
    obtain ⟨o2, h⟩ := h
    refine JS_iald dX11_witness_49 BS_11 (Nat.le_of_ble_eq_true rfl) (Nat.le_of_ble_eq_true rfl) o2 ?_
    refine JT_iconst (v := 4) dX11_witness_50 ic_4 ?_
    refine JT_icmp_ne (tgt := 76) dX11_witness_51 (by decide) (fun hc8 => ?_) (fun hc8 => ?_)
    · have h := h.1 hc8
      refine JT_iload_n (q := 1) dX11_witness_76 rfl rfl ?_
      refine JT_iconst (v := -1) dX11_witness_77 ic_m1 ?_
      refine JT_icmp_eq (tgt := 86) dX11_witness_78 (by decide) (fun hc4 => ?_) (fun hc4 => ?_)
      · have h := h.1 hc4
        exact JT_sub [2, 3, 1, 0] rfl h
      · have h := h.2 hc4
        refine JT_iload_n (q := 0) dX11_witness_81 rfl rfl ?_
        refine JT_iconst (v := -1) dX11_witness_82 ic_m1 ?_
        refine JT_icmp_ne (tgt := 113) dX11_witness_83 (by decide) (fun hc3 => ?_) (fun hc3 => ?_)
        · have h := h.1 hc3
          refine JT_iconst (v := 1) dX11_witness_113 ic_1 ?_
          refine JT_iload_n (q := 1) dX11_witness_114 rfl rfl ?_
          refine JT_iload_n (q := 0) dX11_witness_115 rfl rfl ?_
          refine JT_mmin (d2 := 1) dX11_witness_116 mlX11_422 (Nat.le_of_ble_eq_true rfl) rfl ?_
          refine JT_ishl dX11_witness_119 ?_
          exact JS_iret dX11_witness_120 rfl rfl h
        · have h := h.2 hc3
          exact JT_sub [2, 3, 1, 0] rfl h
    · have h := h.2 hc8
      refine JT_iload_n (q := 1) dX11_witness_54 rfl rfl ?_
      refine JT_iconst (v := -1) dX11_witness_55 ic_m1 ?_
      have hj5 : ∀ v : Int32, v = (if (vX4_unscarredBearer s 31 5 a1 (0 : Int32)) = (-1 : Int32) then (-1 : Int32) else (if (vX4_unscarredBearer s 31 5 a1 (1 : Int32)) = (-1 : Int32) then (-1 : Int32) else (((1 : Int32) <<< ((vX4_unscarredBearer s 31 5 a1 (0 : Int32)) &&& 31)) ||| ((1 : Int32) <<< ((vX4_unscarredBearer s 31 5 a1 (1 : Int32)) &&& 31))))) → JT MX11_witness 2 0 0 75 [(3, .int (vX4_unscarredBearer s 31 5 a1 (1 : Int32))), (2, .int (vX4_unscarredBearer s 31 5 a1 (0 : Int32))), (0, .ref 2), (1, .int a1)] [.int v] (std s) (KQ Q) := by
        intro v hv
        subst hv
        exact JS_iret dX11_witness_75 rfl rfl h
      refine JT_icmp_eq (tgt := 64) dX11_witness_56 (by decide) (fun hc6 => ?_) (fun hc6 => ?_)
      · refine JT_iconst (v := -1) dX11_witness_64 ic_m1 ?_
        refine JT_goto (tgt := 75) dX11_witness_65 (by decide) ?_
        exact hj5 _ (by rw [if_pos hc6])
      · refine JT_iload_n (q := 0) dX11_witness_59 rfl rfl ?_
        refine JT_iconst (v := -1) dX11_witness_60 ic_m1 ?_
        refine JT_icmp_ne (tgt := 68) dX11_witness_61 (by decide) (fun hc7 => ?_) (fun hc7 => ?_)
        · refine JT_iconst (v := 1) dX11_witness_68 ic_1 ?_
          refine JT_iload_n (q := 1) dX11_witness_69 rfl rfl ?_
          refine JT_ishl dX11_witness_70 ?_
          refine JT_iconst (v := 1) dX11_witness_71 ic_1 ?_
          refine JT_iload_n (q := 0) dX11_witness_72 rfl rfl ?_
          refine JT_ishl dX11_witness_73 ?_
          refine JT_ior dX11_witness_74 ?_
          exact hj5 _ (by rw [if_neg hc6, if_neg hc7])
        · refine JT_iconst (v := -1) dX11_witness_64 ic_m1 ?_
          refine JT_goto (tgt := 75) dX11_witness_65 (by decide) ?_
          exact hj5 _ (by rw [if_neg hc6, if_pos hc7])
  · have h := h.2 hc11
    refine JT_iconst (v := -1) dX11_witness_11 ic_m1 ?_
    exact JS_iret dX11_witness_12 rfl rfl h
set_option maxRecDepth 1000000 in
theorem gX11_witness  : ∀ n : Nat, (∀ (a1 : Int32) (a2 : Int32) (a3 : Int32) (s : SM) (Q : Int32 → SM → Prop), ((qX11_witness n) s a1 a2 a3) → Q ((lX11_witness n) s a1 a2 a3) s → BI MX11_witness 2 86 [(0, .ref 2), (1, .int a1), (2, .int a2), (3, .int a3)] s Q) := by
  intro n
  induction n with
  | zero => exact fun _ _ _ _ _ hq _ => absurd hq id
  | succ n ih =>
    intro a1 a2 a3 s Q hr h
    replace hr : uX11_witness_86 (qX11_witness n) s a1 a2 a3 := hr
    replace h : Q (tX11_witness_86 (lX11_witness n) s a1 a2 a3) s := h
    unfold uX11_witness_86 at hr
    unfold tX11_witness_86 at h
    refine bX11_witness_86 a1 a2 a3 ?_
    first | exact h | contradiction
set_option maxRecDepth 1000000 in
theorem pX11_witness (a1 : Int32) {s : SM} {Q : Int32 → SM → Prop} (hr : rX11_witness s a1) (h : Q (vX11_witness s a1) s) : KI MX11_witness 2 [.ref 2, .int a1] s Q := by
  replace h : Q (fX11_witness s a1) s := h
  unfold rX11_witness at hr
  unfold fX11_witness at h
  refine bX11_witness a1 ?_
  refine ⟨fun c => ?_, fun c => ?_⟩
  · replace hr := hr c
    replace h := qln c h
    refine ⟨hr.1, ?_⟩
    replace hr := hr.2
    refine ⟨hr.1, ?_⟩
    replace hr := hr.2
    refine ⟨hr.1, ?_⟩
    replace hr := hr.2
    refine ⟨hr.1, ?_⟩
    replace hr := hr.2
    refine ⟨fun c => ?_, fun c => ?_⟩
    · replace hr := hr c
      replace h := qln c h
      refine ⟨fun c => ?_, fun c => ?_⟩
      · replace hr := hr.1 c
        replace h := qlp c h
        first | exact (gX11_witness  FU) a1 (vX4_unscarredBearer s 31 5 a1 (0 : Int32)) (vX4_unscarredBearer s 31 5 a1 (1 : Int32)) _ Q hr h | contradiction
      · replace hr := hr.2 c
        replace h := qln c h
        refine ⟨fun c => ?_, fun c => ?_⟩
        · replace h := qln c h
          first | exact h | contradiction
        · replace hr := hr c
          replace h := qlp c h
          first | exact (gX11_witness  FU) a1 (vX4_unscarredBearer s 31 5 a1 (0 : Int32)) (vX4_unscarredBearer s 31 5 a1 (1 : Int32)) _ Q hr h | contradiction
    · replace h := qlp c h
      first | exact h | contradiction
  · replace h := qlp c h
    first | exact h | contradiction
set_option maxRecDepth 1000000 in
theorem bX12_aged (a1 : Int32) (a2 : Int32) {s : SM} {Q : Int32 → SM → Prop} (h : (((vX12_isBody (pI s 248 0 (0 : Int32)) a1) = 0 → Q (-1 : Int32) (pI s 248 0 (0 : Int32))) ∧ (¬ (vX12_isBody (pI s 248 0 (0 : Int32)) a1) = 0 → (((vX12_isIn (pI s 248 0 (0 : Int32)) a2 (0 : Int32) (99 : Int32)) = 0 → Q (-1 : Int32) (pI s 248 0 (0 : Int32))) ∧ (¬ (vX12_isIn (pI s 248 0 (0 : Int32)) a2 (0 : Int32) (99 : Int32)) = 0 → rX12_marksOn (pI s 248 0 (0 : Int32)) a1 a2 ∧ Q (vX12_marksOn (pI s 248 0 (0 : Int32)) a1 a2) (pI s 248 0 (0 : Int32))))))) : KI MX12_aged 2 [.ref 248, .int a1, .int a2] s Q := by
  show BI MX12_aged 2 0 [(0, .ref 248), (1, .int a1), (2, .int a2)] s Q
  refine JT_aload_n (q := 0) dX12_aged_0 rfl rfl ?_
  refine JT_iconst (v := 0) dX12_aged_1 ic_0 ?_
  refine JS_putI dX12_aged_2 flX12_1 BS_248 (Nat.le_of_ble_eq_true rfl) (Nat.le_of_ble_eq_true rfl) ct_12_0 ?_
  refine JT_aload_n (q := 0) dX12_aged_5 rfl rfl ?_
  refine JT_iload_n (q := 1) dX12_aged_6 rfl rfl ?_
  refine JS_callVI (M' := MX12_isBody) (d' := 1) (As := [.int a1]) (rest := []) (P := (fun zv9 wm9 => (vX12_isBody (pI s 248 0 (0 : Int32)) a1) = zv9 ∧ (pI s 248 0 (0 : Int32)) = wm9)) dX12_aged_7 cvX12_287 okX12_isBody rfl (Nat.le_of_ble_eq_true rfl) BS_248 (Nat.le_of_ble_eq_true rfl) (Nat.le_of_ble_eq_true rfl) hci_12 (Nat.le_of_ble_eq_true rfl) (Nat.le_of_ble_eq_true rfl) (pX12_isBody  (a1)  ⟨rfl, rfl⟩) (fun zv9 wm9 hq9 => ?_)
  obtain ⟨rfl, rfl⟩ := hq9
  refine JT_if_eq (tgt := 32) dX12_aged_10 (by decide) (fun hc4 => ?_) (fun hc4 => ?_)
  · have h := h.1 hc4
    refine JT_iconst (v := -1) dX12_aged_32 ic_m1 ?_
    exact JS_iret dX12_aged_33 rfl rfl h
  · have h := h.2 hc4
    refine JT_iload_n (q := 2) dX12_aged_13 rfl rfl ?_
    refine JT_iconst (v := 0) dX12_aged_14 ic_0 ?_
    refine JT_bipush (v := 99) dX12_aged_15 bp_99 ?_
    refine JS_callSI (M' := MX12_isIn) (d' := 0) (As := [.int a2, .int (0 : Int32), .int (99 : Int32)]) (rest := []) (P := (fun zv9 wm9 => (vX12_isIn (pI s 248 0 (0 : Int32)) a2 (0 : Int32) (99 : Int32)) = zv9 ∧ (pI s 248 0 (0 : Int32)) = wm9)) dX12_aged_17 cvX12_202 okX12_isIn rfl (Nat.le_of_ble_eq_true rfl) (Nat.le_of_ble_eq_true rfl) (Nat.le_of_ble_eq_true rfl) (pX12_isIn  (a2) ((0 : Int32)) ((99 : Int32))  ⟨rfl, rfl⟩) (fun zv9 wm9 hq9 => ?_)
    obtain ⟨rfl, rfl⟩ := hq9
    refine JT_if_eq (tgt := 32) dX12_aged_20 (by decide) (fun hc2 => ?_) (fun hc2 => ?_)
    · have h := h.1 hc2
      refine JT_iconst (v := -1) dX12_aged_32 ic_m1 ?_
      exact JS_iret dX12_aged_33 rfl rfl h
    · have h := h.2 hc2
      refine JT_aload_n (q := 0) dX12_aged_23 rfl rfl ?_
      refine JT_iload_n (q := 1) dX12_aged_24 rfl rfl ?_
      refine JT_iload_n (q := 2) dX12_aged_25 rfl rfl ?_
      obtain ⟨o1, h⟩ := h
      refine JS_callVI (M' := MX12_marksOn) (d' := 1) (As := [.int a1, .int a2]) (rest := []) (P := (fun zv9 wm9 => (vX12_marksOn (pI s 248 0 (0 : Int32)) a1 a2) = zv9 ∧ (pI s 248 0 (0 : Int32)) = wm9)) dX12_aged_26 cvX12_303 okX12_marksOn rfl (Nat.le_of_ble_eq_true rfl) BS_248 (Nat.le_of_ble_eq_true rfl) (Nat.le_of_ble_eq_true rfl) hci_12 (Nat.le_of_ble_eq_true rfl) (Nat.le_of_ble_eq_true rfl) (pX12_marksOn  (a1) (a2) o1 ⟨rfl, rfl⟩) (fun zv9 wm9 hq9 => ?_)
      obtain ⟨rfl, rfl⟩ := hq9
      refine JT_goto (tgt := 33) dX12_aged_29 (by decide) ?_
      exact JS_iret dX12_aged_33 rfl rfl h
set_option maxRecDepth 1000000 in
theorem pX12_aged (a1 : Int32) (a2 : Int32) {s : SM} {Q : Int32 → SM → Prop} (hr : rX12_aged s a1 a2) (h : Q (vX12_aged s a1 a2) (mX12_aged s a1 a2)) : KI MX12_aged 2 [.ref 248, .int a1, .int a2] s Q := by
  refine bX12_aged a1 a2 ?_
  unfold rX12_aged at hr
  unfold vX12_aged mX12_aged at h
  refine ⟨fun c => ?_, fun c => ?_⟩
  · replace h := qlp c h
    first | exact h | contradiction
  · replace hr := hr c
    replace h := qln c h
    refine ⟨fun c => ?_, fun c => ?_⟩
    · replace h := qlp c h
      first | exact h | contradiction
    · replace hr := hr c
      replace h := qln c h
      refine ⟨hr, ?_⟩
      first | exact h | contradiction
set_option maxRecDepth 1000000 in
theorem bX12_dotOf (a1 : Int32) {s : SM} {Q : Int32 → SM → Prop} (h : rX12_sizeOf s a1 ∧ (((vX12_sizeOf s a1) ≤ (gI s 250 ((3 : Int32)).toNatClampNeg) → rX12_sizeOf s a1 ∧ Q (vX12_sizeOf s a1) s) ∧ (¬ (vX12_sizeOf s a1) ≤ (gI s 250 ((3 : Int32)).toNatClampNeg) → Q (gI s 250 ((3 : Int32)).toNatClampNeg) s))) : KI MX12_dotOf 2 [.ref 248, .int a1] s Q := by
  show BI MX12_dotOf 2 0 [(0, .ref 248), (1, .int a1)] s Q
  refine JT_aload_n (q := 0) dX12_dotOf_0 rfl rfl ?_
  refine JS_getR (x := 250) dX12_dotOf_1 flX12_33 BS_248 (Nat.le_of_ble_eq_true rfl) (Nat.le_of_ble_eq_true rfl) (Or.inr ⟨_, ct_12_6⟩) RF_248_6 ?_
  refine JT_iconst (v := 3) dX12_dotOf_4 ic_3 ?_
  refine JS_iald dX12_dotOf_5 BS_250 (Nat.le_of_ble_eq_true rfl) (Nat.le_of_ble_eq_true rfl) (by unfold vp_in; decide) ?_
  refine JT_aload_n (q := 0) dX12_dotOf_6 rfl rfl ?_
  refine JT_iload_n (q := 1) dX12_dotOf_7 rfl rfl ?_
  obtain ⟨o3, h⟩ := h
  refine JS_callVI (M' := MX12_sizeOf) (d' := 1) (As := [.int a1]) (rest := [.int (gI s 250 ((3 : Int32)).toNatClampNeg)]) (P := (fun zv9 wm9 => (vX12_sizeOf s a1) = zv9 ∧ s = wm9)) dX12_dotOf_8 cvX12_268 okX12_sizeOf rfl (Nat.le_of_ble_eq_true rfl) BS_248 (Nat.le_of_ble_eq_true rfl) (Nat.le_of_ble_eq_true rfl) hci_12 (Nat.le_of_ble_eq_true rfl) (Nat.le_of_ble_eq_true rfl) (pX12_sizeOf  (a1) o3 ⟨rfl, rfl⟩) (fun zv9 wm9 hq9 => ?_)
  obtain ⟨rfl, rfl⟩ := hq9
  refine JT_icmp_ge (tgt := 23) dX12_dotOf_11 (by decide) (fun hc2 => ?_) (fun hc2 => ?_)
  · have h := h.1 hc2
    refine JT_aload_n (q := 0) dX12_dotOf_23 rfl rfl ?_
    refine JT_iload_n (q := 1) dX12_dotOf_24 rfl rfl ?_
    obtain ⟨o1, h⟩ := h
    refine JS_callVI (M' := MX12_sizeOf) (d' := 1) (As := [.int a1]) (rest := []) (P := (fun zv9 wm9 => (vX12_sizeOf s a1) = zv9 ∧ s = wm9)) dX12_dotOf_25 cvX12_268 okX12_sizeOf rfl (Nat.le_of_ble_eq_true rfl) BS_248 (Nat.le_of_ble_eq_true rfl) (Nat.le_of_ble_eq_true rfl) hci_12 (Nat.le_of_ble_eq_true rfl) (Nat.le_of_ble_eq_true rfl) (pX12_sizeOf  (a1) o1 ⟨rfl, rfl⟩) (fun zv9 wm9 hq9 => ?_)
    obtain ⟨rfl, rfl⟩ := hq9
    exact JS_iret dX12_dotOf_28 rfl rfl h
  · have h := h.2 hc2
    refine JT_aload_n (q := 0) dX12_dotOf_14 rfl rfl ?_
    refine JS_getR (x := 250) dX12_dotOf_15 flX12_33 BS_248 (Nat.le_of_ble_eq_true rfl) (Nat.le_of_ble_eq_true rfl) (Or.inr ⟨_, ct_12_6⟩) RF_248_6 ?_
    refine JT_iconst (v := 3) dX12_dotOf_18 ic_3 ?_
    refine JS_iald dX12_dotOf_19 BS_250 (Nat.le_of_ble_eq_true rfl) (Nat.le_of_ble_eq_true rfl) (by unfold vp_in; decide) ?_
    refine JT_goto (tgt := 28) dX12_dotOf_20 (by decide) ?_
    exact JS_iret dX12_dotOf_28 rfl rfl h
set_option maxRecDepth 1000000 in
theorem pX12_dotOf (a1 : Int32) {s : SM} {Q : Int32 → SM → Prop} (hr : rX12_dotOf s a1) (h : Q (vX12_dotOf s a1) s) : KI MX12_dotOf 2 [.ref 248, .int a1] s Q := by
  refine bX12_dotOf a1 ?_
  unfold rX12_dotOf at hr
  unfold vX12_dotOf at h
  refine ⟨hr.1, ?_⟩
  replace hr := hr.2
  refine ⟨fun c => ?_, fun c => ?_⟩
  · replace hr := hr c
    replace h := qlp c h
    refine ⟨hr, ?_⟩
    first | exact h | contradiction
  · replace h := qln c h
    first | exact h | contradiction
set_option maxRecDepth 1000000 in
theorem bX12_fresh (a1 : Int32) {s : SM} {Q : Int32 → SM → Prop} (h : rX12_isName s  ∧ ((¬ (vX12_isName s ) = 0 → rX12_find s (15 : Int32) (gI s 251 ((0 : Int32)).toNatClampNeg) ∧ ((0 ≤ (vX12_find s (15 : Int32) (gI s 251 ((0 : Int32)).toNatClampNeg)) → Q (vX12_bad s (3 : Int32)) (mX12_bad s (3 : Int32))) ∧ (¬ 0 ≤ (vX12_find s (15 : Int32) (gI s 251 ((0 : Int32)).toNatClampNeg)) → rX12_find s (24 : Int32) (gI s 251 ((1 : Int32)).toNatClampNeg) ∧ (((vX12_find s (24 : Int32) (gI s 251 ((1 : Int32)).toNatClampNeg)) < 0 → vp_in a1 30 ∧ rX12_next (pL s 253 (a1).toNatClampNeg (gL s 248 17))  ∧ Q (1 : Int32) (mX12_next (pL s 253 (a1).toNatClampNeg (gL s 248 17)) )) ∧ (¬ (vX12_find s (24 : Int32) (gI s 251 ((1 : Int32)).toNatClampNeg)) < 0 → Q (vX12_bad s (3 : Int32)) (mX12_bad s (3 : Int32))))))) ∧ ((vX12_isName s ) = 0 → Q (vX12_bad s (1 : Int32)) (mX12_bad s (1 : Int32))))) : KI MX12_fresh 2 [.ref 248, .int a1] s Q := by
  show BI MX12_fresh 2 0 [(0, .ref 248), (1, .int a1)] s Q
  refine JT_aload_n (q := 0) dX12_fresh_0 rfl rfl ?_
  obtain ⟨o11, h⟩ := h
  refine JS_callVI (M' := MX12_isName) (d' := 0) (As := []) (rest := []) (P := (fun zv9 wm9 => (vX12_isName s ) = zv9 ∧ s = wm9)) dX12_fresh_1 cvX12_209 okX12_isName rfl (Nat.le_of_ble_eq_true rfl) BS_248 (Nat.le_of_ble_eq_true rfl) (Nat.le_of_ble_eq_true rfl) hci_12 (Nat.le_of_ble_eq_true rfl) (Nat.le_of_ble_eq_true rfl) (pX12_isName   o11 ⟨rfl, rfl⟩) (fun zv9 wm9 hq9 => ?_)
  obtain ⟨rfl, rfl⟩ := hq9
  refine JT_if_ne (tgt := 13) dX12_fresh_4 (by decide) (fun hc10 => ?_) (fun hc10 => ?_)
  · have h := h.1 hc10
    refine JT_aload_n (q := 0) dX12_fresh_13 rfl rfl ?_
    refine JT_bipush (v := 15) dX12_fresh_14 bp_15 ?_
    refine JT_aload_n (q := 0) dX12_fresh_16 rfl rfl ?_
    refine JS_getR (x := 251) dX12_fresh_17 flX12_37 BS_248 (Nat.le_of_ble_eq_true rfl) (Nat.le_of_ble_eq_true rfl) (Or.inr ⟨_, ct_12_7⟩) RF_248_7 ?_
    refine JT_iconst (v := 0) dX12_fresh_20 ic_0 ?_
    refine JS_iald dX12_fresh_21 BS_251 (Nat.le_of_ble_eq_true rfl) (Nat.le_of_ble_eq_true rfl) (by unfold vp_in; decide) ?_
    obtain ⟨o8, h⟩ := h
    refine JS_callVI (M' := MX12_find) (d' := 0) (As := [.int (15 : Int32), .int (gI s 251 ((0 : Int32)).toNatClampNeg)]) (rest := []) (P := (fun zv9 wm9 => (vX12_find s (15 : Int32) (gI s 251 ((0 : Int32)).toNatClampNeg)) = zv9 ∧ s = wm9)) dX12_fresh_22 cvX12_213 okX12_find rfl (Nat.le_of_ble_eq_true rfl) BS_248 (Nat.le_of_ble_eq_true rfl) (Nat.le_of_ble_eq_true rfl) hci_12 (Nat.le_of_ble_eq_true rfl) (Nat.le_of_ble_eq_true rfl) (pX12_find  ((15 : Int32)) ((gI s 251 ((0 : Int32)).toNatClampNeg)) o8 ⟨rfl, rfl⟩) (fun zv9 wm9 hq9 => ?_)
    obtain ⟨rfl, rfl⟩ := hq9
    refine JT_if_ge (tgt := 43) dX12_fresh_25 (by decide) (fun hc7 => ?_) (fun hc7 => ?_)
    · have h := h.1 hc7
      refine JT_aload_n (q := 0) dX12_fresh_43 rfl rfl ?_
      refine JT_iconst (v := 3) dX12_fresh_44 ic_3 ?_
      refine JS_callVI (M' := MX12_bad) (d' := 0) (As := [.int (3 : Int32)]) (rest := []) (P := (fun zv9 wm9 => (vX12_bad s (3 : Int32)) = zv9 ∧ (mX12_bad s (3 : Int32)) = wm9)) dX12_fresh_45 cvX12_196 okX12_bad rfl (Nat.le_of_ble_eq_true rfl) BS_248 (Nat.le_of_ble_eq_true rfl) (Nat.le_of_ble_eq_true rfl) hci_12 (Nat.le_of_ble_eq_true rfl) (Nat.le_of_ble_eq_true rfl) (pX12_bad  ((3 : Int32))  ⟨rfl, rfl⟩) (fun zv9 wm9 hq9 => ?_)
      obtain ⟨rfl, rfl⟩ := hq9
      exact JS_iret dX12_fresh_48 rfl (n01 (zX12_bad s (3 : Int32))) h
    · have h := h.2 hc7
      refine JT_aload_n (q := 0) dX12_fresh_28 rfl rfl ?_
      refine JT_bipush (v := 24) dX12_fresh_29 bp_24 ?_
      refine JT_aload_n (q := 0) dX12_fresh_31 rfl rfl ?_
      refine JS_getR (x := 251) dX12_fresh_32 flX12_37 BS_248 (Nat.le_of_ble_eq_true rfl) (Nat.le_of_ble_eq_true rfl) (Or.inr ⟨_, ct_12_7⟩) RF_248_7 ?_
      refine JT_iconst (v := 1) dX12_fresh_35 ic_1 ?_
      refine JS_iald dX12_fresh_36 BS_251 (Nat.le_of_ble_eq_true rfl) (Nat.le_of_ble_eq_true rfl) (by unfold vp_in; decide) ?_
      obtain ⟨o6, h⟩ := h
      refine JS_callVI (M' := MX12_find) (d' := 0) (As := [.int (24 : Int32), .int (gI s 251 ((1 : Int32)).toNatClampNeg)]) (rest := []) (P := (fun zv9 wm9 => (vX12_find s (24 : Int32) (gI s 251 ((1 : Int32)).toNatClampNeg)) = zv9 ∧ s = wm9)) dX12_fresh_37 cvX12_213 okX12_find rfl (Nat.le_of_ble_eq_true rfl) BS_248 (Nat.le_of_ble_eq_true rfl) (Nat.le_of_ble_eq_true rfl) hci_12 (Nat.le_of_ble_eq_true rfl) (Nat.le_of_ble_eq_true rfl) (pX12_find  ((24 : Int32)) ((gI s 251 ((1 : Int32)).toNatClampNeg)) o6 ⟨rfl, rfl⟩) (fun zv9 wm9 hq9 => ?_)
      obtain ⟨rfl, rfl⟩ := hq9
      refine JT_if_lt (tgt := 49) dX12_fresh_40 (by decide) (fun hc5 => ?_) (fun hc5 => ?_)
      · have h := h.1 hc5
        refine JT_aload_n (q := 0) dX12_fresh_49 rfl rfl ?_
        refine JS_getR (x := 253) dX12_fresh_50 flX12_43 BS_248 (Nat.le_of_ble_eq_true rfl) (Nat.le_of_ble_eq_true rfl) (Or.inr ⟨_, ct_12_9⟩) RF_248_9 ?_
        refine JT_iload_n (q := 1) dX12_fresh_53 rfl rfl ?_
        refine JT_aload_n (q := 0) dX12_fresh_54 rfl rfl ?_
        refine JS_getL dX12_fresh_55 flX12_183 BS_248 (Nat.le_of_ble_eq_true rfl) (Nat.le_of_ble_eq_true rfl) ct_12_17 ?_
        obtain ⟨o2, h⟩ := h
        refine JS_last dX12_fresh_58 BS_253 (Nat.le_of_ble_eq_true rfl) (Nat.le_of_ble_eq_true rfl) o2 ?_
        refine JT_aload_n (q := 0) dX12_fresh_59 rfl rfl ?_
        obtain ⟨o3, h⟩ := h
        refine JS_callVV (M' := MX12_next) (d' := 1) (As := []) (rest := []) (P := (fun wm9 => (mX12_next (pL s 253 (a1).toNatClampNeg (gL s 248 17)) ) = wm9)) dX12_fresh_60 cvX12_199 okX12_next rfl (Nat.le_of_ble_eq_true rfl) BS_248 (Nat.le_of_ble_eq_true rfl) (Nat.le_of_ble_eq_true rfl) hci_12 (Nat.le_of_ble_eq_true rfl) (Nat.le_of_ble_eq_true rfl) (pX12_next   o3 rfl) (fun wm9 hq9 => ?_)
        subst hq9
        refine JT_iconst (v := 1) dX12_fresh_63 ic_1 ?_
        exact JS_iret dX12_fresh_64 rfl (n01 (Or.inr rfl)) h
      · have h := h.2 hc5
        refine JT_aload_n (q := 0) dX12_fresh_43 rfl rfl ?_
        refine JT_iconst (v := 3) dX12_fresh_44 ic_3 ?_
        refine JS_callVI (M' := MX12_bad) (d' := 0) (As := [.int (3 : Int32)]) (rest := []) (P := (fun zv9 wm9 => (vX12_bad s (3 : Int32)) = zv9 ∧ (mX12_bad s (3 : Int32)) = wm9)) dX12_fresh_45 cvX12_196 okX12_bad rfl (Nat.le_of_ble_eq_true rfl) BS_248 (Nat.le_of_ble_eq_true rfl) (Nat.le_of_ble_eq_true rfl) hci_12 (Nat.le_of_ble_eq_true rfl) (Nat.le_of_ble_eq_true rfl) (pX12_bad  ((3 : Int32))  ⟨rfl, rfl⟩) (fun zv9 wm9 hq9 => ?_)
        obtain ⟨rfl, rfl⟩ := hq9
        exact JS_iret dX12_fresh_48 rfl (n01 (zX12_bad s (3 : Int32))) h
  · have h := h.2 hc10
    refine JT_aload_n (q := 0) dX12_fresh_7 rfl rfl ?_
    refine JT_iconst (v := 1) dX12_fresh_8 ic_1 ?_
    refine JS_callVI (M' := MX12_bad) (d' := 0) (As := [.int (1 : Int32)]) (rest := []) (P := (fun zv9 wm9 => (vX12_bad s (1 : Int32)) = zv9 ∧ (mX12_bad s (1 : Int32)) = wm9)) dX12_fresh_9 cvX12_196 okX12_bad rfl (Nat.le_of_ble_eq_true rfl) BS_248 (Nat.le_of_ble_eq_true rfl) (Nat.le_of_ble_eq_true rfl) hci_12 (Nat.le_of_ble_eq_true rfl) (Nat.le_of_ble_eq_true rfl) (pX12_bad  ((1 : Int32))  ⟨rfl, rfl⟩) (fun zv9 wm9 hq9 => ?_)
    obtain ⟨rfl, rfl⟩ := hq9
    exact JS_iret dX12_fresh_12 rfl (n01 (zX12_bad s (1 : Int32))) h
set_option maxRecDepth 1000000 in
theorem zX12_fresh (s : SM) (a1 : Int32) : vX12_fresh s a1 = 0 ∨ vX12_fresh s a1 = 1 := (i01 (zX12_bad s (1 : Int32)) (i01 (zX12_bad s (3 : Int32)) (i01 (Or.inr rfl) (zX12_bad s (3 : Int32)))))
set_option maxRecDepth 1000000 in
theorem pX12_fresh (a1 : Int32) {s : SM} {Q : Int32 → SM → Prop} (hr : rX12_fresh s a1) (h : Q (vX12_fresh s a1) (mX12_fresh s a1)) : KI MX12_fresh 2 [.ref 248, .int a1] s Q := by
  refine bX12_fresh a1 ?_
  unfold rX12_fresh at hr
  unfold vX12_fresh mX12_fresh at h
  refine ⟨hr.1, ?_⟩
  replace hr := hr.2
  refine ⟨fun c => ?_, fun c => ?_⟩
  · replace hr := hr c
    replace h := q2n c h
    refine ⟨hr.1, ?_⟩
    replace hr := hr.2
    refine ⟨fun c => ?_, fun c => ?_⟩
    · replace h := q2p c h
      first | exact h | contradiction
    · replace hr := hr c
      replace h := q2n c h
      refine ⟨hr.1, ?_⟩
      replace hr := hr.2
      refine ⟨fun c => ?_, fun c => ?_⟩
      · replace hr := hr c
        replace h := q2p c h
        refine ⟨hr.1, ?_⟩
        replace hr := hr.2
        refine ⟨hr, ?_⟩
        first | exact h | contradiction
      · replace h := q2n c h
        first | exact h | contradiction
  · replace h := q2p c h
    first | exact h | contradiction
set_option maxRecDepth 1000000 in
theorem bX12_isKnown (a1 : Int32) (a2 : Int32) {s : SM} {Q : Int32 → SM → Prop} (h : rX12_isRead s a1 (0 : Int32) a2 ∧ rX12_isRead s a1 (1 : Int32) a2 ∧ rX12_sortOf s a1 ∧ Q (if (vX12_sortOf s a1) = (4 : Int32) then (if (vX12_isRead s a1 (0 : Int32) a2) = 0 then (0 : Int32) else (if (vX12_isRead s a1 (1 : Int32) a2) = 0 then (0 : Int32) else (1 : Int32))) else (if (vX12_isRead s a1 (0 : Int32) a2) = 0 then (if (vX12_isRead s a1 (1 : Int32) a2) = 0 then (0 : Int32) else (1 : Int32)) else (1 : Int32))) s) : KI MX12_isKnown 2 [.ref 248, .int a1, .int a2] s Q := by
  show BI MX12_isKnown 2 0 [(0, .ref 248), (1, .int a1), (2, .int a2)] s Q
  refine JT_aload_n (q := 0) dX12_isKnown_0 rfl rfl ?_
  refine JT_iload_n (q := 1) dX12_isKnown_1 rfl rfl ?_
  refine JT_iconst (v := 0) dX12_isKnown_2 ic_0 ?_
  refine JT_iload_n (q := 2) dX12_isKnown_3 rfl rfl ?_
  obtain ⟨o9, h⟩ := h
  refine JS_callVI (M' := MX12_isRead) (d' := 1) (As := [.int a1, .int (0 : Int32), .int a2]) (rest := []) (P := (fun zv9 wm9 => (vX12_isRead s a1 (0 : Int32) a2) = zv9 ∧ s = wm9)) dX12_isKnown_4 cvX12_284 okX12_isRead rfl (Nat.le_of_ble_eq_true rfl) BS_248 (Nat.le_of_ble_eq_true rfl) (Nat.le_of_ble_eq_true rfl) hci_12 (Nat.le_of_ble_eq_true rfl) (Nat.le_of_ble_eq_true rfl) (pX12_isRead  (a1) ((0 : Int32)) (a2) o9 ⟨rfl, rfl⟩) (fun zv9 wm9 hq9 => ?_)
  obtain ⟨rfl, rfl⟩ := hq9
  refine JT_istore_n (lv' := [(3, .int (vX12_isRead s a1 (0 : Int32) a2)), (0, .ref 248), (1, .int a1), (2, .int a2)]) dX12_isKnown_7 rfl (Nat.le_of_ble_eq_true rfl) rfl ?_
  refine JT_aload_n (q := 1) dX12_isKnown_8 rfl rfl ?_
  refine JT_iload_n (q := 2) dX12_isKnown_9 rfl rfl ?_
  refine JT_iconst (v := 1) dX12_isKnown_10 ic_1 ?_
  refine JT_iload_n (q := 3) dX12_isKnown_11 rfl rfl ?_
  obtain ⟨o8, h⟩ := h
  refine JS_callVI (M' := MX12_isRead) (d' := 1) (As := [.int a1, .int (1 : Int32), .int a2]) (rest := []) (P := (fun zv9 wm9 => (vX12_isRead s a1 (1 : Int32) a2) = zv9 ∧ s = wm9)) dX12_isKnown_12 cvX12_284 okX12_isRead rfl (Nat.le_of_ble_eq_true rfl) BS_248 (Nat.le_of_ble_eq_true rfl) (Nat.le_of_ble_eq_true rfl) hci_12 (Nat.le_of_ble_eq_true rfl) (Nat.le_of_ble_eq_true rfl) (pX12_isRead  (a1) ((1 : Int32)) (a2) o8 ⟨rfl, rfl⟩) (fun zv9 wm9 hq9 => ?_)
  obtain ⟨rfl, rfl⟩ := hq9
  refine JT_istore (lv' := [(4, .int (vX12_isRead s a1 (1 : Int32) a2)), (3, .int (vX12_isRead s a1 (0 : Int32) a2)), (0, .ref 248), (1, .int a1), (2, .int a2)]) dX12_isKnown_15 (Nat.le_of_ble_eq_true rfl) rfl ?_
  refine JT_aload_n (q := 2) dX12_isKnown_17 rfl rfl ?_
  refine JT_iload_n (q := 3) dX12_isKnown_18 rfl rfl ?_
  obtain ⟨o7, h⟩ := h
  refine JS_callVI (M' := MX12_sortOf) (d' := 1) (As := [.int a1]) (rest := []) (P := (fun zv9 wm9 => (vX12_sortOf s a1) = zv9 ∧ s = wm9)) dX12_isKnown_19 cvX12_272 okX12_sortOf rfl (Nat.le_of_ble_eq_true rfl) BS_248 (Nat.le_of_ble_eq_true rfl) (Nat.le_of_ble_eq_true rfl) hci_12 (Nat.le_of_ble_eq_true rfl) (Nat.le_of_ble_eq_true rfl) (pX12_sortOf  (a1) o7 ⟨rfl, rfl⟩) (fun zv9 wm9 hq9 => ?_)
  obtain ⟨rfl, rfl⟩ := hq9
  refine JT_iconst (v := 4) dX12_isKnown_22 ic_4 ?_
  have hj1 : ∀ v : Int32, v = (if (vX12_sortOf s a1) = (4 : Int32) then (if (vX12_isRead s a1 (0 : Int32) a2) = 0 then (0 : Int32) else (if (vX12_isRead s a1 (1 : Int32) a2) = 0 then (0 : Int32) else (1 : Int32))) else (if (vX12_isRead s a1 (0 : Int32) a2) = 0 then (if (vX12_isRead s a1 (1 : Int32) a2) = 0 then (0 : Int32) else (1 : Int32)) else (1 : Int32))) → JT MX12_isKnown 2 0 0 57 [(4, .int (vX12_isRead s a1 (1 : Int32) a2)), (3, .int (vX12_isRead s a1 (0 : Int32) a2)), (0, .ref 248), (1, .int a1), (2, .int a2)] [.int v] (std s) (KQ Q) := by
    intro v hv
    subst hv
    exact JS_iret dX12_isKnown_57 rfl (n01 (i01 (i01 (Or.inl rfl) (i01 (Or.inl rfl) (Or.inr rfl))) (i01 (i01 (Or.inl rfl) (Or.inr rfl)) (Or.inr rfl)))) h
  refine JT_icmp_ne (tgt := 43) dX12_isKnown_23 (by decide) (fun hc2 => ?_) (fun hc2 => ?_)
  · refine JT_iload_n (q := 1) dX12_isKnown_43 rfl rfl ?_
    refine JT_if_ne (tgt := 52) dX12_isKnown_44 (by decide) (fun hc3 => ?_) (fun hc3 => ?_)
    · refine JT_iconst (v := 1) dX12_isKnown_52 ic_1 ?_
      refine JT_goto (tgt := 57) dX12_isKnown_53 (by decide) ?_
      exact hj1 _ (by rw [if_neg hc2, if_neg hc3])
    · refine JT_iload (q := 0) dX12_isKnown_47 rfl ?_
      refine JT_if_eq (tgt := 56) dX12_isKnown_49 (by decide) (fun hc4 => ?_) (fun hc4 => ?_)
      · refine JT_iconst (v := 0) dX12_isKnown_56 ic_0 ?_
        exact hj1 _ (by rw [if_neg hc2, if_pos hc3, if_pos hc4])
      · refine JT_iconst (v := 1) dX12_isKnown_52 ic_1 ?_
        refine JT_goto (tgt := 57) dX12_isKnown_53 (by decide) ?_
        exact hj1 _ (by rw [if_neg hc2, if_pos hc3, if_neg hc4])
  · refine JT_iload_n (q := 1) dX12_isKnown_26 rfl rfl ?_
    refine JT_if_eq (tgt := 39) dX12_isKnown_27 (by decide) (fun hc5 => ?_) (fun hc5 => ?_)
    · refine JT_iconst (v := 0) dX12_isKnown_39 ic_0 ?_
      refine JT_goto (tgt := 57) dX12_isKnown_40 (by decide) ?_
      exact hj1 _ (by rw [if_pos hc2, if_pos hc5])
    · refine JT_iload (q := 0) dX12_isKnown_30 rfl ?_
      refine JT_if_eq (tgt := 39) dX12_isKnown_32 (by decide) (fun hc6 => ?_) (fun hc6 => ?_)
      · refine JT_iconst (v := 0) dX12_isKnown_39 ic_0 ?_
        refine JT_goto (tgt := 57) dX12_isKnown_40 (by decide) ?_
        exact hj1 _ (by rw [if_pos hc2, if_neg hc5, if_pos hc6])
      · refine JT_iconst (v := 1) dX12_isKnown_35 ic_1 ?_
        refine JT_goto (tgt := 57) dX12_isKnown_36 (by decide) ?_
        exact hj1 _ (by rw [if_pos hc2, if_neg hc5, if_neg hc6])
set_option maxRecDepth 1000000 in
theorem zX12_isKnown (s : SM) (a1 : Int32) (a2 : Int32) : vX12_isKnown s a1 a2 = 0 ∨ vX12_isKnown s a1 a2 = 1 := (i01 (i01 (Or.inl rfl) (i01 (Or.inl rfl) (Or.inr rfl))) (i01 (i01 (Or.inl rfl) (Or.inr rfl)) (Or.inr rfl)))
set_option maxRecDepth 1000000 in
theorem pX12_isKnown (a1 : Int32) (a2 : Int32) {s : SM} {Q : Int32 → SM → Prop} (hr : rX12_isKnown s a1 a2) (h : Q (vX12_isKnown s a1 a2) s) : KI MX12_isKnown 2 [.ref 248, .int a1, .int a2] s Q := by
  refine bX12_isKnown a1 a2 ?_
  unfold rX12_isKnown at hr
  unfold vX12_isKnown at h
  refine ⟨hr.1, ?_⟩
  replace hr := hr.2
  refine ⟨hr.1, ?_⟩
  replace hr := hr.2
  refine ⟨hr, ?_⟩
  first | exact h | contradiction
set_option maxRecDepth 1000000 in
theorem bX12_isOpen (a1 : Int32) {s : SM} {Q : Int32 → SM → Prop} (h : (((vX12_isDeal s a1) = 0 → Q (0 : Int32) s) ∧ (¬ (vX12_isDeal s a1) = 0 → rX12_of s a1 (5 : Int32) ∧ Q (if (vX12_of s a1 (5 : Int32)) = 0 then (1 : Int32) else (0 : Int32)) s))) : KI MX12_isOpen 2 [.ref 248, .int a1] s Q := by
  show BI MX12_isOpen 2 0 [(0, .ref 248), (1, .int a1)] s Q
  refine JT_aload_n (q := 0) dX12_isOpen_0 rfl rfl ?_
  refine JT_iload_n (q := 1) dX12_isOpen_1 rfl rfl ?_
  refine JS_callVI (M' := MX12_isDeal) (d' := 1) (As := [.int a1]) (rest := []) (P := (fun zv9 wm9 => (vX12_isDeal s a1) = zv9 ∧ s = wm9)) dX12_isOpen_2 cvX12_262 okX12_isDeal rfl (Nat.le_of_ble_eq_true rfl) BS_248 (Nat.le_of_ble_eq_true rfl) (Nat.le_of_ble_eq_true rfl) hci_12 (Nat.le_of_ble_eq_true rfl) (Nat.le_of_ble_eq_true rfl) (pX12_isDeal  (a1)  ⟨rfl, rfl⟩) (fun zv9 wm9 hq9 => ?_)
  obtain ⟨rfl, rfl⟩ := hq9
  refine JT_if_eq (tgt := 21) dX12_isOpen_5 (by decide) (fun hc4 => ?_) (fun hc4 => ?_)
  · have h := h.1 hc4
    refine JT_iconst (v := 0) dX12_isOpen_21 ic_0 ?_
    exact JS_iret dX12_isOpen_22 rfl (n01 (Or.inl rfl)) h
  · have h := h.2 hc4
    refine JT_aload_n (q := 0) dX12_isOpen_8 rfl rfl ?_
    refine JT_iload_n (q := 1) dX12_isOpen_9 rfl rfl ?_
    refine JT_iconst (v := 5) dX12_isOpen_10 ic_5 ?_
    obtain ⟨o3, h⟩ := h
    refine JS_callVI (M' := MX12_of) (d' := 0) (As := [.int a1, .int (5 : Int32)]) (rest := []) (P := (fun zv9 wm9 => (vX12_of s a1 (5 : Int32)) = zv9 ∧ s = wm9)) dX12_isOpen_11 cvX12_265 okX12_of rfl (Nat.le_of_ble_eq_true rfl) BS_248 (Nat.le_of_ble_eq_true rfl) (Nat.le_of_ble_eq_true rfl) hci_12 (Nat.le_of_ble_eq_true rfl) (Nat.le_of_ble_eq_true rfl) (pX12_of  (a1) ((5 : Int32)) o3 ⟨rfl, rfl⟩) (fun zv9 wm9 hq9 => ?_)
    obtain ⟨rfl, rfl⟩ := hq9
    have hj1 : ∀ v : Int32, v = (if (vX12_of s a1 (5 : Int32)) = 0 then (1 : Int32) else (0 : Int32)) → JT MX12_isOpen 2 0 0 22 [(0, .ref 248), (1, .int a1)] [.int v] (std s) (KQ Q) := by
      intro v hv
      subst hv
      exact JS_iret dX12_isOpen_22 rfl (n01 (i01 (Or.inr rfl) (Or.inl rfl))) h
    refine JT_if_ne (tgt := 21) dX12_isOpen_14 (by decide) (fun hc2 => ?_) (fun hc2 => ?_)
    · refine JT_iconst (v := 0) dX12_isOpen_21 ic_0 ?_
      exact hj1 _ (by rw [if_neg hc2])
    · refine JT_iconst (v := 1) dX12_isOpen_17 ic_1 ?_
      refine JT_goto (tgt := 22) dX12_isOpen_18 (by decide) ?_
      exact hj1 _ (by rw [if_pos hc2])
set_option maxRecDepth 1000000 in
theorem zX12_isOpen (s : SM) (a1 : Int32) : vX12_isOpen s a1 = 0 ∨ vX12_isOpen s a1 = 1 := (i01 (Or.inl rfl) (i01 (Or.inr rfl) (Or.inl rfl)))
set_option maxRecDepth 1000000 in
theorem pX12_isOpen (a1 : Int32) {s : SM} {Q : Int32 → SM → Prop} (hr : rX12_isOpen s a1) (h : Q (vX12_isOpen s a1) s) : KI MX12_isOpen 2 [.ref 248, .int a1] s Q := by
  refine bX12_isOpen a1 ?_
  unfold rX12_isOpen at hr
  unfold vX12_isOpen at h
  refine ⟨fun c => ?_, fun c => ?_⟩
  · replace h := qlp c h
    first | exact h | contradiction
  · replace hr := hr c
    replace h := qln c h
    refine ⟨hr, ?_⟩
    first | exact h | contradiction
set_option maxRecDepth 1000000 in
theorem bX12_kind (a1 : Int32) (a2 : Int32) {s : SM} {Q : Int32 → SM → Prop} (h : (((vX12_isKind s a1) = 0 → rX12_throwsIf s (1 : Int32) ∧ (((vX12_throwsIf s (1 : Int32)) = 0 → vp_in ((if a2 = 0 then (22 : Int32) else (28 : Int32)) + a1) 787 ∧ Q (gI (mX12_throwsIf s (1 : Int32)) 250 (((if a2 = 0 then (22 : Int32) else (28 : Int32)) + a1)).toNatClampNeg) (mX12_throwsIf s (1 : Int32))) ∧ (¬ (vX12_throwsIf s (1 : Int32)) = 0 → Q (0 : Int32) (mX12_throwsIf s (1 : Int32))))) ∧ (¬ (vX12_isKind s a1) = 0 → rX12_throwsIf s (if (vX12_isIn s a2 (0 : Int32) (1 : Int32)) = 0 then (1 : Int32) else (0 : Int32)) ∧ (((vX12_throwsIf s (if (vX12_isIn s a2 (0 : Int32) (1 : Int32)) = 0 then (1 : Int32) else (0 : Int32))) = 0 → vp_in ((if a2 = 0 then (22 : Int32) else (28 : Int32)) + a1) 787 ∧ Q (gI (mX12_throwsIf s (if (vX12_isIn s a2 (0 : Int32) (1 : Int32)) = 0 then (1 : Int32) else (0 : Int32))) 250 (((if a2 = 0 then (22 : Int32) else (28 : Int32)) + a1)).toNatClampNeg) (mX12_throwsIf s (if (vX12_isIn s a2 (0 : Int32) (1 : Int32)) = 0 then (1 : Int32) else (0 : Int32)))) ∧ (¬ (vX12_throwsIf s (if (vX12_isIn s a2 (0 : Int32) (1 : Int32)) = 0 then (1 : Int32) else (0 : Int32))) = 0 → Q (0 : Int32) (mX12_throwsIf s (if (vX12_isIn s a2 (0 : Int32) (1 : Int32)) = 0 then (1 : Int32) else (0 : Int32)))))))) : KI MX12_kind 2 [.ref 248, .int a1, .int a2] s Q := by
  show BI MX12_kind 2 0 [(0, .ref 248), (1, .int a1), (2, .int a2)] s Q
  refine JT_aload_n (q := 0) dX12_kind_0 rfl rfl ?_
  refine JT_aload_n (q := 0) dX12_kind_1 rfl rfl ?_
  refine JT_iload_n (q := 1) dX12_kind_2 rfl rfl ?_
  refine JS_callVI (M' := MX12_isKind) (d' := 1) (As := [.int a1]) (rest := [.ref 248]) (P := (fun zv9 wm9 => (vX12_isKind s a1) = zv9 ∧ s = wm9)) dX12_kind_3 cvX12_306 okX12_isKind rfl (Nat.le_of_ble_eq_true rfl) BS_248 (Nat.le_of_ble_eq_true rfl) (Nat.le_of_ble_eq_true rfl) hci_12 (Nat.le_of_ble_eq_true rfl) (Nat.le_of_ble_eq_true rfl) (pX12_isKind  (a1)  ⟨rfl, rfl⟩) (fun zv9 wm9 hq9 => ?_)
  obtain ⟨rfl, rfl⟩ := hq9
  refine JT_if_eq (tgt := 18) dX12_kind_6 (by decide) (fun hc14 => ?_) (fun hc14 => ?_)
  · have h := h.1 hc14
    refine JT_iconst (v := 1) dX12_kind_18 ic_1 ?_
    refine JT_goto (tgt := 23) dX12_kind_19 (by decide) ?_
    obtain ⟨o5, h⟩ := h
    refine JS_callVI (M' := MX12_throwsIf) (d' := 0) (As := [.int (1 : Int32)]) (rest := []) (P := (fun zv9 wm9 => (vX12_throwsIf s (1 : Int32)) = zv9 ∧ (mX12_throwsIf s (1 : Int32)) = wm9)) dX12_kind_23 cvX12_290 okX12_throwsIf rfl (Nat.le_of_ble_eq_true rfl) BS_248 (Nat.le_of_ble_eq_true rfl) (Nat.le_of_ble_eq_true rfl) hci_12 (Nat.le_of_ble_eq_true rfl) (Nat.le_of_ble_eq_true rfl) (pX12_throwsIf  ((1 : Int32)) o5 ⟨rfl, rfl⟩) (fun zv9 wm9 hq9 => ?_)
    obtain ⟨rfl, rfl⟩ := hq9
    refine JT_if_eq (tgt := 33) dX12_kind_26 (by decide) (fun hc4 => ?_) (fun hc4 => ?_)
    · have h := h.1 hc4
      refine JT_aload_n (q := 0) dX12_kind_33 rfl rfl ?_
      refine JS_getR (x := 250) dX12_kind_34 flX12_33 BS_248 (Nat.le_of_ble_eq_true rfl) (Nat.le_of_ble_eq_true rfl) (Or.inr ⟨_, ct_12_6⟩) RF_248_6 ?_
      refine JT_iload_n (q := 2) dX12_kind_37 rfl rfl ?_
      have hj2 : ∀ v : Int32, v = (if a2 = 0 then (22 : Int32) else (28 : Int32)) → JT MX12_kind 2 0 0 48 [(0, .ref 248), (1, .int a1), (2, .int a2)] [.int v, .ref 250] (std (mX12_throwsIf s (1 : Int32))) (KQ Q) := by
        intro v hv
        subst hv
        refine JT_iload_n (q := 1) dX12_kind_48 rfl rfl ?_
        refine JT_iadd dX12_kind_49 ?_
        obtain ⟨o1, h⟩ := h
        refine JS_iald dX12_kind_50 BS_250 (Nat.le_of_ble_eq_true rfl) (Nat.le_of_ble_eq_true rfl) o1 ?_
        exact JS_iret dX12_kind_51 rfl rfl h
      refine JT_if_ne (tgt := 46) dX12_kind_38 (by decide) (fun hc3 => ?_) (fun hc3 => ?_)
      · refine JT_bipush (v := 28) dX12_kind_46 bp_28 ?_
        exact hj2 _ (by rw [if_neg hc3])
      · refine JT_bipush (v := 22) dX12_kind_41 bp_22 ?_
        refine JT_goto (tgt := 48) dX12_kind_43 (by decide) ?_
        exact hj2 _ (by rw [if_pos hc3])
    · have h := h.2 hc4
      refine JT_iconst (v := 0) dX12_kind_29 ic_0 ?_
      refine JT_goto (tgt := 51) dX12_kind_30 (by decide) ?_
      exact JS_iret dX12_kind_51 rfl rfl h
  · have h := h.2 hc14
    refine JT_iload_n (q := 2) dX12_kind_9 rfl rfl ?_
    refine JT_iconst (v := 0) dX12_kind_10 ic_0 ?_
    refine JT_iconst (v := 1) dX12_kind_11 ic_1 ?_
    refine JS_callSI (M' := MX12_isIn) (d' := 0) (As := [.int a2, .int (0 : Int32), .int (1 : Int32)]) (rest := [.ref 248]) (P := (fun zv9 wm9 => (vX12_isIn s a2 (0 : Int32) (1 : Int32)) = zv9 ∧ s = wm9)) dX12_kind_12 cvX12_202 okX12_isIn rfl (Nat.le_of_ble_eq_true rfl) (Nat.le_of_ble_eq_true rfl) (Nat.le_of_ble_eq_true rfl) (pX12_isIn  (a2) ((0 : Int32)) ((1 : Int32))  ⟨rfl, rfl⟩) (fun zv9 wm9 hq9 => ?_)
    obtain ⟨rfl, rfl⟩ := hq9
    have hj11 : ∀ v : Int32, v = (if (vX12_isIn s a2 (0 : Int32) (1 : Int32)) = 0 then (1 : Int32) else (0 : Int32)) → JT MX12_kind 2 0 0 23 [(0, .ref 248), (1, .int a1), (2, .int a2)] [.int v, .ref 248] (std s) (KQ Q) := by
      intro v hv
      subst hv
      obtain ⟨o10, h⟩ := h
      refine JS_callVI (M' := MX12_throwsIf) (d' := 0) (As := [.int (if (vX12_isIn s a2 (0 : Int32) (1 : Int32)) = 0 then (1 : Int32) else (0 : Int32))]) (rest := []) (P := (fun zv9 wm9 => (vX12_throwsIf s (if (vX12_isIn s a2 (0 : Int32) (1 : Int32)) = 0 then (1 : Int32) else (0 : Int32))) = zv9 ∧ (mX12_throwsIf s (if (vX12_isIn s a2 (0 : Int32) (1 : Int32)) = 0 then (1 : Int32) else (0 : Int32))) = wm9)) dX12_kind_23 cvX12_290 okX12_throwsIf rfl (Nat.le_of_ble_eq_true rfl) BS_248 (Nat.le_of_ble_eq_true rfl) (Nat.le_of_ble_eq_true rfl) hci_12 (Nat.le_of_ble_eq_true rfl) (Nat.le_of_ble_eq_true rfl) (pX12_throwsIf  ((if (vX12_isIn s a2 (0 : Int32) (1 : Int32)) = 0 then (1 : Int32) else (0 : Int32))) o10 ⟨rfl, rfl⟩) (fun zv9 wm9 hq9 => ?_)
      obtain ⟨rfl, rfl⟩ := hq9
      refine JT_if_eq (tgt := 33) dX12_kind_26 (by decide) (fun hc9 => ?_) (fun hc9 => ?_)
      · have h := h.1 hc9
        refine JT_aload_n (q := 0) dX12_kind_33 rfl rfl ?_
        refine JS_getR (x := 250) dX12_kind_34 flX12_33 BS_248 (Nat.le_of_ble_eq_true rfl) (Nat.le_of_ble_eq_true rfl) (Or.inr ⟨_, ct_12_6⟩) RF_248_6 ?_
        refine JT_iload_n (q := 2) dX12_kind_37 rfl rfl ?_
        have hj7 : ∀ v : Int32, v = (if a2 = 0 then (22 : Int32) else (28 : Int32)) → JT MX12_kind 2 0 0 48 [(0, .ref 248), (1, .int a1), (2, .int a2)] [.int v, .ref 250] (std (mX12_throwsIf s (if (vX12_isIn s a2 (0 : Int32) (1 : Int32)) = 0 then (1 : Int32) else (0 : Int32)))) (KQ Q) := by
          intro v hv
          subst hv
          refine JT_iload_n (q := 1) dX12_kind_48 rfl rfl ?_
          refine JT_iadd dX12_kind_49 ?_
          obtain ⟨o6, h⟩ := h
          refine JS_iald dX12_kind_50 BS_250 (Nat.le_of_ble_eq_true rfl) (Nat.le_of_ble_eq_true rfl) o6 ?_
          exact JS_iret dX12_kind_51 rfl rfl h
        refine JT_if_ne (tgt := 46) dX12_kind_38 (by decide) (fun hc8 => ?_) (fun hc8 => ?_)
        · refine JT_bipush (v := 28) dX12_kind_46 bp_28 ?_
          exact hj7 _ (by rw [if_neg hc8])
        · refine JT_bipush (v := 22) dX12_kind_41 bp_22 ?_
          refine JT_goto (tgt := 48) dX12_kind_43 (by decide) ?_
          exact hj7 _ (by rw [if_pos hc8])
      · have h := h.2 hc9
        refine JT_iconst (v := 0) dX12_kind_29 ic_0 ?_
        refine JT_goto (tgt := 51) dX12_kind_30 (by decide) ?_
        exact JS_iret dX12_kind_51 rfl rfl h
    refine JT_if_ne (tgt := 22) dX12_kind_15 (by decide) (fun hc12 => ?_) (fun hc12 => ?_)
    · refine JT_iconst (v := 0) dX12_kind_22 ic_0 ?_
      exact hj11 _ (by rw [if_neg hc12])
    · refine JT_iconst (v := 1) dX12_kind_18 ic_1 ?_
      refine JT_goto (tgt := 23) dX12_kind_19 (by decide) ?_
      exact hj11 _ (by rw [if_pos hc12])
set_option maxRecDepth 1000000 in
theorem pX12_kind (a1 : Int32) (a2 : Int32) {s : SM} {Q : Int32 → SM → Prop} (hr : rX12_kind s a1 a2) (h : Q (vX12_kind s a1 a2) (mX12_kind s a1 a2)) : KI MX12_kind 2 [.ref 248, .int a1, .int a2] s Q := by
  refine bX12_kind a1 a2 ?_
  unfold rX12_kind at hr
  unfold vX12_kind mX12_kind at h
  refine ⟨fun c => ?_, fun c => ?_⟩
  · replace hr := hr.1 c
    replace h := q2p c h
    refine ⟨hr.1, ?_⟩
    replace hr := hr.2
    refine ⟨fun c => ?_, fun c => ?_⟩
    · replace hr := hr c
      replace h := qlp c h
      refine ⟨hr, ?_⟩
      first | exact h | contradiction
    · replace h := qln c h
      first | exact h | contradiction
  · replace hr := hr.2 c
    replace h := q2n c h
    refine ⟨hr.1, ?_⟩
    replace hr := hr.2
    refine ⟨fun c => ?_, fun c => ?_⟩
    · replace hr := hr c
      replace h := qlp c h
      refine ⟨hr, ?_⟩
      first | exact h | contradiction
    · replace h := qln c h
      first | exact h | contradiction
set_option maxRecDepth 1000000 in
theorem bX12_leftOf_21 (a1 : Int32) (a2 : Int32) (a3 : Int32) {s : SM} {Q : Int32 → SM → Prop} (h : (((gI s 250 ((34 : Int32)).toNatClampNeg) ≤ a3 → Q a2 s) ∧ (¬ (gI s 250 ((34 : Int32)).toNatClampNeg) ≤ a3 → BI MX12_leftOf 2 35 [(0, .ref 248), (1, .int a1), (2, .int a2), (3, .int a3), (4, .int (0 : Int32))] s Q))) : BI MX12_leftOf 2 21 [(0, .ref 248), (1, .int a1), (2, .int a2), (3, .int a3)] s Q := by
  refine JT_iload_n (q := 3) dX12_leftOf_21 rfl rfl ?_
  refine JT_aload_n (q := 0) dX12_leftOf_22 rfl rfl ?_
  refine JS_getR (x := 250) dX12_leftOf_23 flX12_33 BS_248 (Nat.le_of_ble_eq_true rfl) (Nat.le_of_ble_eq_true rfl) (Or.inr ⟨_, ct_12_6⟩) RF_248_6 ?_
  refine JT_bipush (v := 34) dX12_leftOf_26 bp_34 ?_
  refine JS_iald dX12_leftOf_28 BS_250 (Nat.le_of_ble_eq_true rfl) (Nat.le_of_ble_eq_true rfl) (by unfold vp_in; decide) ?_
  refine JT_icmp_ge (tgt := 75) dX12_leftOf_29 (by decide) (fun hc1 => ?_) (fun hc1 => ?_)
  · have h := h.1 hc1
    refine JT_iload_n (q := 2) dX12_leftOf_75 rfl rfl ?_
    exact JS_iret dX12_leftOf_76 rfl rfl h
  · have h := h.2 hc1
    refine JT_iconst (v := 0) dX12_leftOf_32 ic_0 ?_
    refine JT_istore (lv' := [(4, .int (0 : Int32)), (0, .ref 248), (1, .int a1), (2, .int a2), (3, .int a3)]) dX12_leftOf_33 (Nat.le_of_ble_eq_true rfl) rfl ?_
    exact JT_sub [1, 2, 3, 4, 0] rfl h
set_option maxRecDepth 1000000 in
theorem bX12_leftOf_35 (a1 : Int32) (a2 : Int32) (a3 : Int32) (a4 : Int32) {s : SM} {Q : Int32 → SM → Prop} (h : (((2 : Int32) ≤ a4 → BI MX12_leftOf 2 21 [(0, .ref 248), (1, .int a1), (2, .int a2), (3, .int (a3 + 1))] s Q) ∧ (¬ (2 : Int32) ≤ a4 → rX12_of s a3 ((6 : Int32) + a4) ∧ ((¬ (vX12_of s a3 ((6 : Int32) + a4)) = a1 → BI MX12_leftOf 2 35 [(0, .ref 248), (1, .int a1), (2, .int a2), (3, .int a3), (4, .int (a4 + 1))] s Q) ∧ ((vX12_of s a3 ((6 : Int32) + a4)) = a1 → rX12_sizeOf s a3 ∧ BI MX12_leftOf 2 35 [(0, .ref 248), (1, .int a1), (2, .int (a2 - (vX12_sizeOf s a3))), (3, .int a3), (4, .int (a4 + 1))] s Q))))) : BI MX12_leftOf 2 35 [(0, .ref 248), (1, .int a1), (2, .int a2), (3, .int a3), (4, .int a4)] s Q := by
  refine JT_iload (q := 4) dX12_leftOf_35 rfl ?_
  refine JT_iconst (v := 2) dX12_leftOf_37 ic_2 ?_
  refine JT_icmp_ge (tgt := 69) dX12_leftOf_38 (by decide) (fun hc4 => ?_) (fun hc4 => ?_)
  · have h := h.1 hc4
    refine JT_iinc (q := 3) (v := (a3 + 1)) (lv' := [(3, .int (a3 + 1)), (0, .ref 248), (1, .int a1), (2, .int a2), (4, .int a4)]) dX12_leftOf_69 rfl (by rfl) (Nat.le_of_ble_eq_true rfl) rfl ?_
    refine JT_goto (tgt := 21) dX12_leftOf_72 (by decide) ?_
    exact JT_sub [1, 2, 3, 0] rfl h
  · have h := h.2 hc4
    refine JT_aload_n (q := 0) dX12_leftOf_41 rfl rfl ?_
    refine JT_iload_n (q := 3) dX12_leftOf_42 rfl rfl ?_
    refine JT_bipush (v := 6) dX12_leftOf_43 bp_6 ?_
    refine JT_iload (q := 4) dX12_leftOf_45 rfl ?_
    refine JT_iadd dX12_leftOf_47 ?_
    obtain ⟨o3, h⟩ := h
    refine JS_callVI (M' := MX12_of) (d' := 0) (As := [.int a3, .int ((6 : Int32) + a4)]) (rest := []) (P := (fun zv9 wm9 => (vX12_of s a3 ((6 : Int32) + a4)) = zv9 ∧ s = wm9)) dX12_leftOf_48 cvX12_265 okX12_of rfl (Nat.le_of_ble_eq_true rfl) BS_248 (Nat.le_of_ble_eq_true rfl) (Nat.le_of_ble_eq_true rfl) hci_12 (Nat.le_of_ble_eq_true rfl) (Nat.le_of_ble_eq_true rfl) (pX12_of  (a3) (((6 : Int32) + a4)) o3 ⟨rfl, rfl⟩) (fun zv9 wm9 hq9 => ?_)
    obtain ⟨rfl, rfl⟩ := hq9
    refine JT_iload_n (q := 1) dX12_leftOf_51 rfl rfl ?_
    refine JT_icmp_ne (tgt := 63) dX12_leftOf_52 (by decide) (fun hc2 => ?_) (fun hc2 => ?_)
    · have h := h.1 hc2
      refine JT_iinc (q := 4) (v := (a4 + 1)) (lv' := [(4, .int (a4 + 1)), (0, .ref 248), (1, .int a1), (2, .int a2), (3, .int a3)]) dX12_leftOf_63 rfl (by rfl) (Nat.le_of_ble_eq_true rfl) rfl ?_
      refine JT_goto (tgt := 35) dX12_leftOf_66 (by decide) ?_
      exact JT_sub [1, 2, 3, 4, 0] rfl h
    · have h := h.2 hc2
      refine JT_iload_n (q := 2) dX12_leftOf_55 rfl rfl ?_
      refine JT_aload_n (q := 0) dX12_leftOf_56 rfl rfl ?_
      refine JT_iload_n (q := 3) dX12_leftOf_57 rfl rfl ?_
      obtain ⟨o1, h⟩ := h
      refine JS_callVI (M' := MX12_sizeOf) (d' := 1) (As := [.int a3]) (rest := [.int a2]) (P := (fun zv9 wm9 => (vX12_sizeOf s a3) = zv9 ∧ s = wm9)) dX12_leftOf_58 cvX12_268 okX12_sizeOf rfl (Nat.le_of_ble_eq_true rfl) BS_248 (Nat.le_of_ble_eq_true rfl) (Nat.le_of_ble_eq_true rfl) hci_12 (Nat.le_of_ble_eq_true rfl) (Nat.le_of_ble_eq_true rfl) (pX12_sizeOf  (a3) o1 ⟨rfl, rfl⟩) (fun zv9 wm9 hq9 => ?_)
      obtain ⟨rfl, rfl⟩ := hq9
      refine JT_isub dX12_leftOf_61 ?_
      refine JT_istore_n (lv' := [(2, .int (a2 - (vX12_sizeOf s a3))), (0, .ref 248), (1, .int a1), (3, .int a3), (4, .int a4)]) dX12_leftOf_62 rfl (Nat.le_of_ble_eq_true rfl) rfl ?_
      refine JT_iinc (q := 4) (v := (a4 + 1)) (lv' := [(4, .int (a4 + 1)), (2, .int (a2 - (vX12_sizeOf s a3))), (0, .ref 248), (1, .int a1), (3, .int a3)]) dX12_leftOf_63 rfl (by rfl) (Nat.le_of_ble_eq_true rfl) rfl ?_
      refine JT_goto (tgt := 35) dX12_leftOf_66 (by decide) ?_
      exact JT_sub [2, 3, 1, 4, 0] rfl h
set_option maxRecDepth 1000000 in
theorem bX12_leftOf (a1 : Int32) {s : SM} {Q : Int32 → SM → Prop} (h : vp_in ((4 : Int32) + a1) 787 ∧ vp_in ((37 : Int32) + a1) 787 ∧ BI MX12_leftOf 2 21 [(0, .ref 248), (1, .int a1), (2, .int ((gI s 250 (((4 : Int32) + a1)).toNatClampNeg) - (gI s 250 (((37 : Int32) + a1)).toNatClampNeg))), (3, .int (0 : Int32))] s Q) : KI MX12_leftOf 2 [.ref 248, .int a1] s Q := by
  show BI MX12_leftOf 2 0 [(0, .ref 248), (1, .int a1)] s Q
  refine JT_aload_n (q := 0) dX12_leftOf_0 rfl rfl ?_
  refine JS_getR (x := 250) dX12_leftOf_1 flX12_33 BS_248 (Nat.le_of_ble_eq_true rfl) (Nat.le_of_ble_eq_true rfl) (Or.inr ⟨_, ct_12_6⟩) RF_248_6 ?_
  refine JT_iconst (v := 4) dX12_leftOf_4 ic_4 ?_
  refine JT_iload_n (q := 1) dX12_leftOf_5 rfl rfl ?_
  refine JT_iadd dX12_leftOf_6 ?_
  obtain ⟨o1, h⟩ := h
  refine JS_iald dX12_leftOf_7 BS_250 (Nat.le_of_ble_eq_true rfl) (Nat.le_of_ble_eq_true rfl) o1 ?_
  refine JT_aload_n (q := 0) dX12_leftOf_8 rfl rfl ?_
  refine JS_getR (x := 250) dX12_leftOf_9 flX12_33 BS_248 (Nat.le_of_ble_eq_true rfl) (Nat.le_of_ble_eq_true rfl) (Or.inr ⟨_, ct_12_6⟩) RF_248_6 ?_
  refine JT_bipush (v := 37) dX12_leftOf_12 bp_37 ?_
  refine JT_iload_n (q := 1) dX12_leftOf_14 rfl rfl ?_
  refine JT_iadd dX12_leftOf_15 ?_
  obtain ⟨o2, h⟩ := h
  refine JS_iald dX12_leftOf_16 BS_250 (Nat.le_of_ble_eq_true rfl) (Nat.le_of_ble_eq_true rfl) o2 ?_
  refine JT_isub dX12_leftOf_17 ?_
  refine JT_istore_n (lv' := [(2, .int ((gI s 250 (((4 : Int32) + a1)).toNatClampNeg) - (gI s 250 (((37 : Int32) + a1)).toNatClampNeg))), (0, .ref 248), (1, .int a1)]) dX12_leftOf_18 rfl (Nat.le_of_ble_eq_true rfl) rfl ?_
  refine JT_iconst (v := 0) dX12_leftOf_19 ic_0 ?_
  refine JT_istore_n (lv' := [(3, .int (0 : Int32)), (2, .int ((gI s 250 (((4 : Int32) + a1)).toNatClampNeg) - (gI s 250 (((37 : Int32) + a1)).toNatClampNeg))), (0, .ref 248), (1, .int a1)]) dX12_leftOf_20 rfl (Nat.le_of_ble_eq_true rfl) rfl ?_
  exact JT_sub [2, 3, 1, 0] rfl h
set_option maxRecDepth 1000000 in
theorem gX12_leftOf  : ∀ n : Nat, (∀ (a1 : Int32) (a2 : Int32) (a3 : Int32) (s : SM) (Q : Int32 → SM → Prop), ((qX12_leftOf n).1 s a1 a2 a3) → Q ((lX12_leftOf n).1 s a1 a2 a3) s → BI MX12_leftOf 2 21 [(0, .ref 248), (1, .int a1), (2, .int a2), (3, .int a3)] s Q) ∧ (∀ (a1 : Int32) (a2 : Int32) (a3 : Int32) (a4 : Int32) (s : SM) (Q : Int32 → SM → Prop), ((qX12_leftOf n).2 s a1 a2 a3 a4) → Q ((lX12_leftOf n).2 s a1 a2 a3 a4) s → BI MX12_leftOf 2 35 [(0, .ref 248), (1, .int a1), (2, .int a2), (3, .int a3), (4, .int a4)] s Q) := by
  intro n
  induction n with
  | zero => exact ⟨fun _ _ _ _ _ hq _ => absurd hq id, fun _ _ _ _ _ _ hq _ => absurd hq id⟩
  | succ n ih =>
    refine ⟨?_, ?_⟩
    · intro a1 a2 a3 s Q hr h
      replace hr : uX12_leftOf_21 (qX12_leftOf n) s a1 a2 a3 := hr
      replace h : Q (tX12_leftOf_21 (lX12_leftOf n) s a1 a2 a3) s := h
      unfold uX12_leftOf_21 at hr
      unfold tX12_leftOf_21 at h
      refine bX12_leftOf_21 a1 a2 a3 ?_
      refine ⟨fun c => ?_, fun c => ?_⟩
      · replace h := qlp c h
        first | exact h | contradiction
      · replace hr := hr c
        replace h := qln c h
        first | exact ih.2 a1 a2 a3 (0 : Int32) _ Q hr h | contradiction
    · intro a1 a2 a3 a4 s Q hr h
      replace hr : uX12_leftOf_35 (qX12_leftOf n) s a1 a2 a3 a4 := hr
      replace h : Q (tX12_leftOf_35 (lX12_leftOf n) s a1 a2 a3 a4) s := h
      unfold uX12_leftOf_35 at hr
      unfold tX12_leftOf_35 at h
      refine bX12_leftOf_35 a1 a2 a3 a4 ?_
      refine ⟨fun c => ?_, fun c => ?_⟩
      · replace hr := hr.1 c
        replace h := qlp c h
        first | exact ih.1 a1 a2 (a3 + 1) _ Q hr h | contradiction
      · replace hr := hr.2 c
        replace h := qln c h
        refine ⟨hr.1, ?_⟩
        replace hr := hr.2
        refine ⟨fun c => ?_, fun c => ?_⟩
        · replace hr := hr.1 c
          replace h := qln c h
          first | exact ih.2 a1 a2 a3 (a4 + 1) _ Q hr h | contradiction
        · replace hr := hr.2 c
          replace h := qlp c h
          refine ⟨hr.1, ?_⟩
          replace hr := hr.2
          first | exact ih.2 a1 (a2 - (vX12_sizeOf s a3)) a3 (a4 + 1) _ Q hr h | contradiction
set_option maxRecDepth 1000000 in
theorem pX12_leftOf (a1 : Int32) {s : SM} {Q : Int32 → SM → Prop} (hr : rX12_leftOf s a1) (h : Q (vX12_leftOf s a1) s) : KI MX12_leftOf 2 [.ref 248, .int a1] s Q := by
  replace h : Q (fX12_leftOf s a1) s := h
  unfold rX12_leftOf at hr
  unfold fX12_leftOf at h
  refine bX12_leftOf a1 ?_
  refine ⟨hr.1, ?_⟩
  replace hr := hr.2
  refine ⟨hr.1, ?_⟩
  replace hr := hr.2
  first | exact (gX12_leftOf  FU).1 a1 ((gI s 250 (((4 : Int32) + a1)).toNatClampNeg) - (gI s 250 (((37 : Int32) + a1)).toNatClampNeg)) (0 : Int32) _ Q hr h | contradiction
set_option maxRecDepth 1000000 in
theorem bX12_mark (a1 : Int32) (a2 : Int32) {s : SM} {Q : Int32 → SM → Prop} (h : (((vX12_isBody (pI s 248 0 (0 : Int32)) a1) = 0 → Q (-1 : Int32) (pI s 248 0 (0 : Int32))) ∧ (¬ (vX12_isBody (pI s 248 0 (0 : Int32)) a1) = 0 → ((a2 < (-1 : Int32) → Q (-1 : Int32) (pI s 248 0 (0 : Int32))) ∧ (¬ a2 < (-1 : Int32) → rX12_markOf (pI s 248 0 (0 : Int32)) a1 a2 ∧ Q (vX12_markOf (pI s 248 0 (0 : Int32)) a1 a2) (pI s 248 0 (0 : Int32))))))) : KI MX12_mark 2 [.ref 248, .int a1, .int a2] s Q := by
  show BI MX12_mark 2 0 [(0, .ref 248), (1, .int a1), (2, .int a2)] s Q
  refine JT_aload_n (q := 0) dX12_mark_0 rfl rfl ?_
  refine JT_iconst (v := 0) dX12_mark_1 ic_0 ?_
  refine JS_putI dX12_mark_2 flX12_1 BS_248 (Nat.le_of_ble_eq_true rfl) (Nat.le_of_ble_eq_true rfl) ct_12_0 ?_
  refine JT_aload_n (q := 0) dX12_mark_5 rfl rfl ?_
  refine JT_iload_n (q := 1) dX12_mark_6 rfl rfl ?_
  refine JS_callVI (M' := MX12_isBody) (d' := 1) (As := [.int a1]) (rest := []) (P := (fun zv9 wm9 => (vX12_isBody (pI s 248 0 (0 : Int32)) a1) = zv9 ∧ (pI s 248 0 (0 : Int32)) = wm9)) dX12_mark_7 cvX12_287 okX12_isBody rfl (Nat.le_of_ble_eq_true rfl) BS_248 (Nat.le_of_ble_eq_true rfl) (Nat.le_of_ble_eq_true rfl) hci_12 (Nat.le_of_ble_eq_true rfl) (Nat.le_of_ble_eq_true rfl) (pX12_isBody  (a1)  ⟨rfl, rfl⟩) (fun zv9 wm9 hq9 => ?_)
  obtain ⟨rfl, rfl⟩ := hq9
  refine JT_if_eq (tgt := 27) dX12_mark_10 (by decide) (fun hc3 => ?_) (fun hc3 => ?_)
  · have h := h.1 hc3
    refine JT_iconst (v := -1) dX12_mark_27 ic_m1 ?_
    exact JS_iret dX12_mark_28 rfl rfl h
  · have h := h.2 hc3
    refine JT_iload_n (q := 2) dX12_mark_13 rfl rfl ?_
    refine JT_iconst (v := -1) dX12_mark_14 ic_m1 ?_
    refine JT_icmp_lt (tgt := 27) dX12_mark_15 (by decide) (fun hc2 => ?_) (fun hc2 => ?_)
    · have h := h.1 hc2
      refine JT_iconst (v := -1) dX12_mark_27 ic_m1 ?_
      exact JS_iret dX12_mark_28 rfl rfl h
    · have h := h.2 hc2
      refine JT_aload_n (q := 0) dX12_mark_18 rfl rfl ?_
      refine JT_iload_n (q := 1) dX12_mark_19 rfl rfl ?_
      refine JT_iload_n (q := 2) dX12_mark_20 rfl rfl ?_
      obtain ⟨o1, h⟩ := h
      refine JS_callVI (M' := MX12_markOf) (d' := 1) (As := [.int a1, .int a2]) (rest := []) (P := (fun zv9 wm9 => (vX12_markOf (pI s 248 0 (0 : Int32)) a1 a2) = zv9 ∧ (pI s 248 0 (0 : Int32)) = wm9)) dX12_mark_21 cvX12_315 okX12_markOf rfl (Nat.le_of_ble_eq_true rfl) BS_248 (Nat.le_of_ble_eq_true rfl) (Nat.le_of_ble_eq_true rfl) hci_12 (Nat.le_of_ble_eq_true rfl) (Nat.le_of_ble_eq_true rfl) (pX12_markOf  (a1) (a2) o1 ⟨rfl, rfl⟩) (fun zv9 wm9 hq9 => ?_)
      obtain ⟨rfl, rfl⟩ := hq9
      refine JT_goto (tgt := 28) dX12_mark_24 (by decide) ?_
      exact JS_iret dX12_mark_28 rfl rfl h
set_option maxRecDepth 1000000 in
theorem pX12_mark (a1 : Int32) (a2 : Int32) {s : SM} {Q : Int32 → SM → Prop} (hr : rX12_mark s a1 a2) (h : Q (vX12_mark s a1 a2) (mX12_mark s a1 a2)) : KI MX12_mark 2 [.ref 248, .int a1, .int a2] s Q := by
  refine bX12_mark a1 a2 ?_
  unfold rX12_mark at hr
  unfold vX12_mark mX12_mark at h
  refine ⟨fun c => ?_, fun c => ?_⟩
  · replace h := qlp c h
    first | exact h | contradiction
  · replace hr := hr c
    replace h := qln c h
    refine ⟨fun c => ?_, fun c => ?_⟩
    · replace h := qlp c h
      first | exact h | contradiction
    · replace hr := hr c
      replace h := qln c h
      refine ⟨hr, ?_⟩
      first | exact h | contradiction
set_option maxRecDepth 1000000 in
theorem bX12_packs (a1 : Int32) {s : SM} {Q : Int32 → SM → Prop} (h : vp_in ((3 : Int32) * a1) 18 ∧ vp_in (((3 : Int32) * a1) + (1 : Int32)) 18 ∧ vp_in (((3 : Int32) * a1) + (2 : Int32)) 18 ∧ vp_in ((22 : Int32) + (gI s 264 ((((3 : Int32) * a1) + (2 : Int32))).toNatClampNeg)) 787 ∧ (((gI s 264 (((3 : Int32) * a1)).toNatClampNeg) = (gI s 264 ((((3 : Int32) * a1) + (1 : Int32))).toNatClampNeg) → Q (0 : Int32) s) ∧ (¬ (gI s 264 (((3 : Int32) * a1)).toNatClampNeg) = (gI s 264 ((((3 : Int32) * a1) + (1 : Int32))).toNatClampNeg) → (((vX12_isLiving s (gI s 264 (((3 : Int32) * a1)).toNatClampNeg)) = 0 → Q (0 : Int32) s) ∧ (¬ (vX12_isLiving s (gI s 264 (((3 : Int32) * a1)).toNatClampNeg)) = 0 → ((¬ (vX12_isLiving s (gI s 264 ((((3 : Int32) * a1) + (1 : Int32))).toNatClampNeg)) = 0 → vp_in a1 6 ∧ ((¬ ((gI s 266 (a1).toNatClampNeg) - (gI s 266 (a1).toNatClampNeg) / (2 : Int32) * (2 : Int32)) = 0 → vp_in ((13 : Int32) + (gI s 264 (((3 : Int32) * a1)).toNatClampNeg)) 787 ∧ vp_in a1 6 ∧ (((2 : Int32) ≤ (gI s 266 (a1).toNatClampNeg) → vp_in ((13 : Int32) + (gI s 264 ((((3 : Int32) * a1) + (1 : Int32))).toNatClampNeg)) 787 ∧ (((gI s 250 (((13 : Int32) + (gI s 264 (((3 : Int32) * a1)).toNatClampNeg))).toNatClampNeg) < 0 → Q (0 : Int32) s) ∧ (¬ (gI s 250 (((13 : Int32) + (gI s 264 (((3 : Int32) * a1)).toNatClampNeg))).toNatClampNeg) < 0 → (((gI s 250 (((13 : Int32) + (gI s 264 ((((3 : Int32) * a1) + (1 : Int32))).toNatClampNeg))).toNatClampNeg) < 0 → Q (0 : Int32) s) ∧ (¬ (gI s 250 (((13 : Int32) + (gI s 264 ((((3 : Int32) * a1) + (1 : Int32))).toNatClampNeg))).toNatClampNeg) < 0 → (((vX12_isLiving s (gI s 250 (((13 : Int32) + (gI s 264 (((3 : Int32) * a1)).toNatClampNeg))).toNatClampNeg)) = 0 → Q (0 : Int32) s) ∧ (¬ (vX12_isLiving s (gI s 250 (((13 : Int32) + (gI s 264 (((3 : Int32) * a1)).toNatClampNeg))).toNatClampNeg)) = 0 → ((¬ (vX12_isLiving s (gI s 250 (((13 : Int32) + (gI s 264 ((((3 : Int32) * a1) + (1 : Int32))).toNatClampNeg))).toNatClampNeg)) = 0 → vp_in (gI s 250 (((13 : Int32) + (gI s 264 (((3 : Int32) * a1)).toNatClampNeg))).toNatClampNeg) 9 ∧ vp_in (gI s 250 (((13 : Int32) + (gI s 264 (((3 : Int32) * a1)).toNatClampNeg))).toNatClampNeg) 9 ∧ (∀ s11, s11 = (pI s 269 ((gI s 250 (((13 : Int32) + (gI s 264 (((3 : Int32) * a1)).toNatClampNeg))).toNatClampNeg)).toNatClampNeg ((gI s 269 ((gI s 250 (((13 : Int32) + (gI s 264 (((3 : Int32) * a1)).toNatClampNeg))).toNatClampNeg)).toNatClampNeg) - (gI s 250 (((22 : Int32) + (gI s 264 ((((3 : Int32) * a1) + (2 : Int32))).toNatClampNeg))).toNatClampNeg))) → vp_in (gI s 250 (((13 : Int32) + (gI s 264 ((((3 : Int32) * a1) + (1 : Int32))).toNatClampNeg))).toNatClampNeg) 9 ∧ vp_in (gI s 250 (((13 : Int32) + (gI s 264 ((((3 : Int32) * a1) + (1 : Int32))).toNatClampNeg))).toNatClampNeg) 9 ∧ (∀ s14, s14 = (pI s11 269 ((gI s 250 (((13 : Int32) + (gI s 264 ((((3 : Int32) * a1) + (1 : Int32))).toNatClampNeg))).toNatClampNeg)).toNatClampNeg ((gI s11 269 ((gI s 250 (((13 : Int32) + (gI s 264 ((((3 : Int32) * a1) + (1 : Int32))).toNatClampNeg))).toNatClampNeg)).toNatClampNeg) - (gI s 250 (((22 : Int32) + (gI s 264 ((((3 : Int32) * a1) + (2 : Int32))).toNatClampNeg))).toNatClampNeg))) → Q (1 : Int32) s14))) ∧ ((vX12_isLiving s (gI s 250 (((13 : Int32) + (gI s 264 ((((3 : Int32) * a1) + (1 : Int32))).toNatClampNeg))).toNatClampNeg)) = 0 → Q (0 : Int32) s))))))))) ∧ (¬ (2 : Int32) ≤ (gI s 266 (a1).toNatClampNeg) → (((gI s 250 (((13 : Int32) + (gI s 264 (((3 : Int32) * a1)).toNatClampNeg))).toNatClampNeg) < 0 → Q (0 : Int32) s) ∧ (¬ (gI s 250 (((13 : Int32) + (gI s 264 (((3 : Int32) * a1)).toNatClampNeg))).toNatClampNeg) < 0 → (((gI s 264 ((((3 : Int32) * a1) + (1 : Int32))).toNatClampNeg) < 0 → Q (0 : Int32) s) ∧ (¬ (gI s 264 ((((3 : Int32) * a1) + (1 : Int32))).toNatClampNeg) < 0 → (((vX12_isLiving s (gI s 250 (((13 : Int32) + (gI s 264 (((3 : Int32) * a1)).toNatClampNeg))).toNatClampNeg)) = 0 → Q (0 : Int32) s) ∧ (¬ (vX12_isLiving s (gI s 250 (((13 : Int32) + (gI s 264 (((3 : Int32) * a1)).toNatClampNeg))).toNatClampNeg)) = 0 → ((¬ (vX12_isLiving s (gI s 264 ((((3 : Int32) * a1) + (1 : Int32))).toNatClampNeg)) = 0 → vp_in (gI s 250 (((13 : Int32) + (gI s 264 (((3 : Int32) * a1)).toNatClampNeg))).toNatClampNeg) 9 ∧ vp_in (gI s 250 (((13 : Int32) + (gI s 264 (((3 : Int32) * a1)).toNatClampNeg))).toNatClampNeg) 9 ∧ (∀ s23, s23 = (pI s 269 ((gI s 250 (((13 : Int32) + (gI s 264 (((3 : Int32) * a1)).toNatClampNeg))).toNatClampNeg)).toNatClampNeg ((gI s 269 ((gI s 250 (((13 : Int32) + (gI s 264 (((3 : Int32) * a1)).toNatClampNeg))).toNatClampNeg)).toNatClampNeg) - (gI s 250 (((22 : Int32) + (gI s 264 ((((3 : Int32) * a1) + (2 : Int32))).toNatClampNeg))).toNatClampNeg))) → vp_in (gI s 264 ((((3 : Int32) * a1) + (1 : Int32))).toNatClampNeg) 9 ∧ vp_in (gI s 264 ((((3 : Int32) * a1) + (1 : Int32))).toNatClampNeg) 9 ∧ (∀ s26, s26 = (pI s23 269 ((gI s 264 ((((3 : Int32) * a1) + (1 : Int32))).toNatClampNeg)).toNatClampNeg ((gI s23 269 ((gI s 264 ((((3 : Int32) * a1) + (1 : Int32))).toNatClampNeg)).toNatClampNeg) - (gI s 250 (((22 : Int32) + (gI s 264 ((((3 : Int32) * a1) + (2 : Int32))).toNatClampNeg))).toNatClampNeg))) → Q (1 : Int32) s26))) ∧ ((vX12_isLiving s (gI s 264 ((((3 : Int32) * a1) + (1 : Int32))).toNatClampNeg)) = 0 → Q (0 : Int32) s))))))))))) ∧ (((gI s 266 (a1).toNatClampNeg) - (gI s 266 (a1).toNatClampNeg) / (2 : Int32) * (2 : Int32)) = 0 → vp_in a1 6 ∧ (((2 : Int32) ≤ (gI s 266 (a1).toNatClampNeg) → vp_in ((13 : Int32) + (gI s 264 ((((3 : Int32) * a1) + (1 : Int32))).toNatClampNeg)) 787 ∧ (((gI s 264 (((3 : Int32) * a1)).toNatClampNeg) < 0 → Q (0 : Int32) s) ∧ (¬ (gI s 264 (((3 : Int32) * a1)).toNatClampNeg) < 0 → (((gI s 250 (((13 : Int32) + (gI s 264 ((((3 : Int32) * a1) + (1 : Int32))).toNatClampNeg))).toNatClampNeg) < 0 → Q (0 : Int32) s) ∧ (¬ (gI s 250 (((13 : Int32) + (gI s 264 ((((3 : Int32) * a1) + (1 : Int32))).toNatClampNeg))).toNatClampNeg) < 0 → (((vX12_isLiving s (gI s 264 (((3 : Int32) * a1)).toNatClampNeg)) = 0 → Q (0 : Int32) s) ∧ (¬ (vX12_isLiving s (gI s 264 (((3 : Int32) * a1)).toNatClampNeg)) = 0 → ((¬ (vX12_isLiving s (gI s 250 (((13 : Int32) + (gI s 264 ((((3 : Int32) * a1) + (1 : Int32))).toNatClampNeg))).toNatClampNeg)) = 0 → vp_in (gI s 264 (((3 : Int32) * a1)).toNatClampNeg) 9 ∧ vp_in (gI s 264 (((3 : Int32) * a1)).toNatClampNeg) 9 ∧ (∀ s38, s38 = (pI s 269 ((gI s 264 (((3 : Int32) * a1)).toNatClampNeg)).toNatClampNeg ((gI s 269 ((gI s 264 (((3 : Int32) * a1)).toNatClampNeg)).toNatClampNeg) - (gI s 250 (((22 : Int32) + (gI s 264 ((((3 : Int32) * a1) + (2 : Int32))).toNatClampNeg))).toNatClampNeg))) → vp_in (gI s 250 (((13 : Int32) + (gI s 264 ((((3 : Int32) * a1) + (1 : Int32))).toNatClampNeg))).toNatClampNeg) 9 ∧ vp_in (gI s 250 (((13 : Int32) + (gI s 264 ((((3 : Int32) * a1) + (1 : Int32))).toNatClampNeg))).toNatClampNeg) 9 ∧ (∀ s41, s41 = (pI s38 269 ((gI s 250 (((13 : Int32) + (gI s 264 ((((3 : Int32) * a1) + (1 : Int32))).toNatClampNeg))).toNatClampNeg)).toNatClampNeg ((gI s38 269 ((gI s 250 (((13 : Int32) + (gI s 264 ((((3 : Int32) * a1) + (1 : Int32))).toNatClampNeg))).toNatClampNeg)).toNatClampNeg) - (gI s 250 (((22 : Int32) + (gI s 264 ((((3 : Int32) * a1) + (2 : Int32))).toNatClampNeg))).toNatClampNeg))) → Q (1 : Int32) s41))) ∧ ((vX12_isLiving s (gI s 250 (((13 : Int32) + (gI s 264 ((((3 : Int32) * a1) + (1 : Int32))).toNatClampNeg))).toNatClampNeg)) = 0 → Q (0 : Int32) s))))))))) ∧ (¬ (2 : Int32) ≤ (gI s 266 (a1).toNatClampNeg) → (((gI s 264 (((3 : Int32) * a1)).toNatClampNeg) < 0 → Q (0 : Int32) s) ∧ (¬ (gI s 264 (((3 : Int32) * a1)).toNatClampNeg) < 0 → (((gI s 264 ((((3 : Int32) * a1) + (1 : Int32))).toNatClampNeg) < 0 → Q (0 : Int32) s) ∧ (¬ (gI s 264 ((((3 : Int32) * a1) + (1 : Int32))).toNatClampNeg) < 0 → (((vX12_isLiving s (gI s 264 (((3 : Int32) * a1)).toNatClampNeg)) = 0 → Q (0 : Int32) s) ∧ (¬ (vX12_isLiving s (gI s 264 (((3 : Int32) * a1)).toNatClampNeg)) = 0 → ((¬ (vX12_isLiving s (gI s 264 ((((3 : Int32) * a1) + (1 : Int32))).toNatClampNeg)) = 0 → vp_in (gI s 264 (((3 : Int32) * a1)).toNatClampNeg) 9 ∧ vp_in (gI s 264 (((3 : Int32) * a1)).toNatClampNeg) 9 ∧ (∀ s50, s50 = (pI s 269 ((gI s 264 (((3 : Int32) * a1)).toNatClampNeg)).toNatClampNeg ((gI s 269 ((gI s 264 (((3 : Int32) * a1)).toNatClampNeg)).toNatClampNeg) - (gI s 250 (((22 : Int32) + (gI s 264 ((((3 : Int32) * a1) + (2 : Int32))).toNatClampNeg))).toNatClampNeg))) → vp_in (gI s 264 ((((3 : Int32) * a1) + (1 : Int32))).toNatClampNeg) 9 ∧ vp_in (gI s 264 ((((3 : Int32) * a1) + (1 : Int32))).toNatClampNeg) 9 ∧ (∀ s53, s53 = (pI s50 269 ((gI s 264 ((((3 : Int32) * a1) + (1 : Int32))).toNatClampNeg)).toNatClampNeg ((gI s50 269 ((gI s 264 ((((3 : Int32) * a1) + (1 : Int32))).toNatClampNeg)).toNatClampNeg) - (gI s 250 (((22 : Int32) + (gI s 264 ((((3 : Int32) * a1) + (2 : Int32))).toNatClampNeg))).toNatClampNeg))) → Q (1 : Int32) s53))) ∧ ((vX12_isLiving s (gI s 264 ((((3 : Int32) * a1) + (1 : Int32))).toNatClampNeg)) = 0 → Q (0 : Int32) s))))))))))))) ∧ ((vX12_isLiving s (gI s 264 ((((3 : Int32) * a1) + (1 : Int32))).toNatClampNeg)) = 0 → Q (0 : Int32) s))))))) : KI MX12_packs 2 [.ref 248, .int a1] s Q := by
  show BI MX12_packs 2 0 [(0, .ref 248), (1, .int a1)] s Q
  refine JT_aload_n (q := 0) dX12_packs_0 rfl rfl ?_
  refine JS_getR (x := 264) dX12_packs_1 flX12_77 BS_248 (Nat.le_of_ble_eq_true rfl) (Nat.le_of_ble_eq_true rfl) (Or.inr ⟨_, ct_12_39⟩) RF_248_39 ?_
  refine JT_iconst (v := 3) dX12_packs_4 ic_3 ?_
  refine JT_iload_n (q := 1) dX12_packs_5 rfl rfl ?_
  refine JT_imul dX12_packs_6 ?_
  obtain ⟨o1, h⟩ := h
  refine JS_iald dX12_packs_7 BS_264 (Nat.le_of_ble_eq_true rfl) (Nat.le_of_ble_eq_true rfl) o1 ?_
  refine JT_istore_n (lv' := [(2, .int (gI s 264 (((3 : Int32) * a1)).toNatClampNeg)), (0, .ref 248), (1, .int a1)]) dX12_packs_8 rfl (Nat.le_of_ble_eq_true rfl) rfl ?_
  refine JT_aload_n (q := 1) dX12_packs_9 rfl rfl ?_
  refine JS_getR (x := 264) dX12_packs_10 flX12_77 BS_248 (Nat.le_of_ble_eq_true rfl) (Nat.le_of_ble_eq_true rfl) (Or.inr ⟨_, ct_12_39⟩) RF_248_39 ?_
  refine JT_iconst (v := 3) dX12_packs_13 ic_3 ?_
  refine JT_iload_n (q := 2) dX12_packs_14 rfl rfl ?_
  refine JT_imul dX12_packs_15 ?_
  refine JT_iconst (v := 1) dX12_packs_16 ic_1 ?_
  refine JT_iadd dX12_packs_17 ?_
  obtain ⟨o2, h⟩ := h
  refine JS_iald dX12_packs_18 BS_264 (Nat.le_of_ble_eq_true rfl) (Nat.le_of_ble_eq_true rfl) o2 ?_
  refine JT_istore_n (lv' := [(3, .int (gI s 264 ((((3 : Int32) * a1) + (1 : Int32))).toNatClampNeg)), (2, .int (gI s 264 (((3 : Int32) * a1)).toNatClampNeg)), (0, .ref 248), (1, .int a1)]) dX12_packs_19 rfl (Nat.le_of_ble_eq_true rfl) rfl ?_
  refine JT_aload_n (q := 2) dX12_packs_20 rfl rfl ?_
  refine JS_getR (x := 250) dX12_packs_21 flX12_33 BS_248 (Nat.le_of_ble_eq_true rfl) (Nat.le_of_ble_eq_true rfl) (Or.inr ⟨_, ct_12_6⟩) RF_248_6 ?_
  refine JT_bipush (v := 22) dX12_packs_24 bp_22 ?_
  refine JT_aload_n (q := 2) dX12_packs_26 rfl rfl ?_
  refine JS_getR (x := 264) dX12_packs_27 flX12_77 BS_248 (Nat.le_of_ble_eq_true rfl) (Nat.le_of_ble_eq_true rfl) (Or.inr ⟨_, ct_12_39⟩) RF_248_39 ?_
  refine JT_iconst (v := 3) dX12_packs_30 ic_3 ?_
  refine JT_iload_n (q := 3) dX12_packs_31 rfl rfl ?_
  refine JT_imul dX12_packs_32 ?_
  refine JT_iconst (v := 2) dX12_packs_33 ic_2 ?_
  refine JT_iadd dX12_packs_34 ?_
  obtain ⟨o3, h⟩ := h
  refine JS_iald dX12_packs_35 BS_264 (Nat.le_of_ble_eq_true rfl) (Nat.le_of_ble_eq_true rfl) o3 ?_
  refine JT_iadd dX12_packs_36 ?_
  obtain ⟨o4, h⟩ := h
  refine JS_iald dX12_packs_37 BS_250 (Nat.le_of_ble_eq_true rfl) (Nat.le_of_ble_eq_true rfl) o4 ?_
  refine JT_istore (lv' := [(4, .int (gI s 250 (((22 : Int32) + (gI s 264 ((((3 : Int32) * a1) + (2 : Int32))).toNatClampNeg))).toNatClampNeg)), (3, .int (gI s 264 ((((3 : Int32) * a1) + (1 : Int32))).toNatClampNeg)), (2, .int (gI s 264 (((3 : Int32) * a1)).toNatClampNeg)), (0, .ref 248), (1, .int a1)]) dX12_packs_38 (Nat.le_of_ble_eq_true rfl) rfl ?_
  refine JT_iload_n (q := 2) dX12_packs_40 rfl rfl ?_
  refine JT_iload_n (q := 1) dX12_packs_41 rfl rfl ?_
  refine JT_icmp_eq (tgt := 61) dX12_packs_42 (by decide) (fun hc66 => ?_) (fun hc66 => ?_)
  · have h := h.1 hc66
    refine JT_iconst (v := 0) dX12_packs_61 ic_0 ?_
    exact JS_iret dX12_packs_62 rfl (n01 (Or.inl rfl)) h
  · have h := h.2 hc66
    refine JT_aload_n (q := 3) dX12_packs_45 rfl rfl ?_
    refine JT_iload_n (q := 2) dX12_packs_46 rfl rfl ?_
    refine JS_callVI (M' := MX12_isLiving) (d' := 1) (As := [.int (gI s 264 (((3 : Int32) * a1)).toNatClampNeg)]) (rest := []) (P := (fun zv9 wm9 => (vX12_isLiving s (gI s 264 (((3 : Int32) * a1)).toNatClampNeg)) = zv9 ∧ s = wm9)) dX12_packs_47 cvX12_294 okX12_isLiving rfl (Nat.le_of_ble_eq_true rfl) BS_248 (Nat.le_of_ble_eq_true rfl) (Nat.le_of_ble_eq_true rfl) hci_12 (Nat.le_of_ble_eq_true rfl) (Nat.le_of_ble_eq_true rfl) (pX12_isLiving  ((gI s 264 (((3 : Int32) * a1)).toNatClampNeg))  ⟨rfl, rfl⟩) (fun zv9 wm9 hq9 => ?_)
    obtain ⟨rfl, rfl⟩ := hq9
    refine JT_if_eq (tgt := 61) dX12_packs_50 (by decide) (fun hc64 => ?_) (fun hc64 => ?_)
    · have h := h.1 hc64
      refine JT_iconst (v := 0) dX12_packs_61 ic_0 ?_
      exact JS_iret dX12_packs_62 rfl (n01 (Or.inl rfl)) h
    · have h := h.2 hc64
      refine JT_aload_n (q := 3) dX12_packs_53 rfl rfl ?_
      refine JT_iload_n (q := 1) dX12_packs_54 rfl rfl ?_
      refine JS_callVI (M' := MX12_isLiving) (d' := 1) (As := [.int (gI s 264 ((((3 : Int32) * a1) + (1 : Int32))).toNatClampNeg)]) (rest := []) (P := (fun zv9 wm9 => (vX12_isLiving s (gI s 264 ((((3 : Int32) * a1) + (1 : Int32))).toNatClampNeg)) = zv9 ∧ s = wm9)) dX12_packs_55 cvX12_294 okX12_isLiving rfl (Nat.le_of_ble_eq_true rfl) BS_248 (Nat.le_of_ble_eq_true rfl) (Nat.le_of_ble_eq_true rfl) hci_12 (Nat.le_of_ble_eq_true rfl) (Nat.le_of_ble_eq_true rfl) (pX12_isLiving  ((gI s 264 ((((3 : Int32) * a1) + (1 : Int32))).toNatClampNeg))  ⟨rfl, rfl⟩) (fun zv9 wm9 hq9 => ?_)
      obtain ⟨rfl, rfl⟩ := hq9
      refine JT_if_ne (tgt := 63) dX12_packs_58 (by decide) (fun hc62 => ?_) (fun hc62 => ?_)
      · have h := h.1 hc62
        refine JT_aload_n (q := 3) dX12_packs_63 rfl rfl ?_
        refine JS_getR (x := 266) dX12_packs_64 flX12_83 BS_248 (Nat.le_of_ble_eq_true rfl) (Nat.le_of_ble_eq_true rfl) (Or.inr ⟨_, ct_12_41⟩) RF_248_41 ?_
        refine JT_iload_n (q := 4) dX12_packs_67 rfl rfl ?_
        obtain ⟨o5, h⟩ := h
        refine JS_iald dX12_packs_68 BS_266 (Nat.le_of_ble_eq_true rfl) (Nat.le_of_ble_eq_true rfl) o5 ?_
        refine JT_iconst (v := 2) dX12_packs_69 ic_2 ?_
        refine JT_irem dX12_packs_70 (by decide) ?_
        refine JT_if_ne (tgt := 78) dX12_packs_71 (by decide) (fun hc61 => ?_) (fun hc61 => ?_)
        · have h := h.1 hc61
          refine JT_aload_n (q := 3) dX12_packs_78 rfl rfl ?_
          refine JS_getR (x := 250) dX12_packs_79 flX12_33 BS_248 (Nat.le_of_ble_eq_true rfl) (Nat.le_of_ble_eq_true rfl) (Or.inr ⟨_, ct_12_6⟩) RF_248_6 ?_
          refine JT_bipush (v := 13) dX12_packs_82 bp_13 ?_
          refine JT_iload_n (q := 2) dX12_packs_84 rfl rfl ?_
          refine JT_iadd dX12_packs_85 ?_
          obtain ⟨o6, h⟩ := h
          refine JS_iald dX12_packs_86 BS_250 (Nat.le_of_ble_eq_true rfl) (Nat.le_of_ble_eq_true rfl) o6 ?_
          refine JT_istore (lv' := [(5, .int (gI s 250 (((13 : Int32) + (gI s 264 (((3 : Int32) * a1)).toNatClampNeg))).toNatClampNeg)), (4, .int (gI s 250 (((22 : Int32) + (gI s 264 ((((3 : Int32) * a1) + (2 : Int32))).toNatClampNeg))).toNatClampNeg)), (3, .int (gI s 264 ((((3 : Int32) * a1) + (1 : Int32))).toNatClampNeg)), (2, .int (gI s 264 (((3 : Int32) * a1)).toNatClampNeg)), (0, .ref 248), (1, .int a1)]) dX12_packs_87 (Nat.le_of_ble_eq_true rfl) rfl ?_
          refine JT_aload_n (q := 4) dX12_packs_89 rfl rfl ?_
          refine JS_getR (x := 266) dX12_packs_90 flX12_83 BS_248 (Nat.le_of_ble_eq_true rfl) (Nat.le_of_ble_eq_true rfl) (Or.inr ⟨_, ct_12_41⟩) RF_248_41 ?_
          refine JT_iload_n (q := 5) dX12_packs_93 rfl rfl ?_
          obtain ⟨o7, h⟩ := h
          refine JS_iald dX12_packs_94 BS_266 (Nat.le_of_ble_eq_true rfl) (Nat.le_of_ble_eq_true rfl) o7 ?_
          refine JT_iconst (v := 2) dX12_packs_95 ic_2 ?_
          refine JT_icmp_ge (tgt := 103) dX12_packs_96 (by decide) (fun hc33 => ?_) (fun hc33 => ?_)
          · have h := h.1 hc33
            refine JT_aload_n (q := 4) dX12_packs_103 rfl rfl ?_
            refine JS_getR (x := 250) dX12_packs_104 flX12_33 BS_248 (Nat.le_of_ble_eq_true rfl) (Nat.le_of_ble_eq_true rfl) (Or.inr ⟨_, ct_12_6⟩) RF_248_6 ?_
            refine JT_bipush (v := 13) dX12_packs_107 bp_13 ?_
            refine JT_iload_n (q := 2) dX12_packs_109 rfl rfl ?_
            refine JT_iadd dX12_packs_110 ?_
            obtain ⟨o8, h⟩ := h
            refine JS_iald dX12_packs_111 BS_250 (Nat.le_of_ble_eq_true rfl) (Nat.le_of_ble_eq_true rfl) o8 ?_
            refine JT_istore (lv' := [(6, .int (gI s 250 (((13 : Int32) + (gI s 264 ((((3 : Int32) * a1) + (1 : Int32))).toNatClampNeg))).toNatClampNeg)), (5, .int (gI s 250 (((13 : Int32) + (gI s 264 (((3 : Int32) * a1)).toNatClampNeg))).toNatClampNeg)), (4, .int (gI s 250 (((22 : Int32) + (gI s 264 ((((3 : Int32) * a1) + (2 : Int32))).toNatClampNeg))).toNatClampNeg)), (3, .int (gI s 264 ((((3 : Int32) * a1) + (1 : Int32))).toNatClampNeg)), (2, .int (gI s 264 (((3 : Int32) * a1)).toNatClampNeg)), (0, .ref 248), (1, .int a1)]) dX12_packs_112 (Nat.le_of_ble_eq_true rfl) rfl ?_
            refine JT_iload (q := 1) dX12_packs_114 rfl ?_
            refine JT_if_lt (tgt := 142) dX12_packs_116 (by decide) (fun hc20 => ?_) (fun hc20 => ?_)
            · have h := h.1 hc20
              refine JT_iconst (v := 0) dX12_packs_142 ic_0 ?_
              exact JS_iret dX12_packs_143 rfl (n01 (Or.inl rfl)) h
            · have h := h.2 hc20
              refine JT_iload (q := 0) dX12_packs_119 rfl ?_
              refine JT_if_lt (tgt := 142) dX12_packs_121 (by decide) (fun hc19 => ?_) (fun hc19 => ?_)
              · have h := h.1 hc19
                refine JT_iconst (v := 0) dX12_packs_142 ic_0 ?_
                exact JS_iret dX12_packs_143 rfl (n01 (Or.inl rfl)) h
              · have h := h.2 hc19
                refine JT_aload_n (q := 5) dX12_packs_124 rfl rfl ?_
                refine JT_iload (q := 1) dX12_packs_125 rfl ?_
                refine JS_callVI (M' := MX12_isLiving) (d' := 1) (As := [.int (gI s 250 (((13 : Int32) + (gI s 264 (((3 : Int32) * a1)).toNatClampNeg))).toNatClampNeg)]) (rest := []) (P := (fun zv9 wm9 => (vX12_isLiving s (gI s 250 (((13 : Int32) + (gI s 264 (((3 : Int32) * a1)).toNatClampNeg))).toNatClampNeg)) = zv9 ∧ s = wm9)) dX12_packs_127 cvX12_294 okX12_isLiving rfl (Nat.le_of_ble_eq_true rfl) BS_248 (Nat.le_of_ble_eq_true rfl) (Nat.le_of_ble_eq_true rfl) hci_12 (Nat.le_of_ble_eq_true rfl) (Nat.le_of_ble_eq_true rfl) (pX12_isLiving  ((gI s 250 (((13 : Int32) + (gI s 264 (((3 : Int32) * a1)).toNatClampNeg))).toNatClampNeg))  ⟨rfl, rfl⟩) (fun zv9 wm9 hq9 => ?_)
                obtain ⟨rfl, rfl⟩ := hq9
                refine JT_if_eq (tgt := 142) dX12_packs_130 (by decide) (fun hc17 => ?_) (fun hc17 => ?_)
                · have h := h.1 hc17
                  refine JT_iconst (v := 0) dX12_packs_142 ic_0 ?_
                  exact JS_iret dX12_packs_143 rfl (n01 (Or.inl rfl)) h
                · have h := h.2 hc17
                  refine JT_aload_n (q := 5) dX12_packs_133 rfl rfl ?_
                  refine JT_iload (q := 0) dX12_packs_134 rfl ?_
                  refine JS_callVI (M' := MX12_isLiving) (d' := 1) (As := [.int (gI s 250 (((13 : Int32) + (gI s 264 ((((3 : Int32) * a1) + (1 : Int32))).toNatClampNeg))).toNatClampNeg)]) (rest := []) (P := (fun zv9 wm9 => (vX12_isLiving s (gI s 250 (((13 : Int32) + (gI s 264 ((((3 : Int32) * a1) + (1 : Int32))).toNatClampNeg))).toNatClampNeg)) = zv9 ∧ s = wm9)) dX12_packs_136 cvX12_294 okX12_isLiving rfl (Nat.le_of_ble_eq_true rfl) BS_248 (Nat.le_of_ble_eq_true rfl) (Nat.le_of_ble_eq_true rfl) hci_12 (Nat.le_of_ble_eq_true rfl) (Nat.le_of_ble_eq_true rfl) (pX12_isLiving  ((gI s 250 (((13 : Int32) + (gI s 264 ((((3 : Int32) * a1) + (1 : Int32))).toNatClampNeg))).toNatClampNeg))  ⟨rfl, rfl⟩) (fun zv9 wm9 hq9 => ?_)
                  obtain ⟨rfl, rfl⟩ := hq9
                  refine JT_if_ne (tgt := 144) dX12_packs_139 (by decide) (fun hc15 => ?_) (fun hc15 => ?_)
                  · have h := h.1 hc15
                    refine JT_aload_n (q := 5) dX12_packs_144 rfl rfl ?_
                    refine JS_getR (x := 269) dX12_packs_145 flX12_92 BS_248 (Nat.le_of_ble_eq_true rfl) (Nat.le_of_ble_eq_true rfl) (Or.inr ⟨_, ct_12_44⟩) RF_248_44 ?_
                    refine JT_iload (q := 1) dX12_packs_148 rfl ?_
                    refine JT_dup2 dX12_packs_150 rfl rfl ?_
                    obtain ⟨o9, h⟩ := h
                    refine JS_iald dX12_packs_151 BS_269 (Nat.le_of_ble_eq_true rfl) (Nat.le_of_ble_eq_true rfl) o9 ?_
                    refine JT_iload (q := 2) dX12_packs_152 rfl ?_
                    refine JT_isub dX12_packs_154 ?_
                    obtain ⟨o10, h⟩ := h
                    refine JS_iast dX12_packs_155 BS_269 (Nat.le_of_ble_eq_true rfl) (Nat.le_of_ble_eq_true rfl) o10 ?_
                    obtain ⟨s11, hs11⟩ : ∃ z, z = (pI s 269 ((gI s 250 (((13 : Int32) + (gI s 264 (((3 : Int32) * a1)).toNatClampNeg))).toNatClampNeg)).toNatClampNeg ((gI s 269 ((gI s 250 (((13 : Int32) + (gI s 264 (((3 : Int32) * a1)).toNatClampNeg))).toNatClampNeg)).toNatClampNeg) - (gI s 250 (((22 : Int32) + (gI s 264 ((((3 : Int32) * a1) + (2 : Int32))).toNatClampNeg))).toNatClampNeg))) := ⟨_, rfl⟩
                    replace h := h s11 hs11
                    rw [← hs11]
                    refine JT_aload_n (q := 5) dX12_packs_156 rfl rfl ?_
                    refine JS_getR (x := 269) dX12_packs_157 flX12_92 BS_248 (Nat.le_of_ble_eq_true rfl) (Nat.le_of_ble_eq_true rfl) (Or.inr ⟨_, ct_12_44⟩) RF_248_44 ?_
                    refine JT_iload (q := 0) dX12_packs_160 rfl ?_
                    refine JT_dup2 dX12_packs_162 rfl rfl ?_
                    obtain ⟨o12, h⟩ := h
                    refine JS_iald dX12_packs_163 BS_269 (Nat.le_of_ble_eq_true rfl) (Nat.le_of_ble_eq_true rfl) o12 ?_
                    refine JT_iload (q := 2) dX12_packs_164 rfl ?_
                    refine JT_isub dX12_packs_166 ?_
                    obtain ⟨o13, h⟩ := h
                    refine JS_iast dX12_packs_167 BS_269 (Nat.le_of_ble_eq_true rfl) (Nat.le_of_ble_eq_true rfl) o13 ?_
                    obtain ⟨s14, hs14⟩ : ∃ z, z = (pI s11 269 ((gI s 250 (((13 : Int32) + (gI s 264 ((((3 : Int32) * a1) + (1 : Int32))).toNatClampNeg))).toNatClampNeg)).toNatClampNeg ((gI s11 269 ((gI s 250 (((13 : Int32) + (gI s 264 ((((3 : Int32) * a1) + (1 : Int32))).toNatClampNeg))).toNatClampNeg)).toNatClampNeg) - (gI s 250 (((22 : Int32) + (gI s 264 ((((3 : Int32) * a1) + (2 : Int32))).toNatClampNeg))).toNatClampNeg))) := ⟨_, rfl⟩
                    replace h := h s14 hs14
                    rw [← hs14]
                    refine JT_iconst (v := 1) dX12_packs_168 ic_1 ?_
                    exact JS_iret dX12_packs_169 rfl (n01 (Or.inr rfl)) h
                  · have h := h.2 hc15
                    refine JT_iconst (v := 0) dX12_packs_142 ic_0 ?_
                    exact JS_iret dX12_packs_143 rfl (n01 (Or.inl rfl)) h
          · have h := h.2 hc33
            refine JT_iload_n (q := 2) dX12_packs_99 rfl rfl ?_
            refine JT_goto (tgt := 112) dX12_packs_100 (by decide) ?_
            refine JT_istore (lv' := [(6, .int (gI s 264 ((((3 : Int32) * a1) + (1 : Int32))).toNatClampNeg)), (5, .int (gI s 250 (((13 : Int32) + (gI s 264 (((3 : Int32) * a1)).toNatClampNeg))).toNatClampNeg)), (4, .int (gI s 250 (((22 : Int32) + (gI s 264 ((((3 : Int32) * a1) + (2 : Int32))).toNatClampNeg))).toNatClampNeg)), (3, .int (gI s 264 ((((3 : Int32) * a1) + (1 : Int32))).toNatClampNeg)), (2, .int (gI s 264 (((3 : Int32) * a1)).toNatClampNeg)), (0, .ref 248), (1, .int a1)]) dX12_packs_112 (Nat.le_of_ble_eq_true rfl) rfl ?_
            refine JT_iload (q := 1) dX12_packs_114 rfl ?_
            refine JT_if_lt (tgt := 142) dX12_packs_116 (by decide) (fun hc32 => ?_) (fun hc32 => ?_)
            · have h := h.1 hc32
              refine JT_iconst (v := 0) dX12_packs_142 ic_0 ?_
              exact JS_iret dX12_packs_143 rfl (n01 (Or.inl rfl)) h
            · have h := h.2 hc32
              refine JT_iload (q := 0) dX12_packs_119 rfl ?_
              refine JT_if_lt (tgt := 142) dX12_packs_121 (by decide) (fun hc31 => ?_) (fun hc31 => ?_)
              · have h := h.1 hc31
                refine JT_iconst (v := 0) dX12_packs_142 ic_0 ?_
                exact JS_iret dX12_packs_143 rfl (n01 (Or.inl rfl)) h
              · have h := h.2 hc31
                refine JT_aload_n (q := 5) dX12_packs_124 rfl rfl ?_
                refine JT_iload (q := 1) dX12_packs_125 rfl ?_
                refine JS_callVI (M' := MX12_isLiving) (d' := 1) (As := [.int (gI s 250 (((13 : Int32) + (gI s 264 (((3 : Int32) * a1)).toNatClampNeg))).toNatClampNeg)]) (rest := []) (P := (fun zv9 wm9 => (vX12_isLiving s (gI s 250 (((13 : Int32) + (gI s 264 (((3 : Int32) * a1)).toNatClampNeg))).toNatClampNeg)) = zv9 ∧ s = wm9)) dX12_packs_127 cvX12_294 okX12_isLiving rfl (Nat.le_of_ble_eq_true rfl) BS_248 (Nat.le_of_ble_eq_true rfl) (Nat.le_of_ble_eq_true rfl) hci_12 (Nat.le_of_ble_eq_true rfl) (Nat.le_of_ble_eq_true rfl) (pX12_isLiving  ((gI s 250 (((13 : Int32) + (gI s 264 (((3 : Int32) * a1)).toNatClampNeg))).toNatClampNeg))  ⟨rfl, rfl⟩) (fun zv9 wm9 hq9 => ?_)
                obtain ⟨rfl, rfl⟩ := hq9
                refine JT_if_eq (tgt := 142) dX12_packs_130 (by decide) (fun hc29 => ?_) (fun hc29 => ?_)
                · have h := h.1 hc29
                  refine JT_iconst (v := 0) dX12_packs_142 ic_0 ?_
                  exact JS_iret dX12_packs_143 rfl (n01 (Or.inl rfl)) h
                · have h := h.2 hc29
                  refine JT_aload_n (q := 5) dX12_packs_133 rfl rfl ?_
                  refine JT_iload (q := 0) dX12_packs_134 rfl ?_
                  refine JS_callVI (M' := MX12_isLiving) (d' := 1) (As := [.int (gI s 264 ((((3 : Int32) * a1) + (1 : Int32))).toNatClampNeg)]) (rest := []) (P := (fun zv9 wm9 => (vX12_isLiving s (gI s 264 ((((3 : Int32) * a1) + (1 : Int32))).toNatClampNeg)) = zv9 ∧ s = wm9)) dX12_packs_136 cvX12_294 okX12_isLiving rfl (Nat.le_of_ble_eq_true rfl) BS_248 (Nat.le_of_ble_eq_true rfl) (Nat.le_of_ble_eq_true rfl) hci_12 (Nat.le_of_ble_eq_true rfl) (Nat.le_of_ble_eq_true rfl) (pX12_isLiving  ((gI s 264 ((((3 : Int32) * a1) + (1 : Int32))).toNatClampNeg))  ⟨rfl, rfl⟩) (fun zv9 wm9 hq9 => ?_)
                  obtain ⟨rfl, rfl⟩ := hq9
                  refine JT_if_ne (tgt := 144) dX12_packs_139 (by decide) (fun hc27 => ?_) (fun hc27 => ?_)
                  · have h := h.1 hc27
                    refine JT_aload_n (q := 5) dX12_packs_144 rfl rfl ?_
                    refine JS_getR (x := 269) dX12_packs_145 flX12_92 BS_248 (Nat.le_of_ble_eq_true rfl) (Nat.le_of_ble_eq_true rfl) (Or.inr ⟨_, ct_12_44⟩) RF_248_44 ?_
                    refine JT_iload (q := 1) dX12_packs_148 rfl ?_
                    refine JT_dup2 dX12_packs_150 rfl rfl ?_
                    obtain ⟨o21, h⟩ := h
                    refine JS_iald dX12_packs_151 BS_269 (Nat.le_of_ble_eq_true rfl) (Nat.le_of_ble_eq_true rfl) o21 ?_
                    refine JT_iload (q := 2) dX12_packs_152 rfl ?_
                    refine JT_isub dX12_packs_154 ?_
                    obtain ⟨o22, h⟩ := h
                    refine JS_iast dX12_packs_155 BS_269 (Nat.le_of_ble_eq_true rfl) (Nat.le_of_ble_eq_true rfl) o22 ?_
                    obtain ⟨s23, hs23⟩ : ∃ z, z = (pI s 269 ((gI s 250 (((13 : Int32) + (gI s 264 (((3 : Int32) * a1)).toNatClampNeg))).toNatClampNeg)).toNatClampNeg ((gI s 269 ((gI s 250 (((13 : Int32) + (gI s 264 (((3 : Int32) * a1)).toNatClampNeg))).toNatClampNeg)).toNatClampNeg) - (gI s 250 (((22 : Int32) + (gI s 264 ((((3 : Int32) * a1) + (2 : Int32))).toNatClampNeg))).toNatClampNeg))) := ⟨_, rfl⟩
                    replace h := h s23 hs23
                    rw [← hs23]
                    refine JT_aload_n (q := 5) dX12_packs_156 rfl rfl ?_
                    refine JS_getR (x := 269) dX12_packs_157 flX12_92 BS_248 (Nat.le_of_ble_eq_true rfl) (Nat.le_of_ble_eq_true rfl) (Or.inr ⟨_, ct_12_44⟩) RF_248_44 ?_
                    refine JT_iload (q := 0) dX12_packs_160 rfl ?_
                    refine JT_dup2 dX12_packs_162 rfl rfl ?_
                    obtain ⟨o24, h⟩ := h
                    refine JS_iald dX12_packs_163 BS_269 (Nat.le_of_ble_eq_true rfl) (Nat.le_of_ble_eq_true rfl) o24 ?_
                    refine JT_iload (q := 2) dX12_packs_164 rfl ?_
                    refine JT_isub dX12_packs_166 ?_
                    obtain ⟨o25, h⟩ := h
                    refine JS_iast dX12_packs_167 BS_269 (Nat.le_of_ble_eq_true rfl) (Nat.le_of_ble_eq_true rfl) o25 ?_
                    obtain ⟨s26, hs26⟩ : ∃ z, z = (pI s23 269 ((gI s 264 ((((3 : Int32) * a1) + (1 : Int32))).toNatClampNeg)).toNatClampNeg ((gI s23 269 ((gI s 264 ((((3 : Int32) * a1) + (1 : Int32))).toNatClampNeg)).toNatClampNeg) - (gI s 250 (((22 : Int32) + (gI s 264 ((((3 : Int32) * a1) + (2 : Int32))).toNatClampNeg))).toNatClampNeg))) := ⟨_, rfl⟩
                    replace h := h s26 hs26
                    rw [← hs26]
                    refine JT_iconst (v := 1) dX12_packs_168 ic_1 ?_
                    exact JS_iret dX12_packs_169 rfl (n01 (Or.inr rfl)) h
                  · have h := h.2 hc27
                    refine JT_iconst (v := 0) dX12_packs_142 ic_0 ?_
                    exact JS_iret dX12_packs_143 rfl (n01 (Or.inl rfl)) h
        · have h := h.2 hc61
          refine JT_iload_n (q := 2) dX12_packs_74 rfl rfl ?_
          refine JT_goto (tgt := 87) dX12_packs_75 (by decide) ?_
          refine JT_istore (lv' := [(5, .int (gI s 264 (((3 : Int32) * a1)).toNatClampNeg)), (4, .int (gI s 250 (((22 : Int32) + (gI s 264 ((((3 : Int32) * a1) + (2 : Int32))).toNatClampNeg))).toNatClampNeg)), (3, .int (gI s 264 ((((3 : Int32) * a1) + (1 : Int32))).toNatClampNeg)), (2, .int (gI s 264 (((3 : Int32) * a1)).toNatClampNeg)), (0, .ref 248), (1, .int a1)]) dX12_packs_87 (Nat.le_of_ble_eq_true rfl) rfl ?_
          refine JT_aload_n (q := 4) dX12_packs_89 rfl rfl ?_
          refine JS_getR (x := 266) dX12_packs_90 flX12_83 BS_248 (Nat.le_of_ble_eq_true rfl) (Nat.le_of_ble_eq_true rfl) (Or.inr ⟨_, ct_12_41⟩) RF_248_41 ?_
          refine JT_iload_n (q := 5) dX12_packs_93 rfl rfl ?_
          obtain ⟨o34, h⟩ := h
          refine JS_iald dX12_packs_94 BS_266 (Nat.le_of_ble_eq_true rfl) (Nat.le_of_ble_eq_true rfl) o34 ?_
          refine JT_iconst (v := 2) dX12_packs_95 ic_2 ?_
          refine JT_icmp_ge (tgt := 103) dX12_packs_96 (by decide) (fun hc60 => ?_) (fun hc60 => ?_)
          · have h := h.1 hc60
            refine JT_aload_n (q := 4) dX12_packs_103 rfl rfl ?_
            refine JS_getR (x := 250) dX12_packs_104 flX12_33 BS_248 (Nat.le_of_ble_eq_true rfl) (Nat.le_of_ble_eq_true rfl) (Or.inr ⟨_, ct_12_6⟩) RF_248_6 ?_
            refine JT_bipush (v := 13) dX12_packs_107 bp_13 ?_
            refine JT_iload_n (q := 2) dX12_packs_109 rfl rfl ?_
            refine JT_iadd dX12_packs_110 ?_
            obtain ⟨o35, h⟩ := h
            refine JS_iald dX12_packs_111 BS_250 (Nat.le_of_ble_eq_true rfl) (Nat.le_of_ble_eq_true rfl) o35 ?_
            refine JT_istore (lv' := [(6, .int (gI s 250 (((13 : Int32) + (gI s 264 ((((3 : Int32) * a1) + (1 : Int32))).toNatClampNeg))).toNatClampNeg)), (5, .int (gI s 264 (((3 : Int32) * a1)).toNatClampNeg)), (4, .int (gI s 250 (((22 : Int32) + (gI s 264 ((((3 : Int32) * a1) + (2 : Int32))).toNatClampNeg))).toNatClampNeg)), (3, .int (gI s 264 ((((3 : Int32) * a1) + (1 : Int32))).toNatClampNeg)), (2, .int (gI s 264 (((3 : Int32) * a1)).toNatClampNeg)), (0, .ref 248), (1, .int a1)]) dX12_packs_112 (Nat.le_of_ble_eq_true rfl) rfl ?_
            refine JT_iload (q := 1) dX12_packs_114 rfl ?_
            refine JT_if_lt (tgt := 142) dX12_packs_116 (by decide) (fun hc47 => ?_) (fun hc47 => ?_)
            · have h := h.1 hc47
              refine JT_iconst (v := 0) dX12_packs_142 ic_0 ?_
              exact JS_iret dX12_packs_143 rfl (n01 (Or.inl rfl)) h
            · have h := h.2 hc47
              refine JT_iload (q := 0) dX12_packs_119 rfl ?_
              refine JT_if_lt (tgt := 142) dX12_packs_121 (by decide) (fun hc46 => ?_) (fun hc46 => ?_)
              · have h := h.1 hc46
                refine JT_iconst (v := 0) dX12_packs_142 ic_0 ?_
                exact JS_iret dX12_packs_143 rfl (n01 (Or.inl rfl)) h
              · have h := h.2 hc46
                refine JT_aload_n (q := 5) dX12_packs_124 rfl rfl ?_
                refine JT_iload (q := 1) dX12_packs_125 rfl ?_
                refine JS_callVI (M' := MX12_isLiving) (d' := 1) (As := [.int (gI s 264 (((3 : Int32) * a1)).toNatClampNeg)]) (rest := []) (P := (fun zv9 wm9 => (vX12_isLiving s (gI s 264 (((3 : Int32) * a1)).toNatClampNeg)) = zv9 ∧ s = wm9)) dX12_packs_127 cvX12_294 okX12_isLiving rfl (Nat.le_of_ble_eq_true rfl) BS_248 (Nat.le_of_ble_eq_true rfl) (Nat.le_of_ble_eq_true rfl) hci_12 (Nat.le_of_ble_eq_true rfl) (Nat.le_of_ble_eq_true rfl) (pX12_isLiving  ((gI s 264 (((3 : Int32) * a1)).toNatClampNeg))  ⟨rfl, rfl⟩) (fun zv9 wm9 hq9 => ?_)
                obtain ⟨rfl, rfl⟩ := hq9
                refine JT_if_eq (tgt := 142) dX12_packs_130 (by decide) (fun hc44 => ?_) (fun hc44 => ?_)
                · have h := h.1 hc44
                  refine JT_iconst (v := 0) dX12_packs_142 ic_0 ?_
                  exact JS_iret dX12_packs_143 rfl (n01 (Or.inl rfl)) h
                · have h := h.2 hc44
                  refine JT_aload_n (q := 5) dX12_packs_133 rfl rfl ?_
                  refine JT_iload (q := 0) dX12_packs_134 rfl ?_
                  refine JS_callVI (M' := MX12_isLiving) (d' := 1) (As := [.int (gI s 250 (((13 : Int32) + (gI s 264 ((((3 : Int32) * a1) + (1 : Int32))).toNatClampNeg))).toNatClampNeg)]) (rest := []) (P := (fun zv9 wm9 => (vX12_isLiving s (gI s 250 (((13 : Int32) + (gI s 264 ((((3 : Int32) * a1) + (1 : Int32))).toNatClampNeg))).toNatClampNeg)) = zv9 ∧ s = wm9)) dX12_packs_136 cvX12_294 okX12_isLiving rfl (Nat.le_of_ble_eq_true rfl) BS_248 (Nat.le_of_ble_eq_true rfl) (Nat.le_of_ble_eq_true rfl) hci_12 (Nat.le_of_ble_eq_true rfl) (Nat.le_of_ble_eq_true rfl) (pX12_isLiving  ((gI s 250 (((13 : Int32) + (gI s 264 ((((3 : Int32) * a1) + (1 : Int32))).toNatClampNeg))).toNatClampNeg))  ⟨rfl, rfl⟩) (fun zv9 wm9 hq9 => ?_)
                  obtain ⟨rfl, rfl⟩ := hq9
                  refine JT_if_ne (tgt := 144) dX12_packs_139 (by decide) (fun hc42 => ?_) (fun hc42 => ?_)
                  · have h := h.1 hc42
                    refine JT_aload_n (q := 5) dX12_packs_144 rfl rfl ?_
                    refine JS_getR (x := 269) dX12_packs_145 flX12_92 BS_248 (Nat.le_of_ble_eq_true rfl) (Nat.le_of_ble_eq_true rfl) (Or.inr ⟨_, ct_12_44⟩) RF_248_44 ?_
                    refine JT_iload (q := 1) dX12_packs_148 rfl ?_
                    refine JT_dup2 dX12_packs_150 rfl rfl ?_
                    obtain ⟨o36, h⟩ := h
                    refine JS_iald dX12_packs_151 BS_269 (Nat.le_of_ble_eq_true rfl) (Nat.le_of_ble_eq_true rfl) o36 ?_
                    refine JT_iload (q := 2) dX12_packs_152 rfl ?_
                    refine JT_isub dX12_packs_154 ?_
                    obtain ⟨o37, h⟩ := h
                    refine JS_iast dX12_packs_155 BS_269 (Nat.le_of_ble_eq_true rfl) (Nat.le_of_ble_eq_true rfl) o37 ?_
                    obtain ⟨s38, hs38⟩ : ∃ z, z = (pI s 269 ((gI s 264 (((3 : Int32) * a1)).toNatClampNeg)).toNatClampNeg ((gI s 269 ((gI s 264 (((3 : Int32) * a1)).toNatClampNeg)).toNatClampNeg) - (gI s 250 (((22 : Int32) + (gI s 264 ((((3 : Int32) * a1) + (2 : Int32))).toNatClampNeg))).toNatClampNeg))) := ⟨_, rfl⟩
                    replace h := h s38 hs38
                    rw [← hs38]
                    refine JT_aload_n (q := 5) dX12_packs_156 rfl rfl ?_
                    refine JS_getR (x := 269) dX12_packs_157 flX12_92 BS_248 (Nat.le_of_ble_eq_true rfl) (Nat.le_of_ble_eq_true rfl) (Or.inr ⟨_, ct_12_44⟩) RF_248_44 ?_
                    refine JT_iload (q := 0) dX12_packs_160 rfl ?_
                    refine JT_dup2 dX12_packs_162 rfl rfl ?_
                    obtain ⟨o39, h⟩ := h
                    refine JS_iald dX12_packs_163 BS_269 (Nat.le_of_ble_eq_true rfl) (Nat.le_of_ble_eq_true rfl) o39 ?_
                    refine JT_iload (q := 2) dX12_packs_164 rfl ?_
                    refine JT_isub dX12_packs_166 ?_
                    obtain ⟨o40, h⟩ := h
                    refine JS_iast dX12_packs_167 BS_269 (Nat.le_of_ble_eq_true rfl) (Nat.le_of_ble_eq_true rfl) o40 ?_
                    obtain ⟨s41, hs41⟩ : ∃ z, z = (pI s38 269 ((gI s 250 (((13 : Int32) + (gI s 264 ((((3 : Int32) * a1) + (1 : Int32))).toNatClampNeg))).toNatClampNeg)).toNatClampNeg ((gI s38 269 ((gI s 250 (((13 : Int32) + (gI s 264 ((((3 : Int32) * a1) + (1 : Int32))).toNatClampNeg))).toNatClampNeg)).toNatClampNeg) - (gI s 250 (((22 : Int32) + (gI s 264 ((((3 : Int32) * a1) + (2 : Int32))).toNatClampNeg))).toNatClampNeg))) := ⟨_, rfl⟩
                    replace h := h s41 hs41
                    rw [← hs41]
                    refine JT_iconst (v := 1) dX12_packs_168 ic_1 ?_
                    exact JS_iret dX12_packs_169 rfl (n01 (Or.inr rfl)) h
                  · have h := h.2 hc42
                    refine JT_iconst (v := 0) dX12_packs_142 ic_0 ?_
                    exact JS_iret dX12_packs_143 rfl (n01 (Or.inl rfl)) h
          · have h := h.2 hc60
            refine JT_iload_n (q := 2) dX12_packs_99 rfl rfl ?_
            refine JT_goto (tgt := 112) dX12_packs_100 (by decide) ?_
            refine JT_istore (lv' := [(6, .int (gI s 264 ((((3 : Int32) * a1) + (1 : Int32))).toNatClampNeg)), (5, .int (gI s 264 (((3 : Int32) * a1)).toNatClampNeg)), (4, .int (gI s 250 (((22 : Int32) + (gI s 264 ((((3 : Int32) * a1) + (2 : Int32))).toNatClampNeg))).toNatClampNeg)), (3, .int (gI s 264 ((((3 : Int32) * a1) + (1 : Int32))).toNatClampNeg)), (2, .int (gI s 264 (((3 : Int32) * a1)).toNatClampNeg)), (0, .ref 248), (1, .int a1)]) dX12_packs_112 (Nat.le_of_ble_eq_true rfl) rfl ?_
            refine JT_iload (q := 1) dX12_packs_114 rfl ?_
            refine JT_if_lt (tgt := 142) dX12_packs_116 (by decide) (fun hc59 => ?_) (fun hc59 => ?_)
            · have h := h.1 hc59
              refine JT_iconst (v := 0) dX12_packs_142 ic_0 ?_
              exact JS_iret dX12_packs_143 rfl (n01 (Or.inl rfl)) h
            · have h := h.2 hc59
              refine JT_iload (q := 0) dX12_packs_119 rfl ?_
              refine JT_if_lt (tgt := 142) dX12_packs_121 (by decide) (fun hc58 => ?_) (fun hc58 => ?_)
              · have h := h.1 hc58
                refine JT_iconst (v := 0) dX12_packs_142 ic_0 ?_
                exact JS_iret dX12_packs_143 rfl (n01 (Or.inl rfl)) h
              · have h := h.2 hc58
                refine JT_aload_n (q := 5) dX12_packs_124 rfl rfl ?_
                refine JT_iload (q := 1) dX12_packs_125 rfl ?_
                refine JS_callVI (M' := MX12_isLiving) (d' := 1) (As := [.int (gI s 264 (((3 : Int32) * a1)).toNatClampNeg)]) (rest := []) (P := (fun zv9 wm9 => (vX12_isLiving s (gI s 264 (((3 : Int32) * a1)).toNatClampNeg)) = zv9 ∧ s = wm9)) dX12_packs_127 cvX12_294 okX12_isLiving rfl (Nat.le_of_ble_eq_true rfl) BS_248 (Nat.le_of_ble_eq_true rfl) (Nat.le_of_ble_eq_true rfl) hci_12 (Nat.le_of_ble_eq_true rfl) (Nat.le_of_ble_eq_true rfl) (pX12_isLiving  ((gI s 264 (((3 : Int32) * a1)).toNatClampNeg))  ⟨rfl, rfl⟩) (fun zv9 wm9 hq9 => ?_)
                obtain ⟨rfl, rfl⟩ := hq9
                refine JT_if_eq (tgt := 142) dX12_packs_130 (by decide) (fun hc56 => ?_) (fun hc56 => ?_)
                · have h := h.1 hc56
                  refine JT_iconst (v := 0) dX12_packs_142 ic_0 ?_
                  exact JS_iret dX12_packs_143 rfl (n01 (Or.inl rfl)) h
                · have h := h.2 hc56
                  refine JT_aload_n (q := 5) dX12_packs_133 rfl rfl ?_
                  refine JT_iload (q := 0) dX12_packs_134 rfl ?_
                  refine JS_callVI (M' := MX12_isLiving) (d' := 1) (As := [.int (gI s 264 ((((3 : Int32) * a1) + (1 : Int32))).toNatClampNeg)]) (rest := []) (P := (fun zv9 wm9 => (vX12_isLiving s (gI s 264 ((((3 : Int32) * a1) + (1 : Int32))).toNatClampNeg)) = zv9 ∧ s = wm9)) dX12_packs_136 cvX12_294 okX12_isLiving rfl (Nat.le_of_ble_eq_true rfl) BS_248 (Nat.le_of_ble_eq_true rfl) (Nat.le_of_ble_eq_true rfl) hci_12 (Nat.le_of_ble_eq_true rfl) (Nat.le_of_ble_eq_true rfl) (pX12_isLiving  ((gI s 264 ((((3 : Int32) * a1) + (1 : Int32))).toNatClampNeg))  ⟨rfl, rfl⟩) (fun zv9 wm9 hq9 => ?_)
                  obtain ⟨rfl, rfl⟩ := hq9
                  refine JT_if_ne (tgt := 144) dX12_packs_139 (by decide) (fun hc54 => ?_) (fun hc54 => ?_)
                  · have h := h.1 hc54
                    refine JT_aload_n (q := 5) dX12_packs_144 rfl rfl ?_
                    refine JS_getR (x := 269) dX12_packs_145 flX12_92 BS_248 (Nat.le_of_ble_eq_true rfl) (Nat.le_of_ble_eq_true rfl) (Or.inr ⟨_, ct_12_44⟩) RF_248_44 ?_
                    refine JT_iload (q := 1) dX12_packs_148 rfl ?_
                    refine JT_dup2 dX12_packs_150 rfl rfl ?_
                    obtain ⟨o48, h⟩ := h
                    refine JS_iald dX12_packs_151 BS_269 (Nat.le_of_ble_eq_true rfl) (Nat.le_of_ble_eq_true rfl) o48 ?_
                    refine JT_iload (q := 2) dX12_packs_152 rfl ?_
                    refine JT_isub dX12_packs_154 ?_
                    obtain ⟨o49, h⟩ := h
                    refine JS_iast dX12_packs_155 BS_269 (Nat.le_of_ble_eq_true rfl) (Nat.le_of_ble_eq_true rfl) o49 ?_
                    obtain ⟨s50, hs50⟩ : ∃ z, z = (pI s 269 ((gI s 264 (((3 : Int32) * a1)).toNatClampNeg)).toNatClampNeg ((gI s 269 ((gI s 264 (((3 : Int32) * a1)).toNatClampNeg)).toNatClampNeg) - (gI s 250 (((22 : Int32) + (gI s 264 ((((3 : Int32) * a1) + (2 : Int32))).toNatClampNeg))).toNatClampNeg))) := ⟨_, rfl⟩
                    replace h := h s50 hs50
                    rw [← hs50]
                    refine JT_aload_n (q := 5) dX12_packs_156 rfl rfl ?_
                    refine JS_getR (x := 269) dX12_packs_157 flX12_92 BS_248 (Nat.le_of_ble_eq_true rfl) (Nat.le_of_ble_eq_true rfl) (Or.inr ⟨_, ct_12_44⟩) RF_248_44 ?_
                    refine JT_iload (q := 0) dX12_packs_160 rfl ?_
                    refine JT_dup2 dX12_packs_162 rfl rfl ?_
                    obtain ⟨o51, h⟩ := h
                    refine JS_iald dX12_packs_163 BS_269 (Nat.le_of_ble_eq_true rfl) (Nat.le_of_ble_eq_true rfl) o51 ?_
                    refine JT_iload (q := 2) dX12_packs_164 rfl ?_
                    refine JT_isub dX12_packs_166 ?_
                    obtain ⟨o52, h⟩ := h
                    refine JS_iast dX12_packs_167 BS_269 (Nat.le_of_ble_eq_true rfl) (Nat.le_of_ble_eq_true rfl) o52 ?_
                    obtain ⟨s53, hs53⟩ : ∃ z, z = (pI s50 269 ((gI s 264 ((((3 : Int32) * a1) + (1 : Int32))).toNatClampNeg)).toNatClampNeg ((gI s50 269 ((gI s 264 ((((3 : Int32) * a1) + (1 : Int32))).toNatClampNeg)).toNatClampNeg) - (gI s 250 (((22 : Int32) + (gI s 264 ((((3 : Int32) * a1) + (2 : Int32))).toNatClampNeg))).toNatClampNeg))) := ⟨_, rfl⟩
                    replace h := h s53 hs53
                    rw [← hs53]
                    refine JT_iconst (v := 1) dX12_packs_168 ic_1 ?_
                    exact JS_iret dX12_packs_169 rfl (n01 (Or.inr rfl)) h
                  · have h := h.2 hc54
                    refine JT_iconst (v := 0) dX12_packs_142 ic_0 ?_
                    exact JS_iret dX12_packs_143 rfl (n01 (Or.inl rfl)) h
      · have h := h.2 hc62
        refine JT_iconst (v := 0) dX12_packs_61 ic_0 ?_
        exact JS_iret dX12_packs_62 rfl (n01 (Or.inl rfl)) h
set_option maxRecDepth 1000000 in
theorem zX12_packs (s : SM) (a1 : Int32) : vX12_packs s a1 = 0 ∨ vX12_packs s a1 = 1 := (i01 (Or.inl rfl) (i01 (Or.inl rfl) (i01 (Or.inl rfl) (i01 (i01 (i01 (Or.inl rfl) (i01 (Or.inl rfl) (i01 (Or.inl rfl) (i01 (Or.inl rfl) (Or.inr rfl))))) (i01 (Or.inl rfl) (i01 (Or.inl rfl) (i01 (Or.inl rfl) (i01 (Or.inl rfl) (Or.inr rfl)))))) (i01 (i01 (Or.inl rfl) (i01 (Or.inl rfl) (i01 (Or.inl rfl) (i01 (Or.inl rfl) (Or.inr rfl))))) (i01 (Or.inl rfl) (i01 (Or.inl rfl) (i01 (Or.inl rfl) (i01 (Or.inl rfl) (Or.inr rfl))))))))))
set_option maxRecDepth 1000000 in
theorem pX12_packs (a1 : Int32) {s : SM} {Q : Int32 → SM → Prop} (hr : rX12_packs s a1) (h : Q (vX12_packs s a1) (mX12_packs s a1)) : KI MX12_packs 2 [.ref 248, .int a1] s Q := by
  refine bX12_packs a1 ?_
  unfold rX12_packs at hr
  unfold vX12_packs mX12_packs at h
  refine ⟨hr.1, ?_⟩
  replace hr := hr.2
  refine ⟨hr.1, ?_⟩
  replace hr := hr.2
  refine ⟨hr.1, ?_⟩
  replace hr := hr.2
  refine ⟨hr.1, ?_⟩
  replace hr := hr.2
  refine ⟨fun c => ?_, fun c => ?_⟩
  · replace h := q2p c h
    first | exact h | contradiction
  · replace hr := hr c
    replace h := q2n c h
    refine ⟨fun c => ?_, fun c => ?_⟩
    · replace h := q2p c h
      first | exact h | contradiction
    · replace hr := hr c
      replace h := q2n c h
      refine ⟨fun c => ?_, fun c => ?_⟩
      · replace hr := hr c
        replace h := q2n c h
        refine ⟨hr.1, ?_⟩
        replace hr := hr.2
        refine ⟨fun c => ?_, fun c => ?_⟩
        · replace hr := hr.1 c
          replace h := q2n c h
          refine ⟨hr.1, ?_⟩
          replace hr := hr.2
          refine ⟨hr.1, ?_⟩
          replace hr := hr.2
          refine ⟨fun c => ?_, fun c => ?_⟩
          · replace hr := hr.1 c
            replace h := q2p c h
            refine ⟨hr.1, ?_⟩
            replace hr := hr.2
            refine ⟨fun c => ?_, fun c => ?_⟩
            · replace h := q2p c h
              first | exact h | contradiction
            · replace hr := hr c
              replace h := q2n c h
              refine ⟨fun c => ?_, fun c => ?_⟩
              · replace h := q2p c h
                first | exact h | contradiction
              · replace hr := hr c
                replace h := q2n c h
                refine ⟨fun c => ?_, fun c => ?_⟩
                · replace h := q2p c h
                  first | exact h | contradiction
                · replace hr := hr c
                  replace h := q2n c h
                  refine ⟨fun c => ?_, fun c => ?_⟩
                  · replace hr := hr c
                    replace h := q2n c h
                    refine ⟨hr.1, ?_⟩
                    replace hr := hr.2
                    refine ⟨hr.1, ?_⟩
                    replace hr := hr.2
                    intro s11 e9
                    replace hr := hr s11 e9
                    try rw [← e9] at h
                    try dsimp only at h
                    refine ⟨hr.1, ?_⟩
                    replace hr := hr.2
                    refine ⟨hr, ?_⟩
                    intro s14 e9
                    try rw [← e9] at h
                    try dsimp only at h
                    first | exact h | contradiction
                  · replace h := q2p c h
                    first | exact h | contradiction
          · replace hr := hr.2 c
            replace h := q2n c h
            refine ⟨fun c => ?_, fun c => ?_⟩
            · replace h := q2p c h
              first | exact h | contradiction
            · replace hr := hr c
              replace h := q2n c h
              refine ⟨fun c => ?_, fun c => ?_⟩
              · replace h := q2p c h
                first | exact h | contradiction
              · replace hr := hr c
                replace h := q2n c h
                refine ⟨fun c => ?_, fun c => ?_⟩
                · replace h := q2p c h
                  first | exact h | contradiction
                · replace hr := hr c
                  replace h := q2n c h
                  refine ⟨fun c => ?_, fun c => ?_⟩
                  · replace hr := hr c
                    replace h := q2n c h
                    refine ⟨hr.1, ?_⟩
                    replace hr := hr.2
                    refine ⟨hr.1, ?_⟩
                    replace hr := hr.2
                    intro s23 e9
                    replace hr := hr s23 e9
                    try rw [← e9] at h
                    try dsimp only at h
                    refine ⟨hr.1, ?_⟩
                    replace hr := hr.2
                    refine ⟨hr, ?_⟩
                    intro s26 e9
                    try rw [← e9] at h
                    try dsimp only at h
                    first | exact h | contradiction
                  · replace h := q2p c h
                    first | exact h | contradiction
        · replace hr := hr.2 c
          replace h := q2p c h
          refine ⟨hr.1, ?_⟩
          replace hr := hr.2
          refine ⟨fun c => ?_, fun c => ?_⟩
          · replace hr := hr.1 c
            replace h := q2p c h
            refine ⟨hr.1, ?_⟩
            replace hr := hr.2
            refine ⟨fun c => ?_, fun c => ?_⟩
            · replace h := q2p c h
              first | exact h | contradiction
            · replace hr := hr c
              replace h := q2n c h
              refine ⟨fun c => ?_, fun c => ?_⟩
              · replace h := q2p c h
                first | exact h | contradiction
              · replace hr := hr c
                replace h := q2n c h
                refine ⟨fun c => ?_, fun c => ?_⟩
                · replace h := q2p c h
                  first | exact h | contradiction
                · replace hr := hr c
                  replace h := q2n c h
                  refine ⟨fun c => ?_, fun c => ?_⟩
                  · replace hr := hr c
                    replace h := q2n c h
                    refine ⟨hr.1, ?_⟩
                    replace hr := hr.2
                    refine ⟨hr.1, ?_⟩
                    replace hr := hr.2
                    intro s38 e9
                    replace hr := hr s38 e9
                    try rw [← e9] at h
                    try dsimp only at h
                    refine ⟨hr.1, ?_⟩
                    replace hr := hr.2
                    refine ⟨hr, ?_⟩
                    intro s41 e9
                    try rw [← e9] at h
                    try dsimp only at h
                    first | exact h | contradiction
                  · replace h := q2p c h
                    first | exact h | contradiction
          · replace hr := hr.2 c
            replace h := q2n c h
            refine ⟨fun c => ?_, fun c => ?_⟩
            · replace h := q2p c h
              first | exact h | contradiction
            · replace hr := hr c
              replace h := q2n c h
              refine ⟨fun c => ?_, fun c => ?_⟩
              · replace h := q2p c h
                first | exact h | contradiction
              · replace hr := hr c
                replace h := q2n c h
                refine ⟨fun c => ?_, fun c => ?_⟩
                · replace h := q2p c h
                  first | exact h | contradiction
                · replace hr := hr c
                  replace h := q2n c h
                  refine ⟨fun c => ?_, fun c => ?_⟩
                  · replace hr := hr c
                    replace h := q2n c h
                    refine ⟨hr.1, ?_⟩
                    replace hr := hr.2
                    refine ⟨hr.1, ?_⟩
                    replace hr := hr.2
                    intro s50 e9
                    replace hr := hr s50 e9
                    try rw [← e9] at h
                    try dsimp only at h
                    refine ⟨hr.1, ?_⟩
                    replace hr := hr.2
                    refine ⟨hr, ?_⟩
                    intro s53 e9
                    try rw [← e9] at h
                    try dsimp only at h
                    first | exact h | contradiction
                  · replace h := q2p c h
                    first | exact h | contradiction
      · replace h := q2p c h
        first | exact h | contradiction
set_option maxRecDepth 1000000 in
theorem bX12_read (a1 : Int32) (a2 : Int32) {s : SM} {Q : Int32 → SM → Prop} (h : (((vX12_isDeal (pI s 248 0 (0 : Int32)) a1) = 0 → Q (-1 : Int32) (pI s 248 0 (0 : Int32))) ∧ (¬ (vX12_isDeal (pI s 248 0 (0 : Int32)) a1) = 0 → (((vX12_isIn (pI s 248 0 (0 : Int32)) a2 (0 : Int32) (1 : Int32)) = 0 → Q (-1 : Int32) (pI s 248 0 (0 : Int32))) ∧ (¬ (vX12_isIn (pI s 248 0 (0 : Int32)) a2 (0 : Int32) (1 : Int32)) = 0 → rX12_of (pI s 248 0 (0 : Int32)) a1 ((6 : Int32) + a2) ∧ ((0 ≤ (vX12_of (pI s 248 0 (0 : Int32)) a1 ((6 : Int32) + a2)) → rX12_isRead (pI s 248 0 (0 : Int32)) a1 a2 (vX12_living (pI s 248 0 (0 : Int32)) ) ∧ Q (if (vX12_isRead (pI s 248 0 (0 : Int32)) a1 a2 (vX12_living (pI s 248 0 (0 : Int32)) )) = 0 then (0 : Int32) else (1 : Int32)) (pI s 248 0 (0 : Int32))) ∧ (¬ 0 ≤ (vX12_of (pI s 248 0 (0 : Int32)) a1 ((6 : Int32) + a2)) → Q (-1 : Int32) (pI s 248 0 (0 : Int32))))))))) : KI MX12_read 2 [.ref 248, .int a1, .int a2] s Q := by
  show BI MX12_read 2 0 [(0, .ref 248), (1, .int a1), (2, .int a2)] s Q
  refine JT_aload_n (q := 0) dX12_read_0 rfl rfl ?_
  refine JT_iconst (v := 0) dX12_read_1 ic_0 ?_
  refine JS_putI dX12_read_2 flX12_1 BS_248 (Nat.le_of_ble_eq_true rfl) (Nat.le_of_ble_eq_true rfl) ct_12_0 ?_
  refine JT_aload_n (q := 0) dX12_read_5 rfl rfl ?_
  refine JT_iload_n (q := 1) dX12_read_6 rfl rfl ?_
  refine JS_callVI (M' := MX12_isDeal) (d' := 1) (As := [.int a1]) (rest := []) (P := (fun zv9 wm9 => (vX12_isDeal (pI s 248 0 (0 : Int32)) a1) = zv9 ∧ (pI s 248 0 (0 : Int32)) = wm9)) dX12_read_7 cvX12_262 okX12_isDeal rfl (Nat.le_of_ble_eq_true rfl) BS_248 (Nat.le_of_ble_eq_true rfl) (Nat.le_of_ble_eq_true rfl) hci_12 (Nat.le_of_ble_eq_true rfl) (Nat.le_of_ble_eq_true rfl) (pX12_isDeal  (a1)  ⟨rfl, rfl⟩) (fun zv9 wm9 hq9 => ?_)
  obtain ⟨rfl, rfl⟩ := hq9
  refine JT_if_eq (tgt := 34) dX12_read_10 (by decide) (fun hc9 => ?_) (fun hc9 => ?_)
  · have h := h.1 hc9
    refine JT_iconst (v := -1) dX12_read_34 ic_m1 ?_
    exact JS_iret dX12_read_35 rfl rfl h
  · have h := h.2 hc9
    refine JT_iload_n (q := 2) dX12_read_13 rfl rfl ?_
    refine JT_iconst (v := 0) dX12_read_14 ic_0 ?_
    refine JT_iconst (v := 1) dX12_read_15 ic_1 ?_
    refine JS_callSI (M' := MX12_isIn) (d' := 0) (As := [.int a2, .int (0 : Int32), .int (1 : Int32)]) (rest := []) (P := (fun zv9 wm9 => (vX12_isIn (pI s 248 0 (0 : Int32)) a2 (0 : Int32) (1 : Int32)) = zv9 ∧ (pI s 248 0 (0 : Int32)) = wm9)) dX12_read_16 cvX12_202 okX12_isIn rfl (Nat.le_of_ble_eq_true rfl) (Nat.le_of_ble_eq_true rfl) (Nat.le_of_ble_eq_true rfl) (pX12_isIn  (a2) ((0 : Int32)) ((1 : Int32))  ⟨rfl, rfl⟩) (fun zv9 wm9 hq9 => ?_)
    obtain ⟨rfl, rfl⟩ := hq9
    refine JT_if_eq (tgt := 34) dX12_read_19 (by decide) (fun hc7 => ?_) (fun hc7 => ?_)
    · have h := h.1 hc7
      refine JT_iconst (v := -1) dX12_read_34 ic_m1 ?_
      exact JS_iret dX12_read_35 rfl rfl h
    · have h := h.2 hc7
      refine JT_aload_n (q := 0) dX12_read_22 rfl rfl ?_
      refine JT_iload_n (q := 1) dX12_read_23 rfl rfl ?_
      refine JT_bipush (v := 6) dX12_read_24 bp_6 ?_
      refine JT_iload_n (q := 2) dX12_read_26 rfl rfl ?_
      refine JT_iadd dX12_read_27 ?_
      obtain ⟨o6, h⟩ := h
      refine JS_callVI (M' := MX12_of) (d' := 0) (As := [.int a1, .int ((6 : Int32) + a2)]) (rest := []) (P := (fun zv9 wm9 => (vX12_of (pI s 248 0 (0 : Int32)) a1 ((6 : Int32) + a2)) = zv9 ∧ (pI s 248 0 (0 : Int32)) = wm9)) dX12_read_28 cvX12_265 okX12_of rfl (Nat.le_of_ble_eq_true rfl) BS_248 (Nat.le_of_ble_eq_true rfl) (Nat.le_of_ble_eq_true rfl) hci_12 (Nat.le_of_ble_eq_true rfl) (Nat.le_of_ble_eq_true rfl) (pX12_of  (a1) (((6 : Int32) + a2)) o6 ⟨rfl, rfl⟩) (fun zv9 wm9 hq9 => ?_)
      obtain ⟨rfl, rfl⟩ := hq9
      refine JT_if_ge (tgt := 36) dX12_read_31 (by decide) (fun hc5 => ?_) (fun hc5 => ?_)
      · have h := h.1 hc5
        refine JT_aload_n (q := 0) dX12_read_36 rfl rfl ?_
        refine JT_iload_n (q := 1) dX12_read_37 rfl rfl ?_
        refine JT_iload_n (q := 2) dX12_read_38 rfl rfl ?_
        refine JT_aload_n (q := 0) dX12_read_39 rfl rfl ?_
        refine JS_callVI (M' := MX12_living) (d' := 0) (As := []) (rest := [.int a2, .int a1, .ref 248]) (P := (fun zv9 wm9 => (vX12_living (pI s 248 0 (0 : Int32)) ) = zv9 ∧ (pI s 248 0 (0 : Int32)) = wm9)) dX12_read_40 cvX12_309 okX12_living rfl (Nat.le_of_ble_eq_true rfl) BS_248 (Nat.le_of_ble_eq_true rfl) (Nat.le_of_ble_eq_true rfl) hci_12 (Nat.le_of_ble_eq_true rfl) (Nat.le_of_ble_eq_true rfl) (pX12_living    ⟨rfl, rfl⟩) (fun zv9 wm9 hq9 => ?_)
        obtain ⟨rfl, rfl⟩ := hq9
        obtain ⟨o3, h⟩ := h
        refine JS_callVI (M' := MX12_isRead) (d' := 1) (As := [.int a1, .int a2, .int (vX12_living (pI s 248 0 (0 : Int32)) )]) (rest := []) (P := (fun zv9 wm9 => (vX12_isRead (pI s 248 0 (0 : Int32)) a1 a2 (vX12_living (pI s 248 0 (0 : Int32)) )) = zv9 ∧ (pI s 248 0 (0 : Int32)) = wm9)) dX12_read_43 cvX12_284 okX12_isRead rfl (Nat.le_of_ble_eq_true rfl) BS_248 (Nat.le_of_ble_eq_true rfl) (Nat.le_of_ble_eq_true rfl) hci_12 (Nat.le_of_ble_eq_true rfl) (Nat.le_of_ble_eq_true rfl) (pX12_isRead  (a1) (a2) ((vX12_living (pI s 248 0 (0 : Int32)) )) o3 ⟨rfl, rfl⟩) (fun zv9 wm9 hq9 => ?_)
        obtain ⟨rfl, rfl⟩ := hq9
        have hj1 : ∀ v : Int32, v = (if (vX12_isRead (pI s 248 0 (0 : Int32)) a1 a2 (vX12_living (pI s 248 0 (0 : Int32)) )) = 0 then (0 : Int32) else (1 : Int32)) → JT MX12_read 2 0 0 54 [(0, .ref 248), (1, .int a1), (2, .int a2)] [.int v] (std (pI s 248 0 (0 : Int32))) (KQ Q) := by
          intro v hv
          subst hv
          exact JS_iret dX12_read_54 rfl rfl h
        refine JT_if_eq (tgt := 53) dX12_read_46 (by decide) (fun hc2 => ?_) (fun hc2 => ?_)
        · refine JT_iconst (v := 0) dX12_read_53 ic_0 ?_
          exact hj1 _ (by rw [if_pos hc2])
        · refine JT_iconst (v := 1) dX12_read_49 ic_1 ?_
          refine JT_goto (tgt := 54) dX12_read_50 (by decide) ?_
          exact hj1 _ (by rw [if_neg hc2])
      · have h := h.2 hc5
        refine JT_iconst (v := -1) dX12_read_34 ic_m1 ?_
        exact JS_iret dX12_read_35 rfl rfl h
set_option maxRecDepth 1000000 in
theorem pX12_read (a1 : Int32) (a2 : Int32) {s : SM} {Q : Int32 → SM → Prop} (hr : rX12_read s a1 a2) (h : Q (vX12_read s a1 a2) (mX12_read s a1 a2)) : KI MX12_read 2 [.ref 248, .int a1, .int a2] s Q := by
  refine bX12_read a1 a2 ?_
  unfold rX12_read at hr
  unfold vX12_read mX12_read at h
  refine ⟨fun c => ?_, fun c => ?_⟩
  · replace h := qlp c h
    first | exact h | contradiction
  · replace hr := hr c
    replace h := qln c h
    refine ⟨fun c => ?_, fun c => ?_⟩
    · replace h := qlp c h
      first | exact h | contradiction
    · replace hr := hr c
      replace h := qln c h
      refine ⟨hr.1, ?_⟩
      replace hr := hr.2
      refine ⟨fun c => ?_, fun c => ?_⟩
      · replace hr := hr c
        replace h := qlp c h
        refine ⟨hr, ?_⟩
        first | exact h | contradiction
      · replace h := qln c h
        first | exact h | contradiction
set_option maxRecDepth 1000000 in
theorem bX12_sign (a1 : Int32) {s : SM} {Q : Int32 → SM → Prop} (h : ((¬ (vX12_isSign s a1) = 0 → rX12_next s  ∧ Q (1 : Int32) (mX12_next s )) ∧ ((vX12_isSign s a1) = 0 → Q (vX12_bad s (1 : Int32)) (mX12_bad s (1 : Int32))))) : KI MX12_sign 2 [.ref 248, .int a1] s Q := by
  show BI MX12_sign 2 0 [(0, .ref 248), (1, .int a1)] s Q
  refine JT_aload_n (q := 0) dX12_sign_0 rfl rfl ?_
  refine JT_iload_n (q := 1) dX12_sign_1 rfl rfl ?_
  refine JS_callVI (M' := MX12_isSign) (d' := 0) (As := [.int a1]) (rest := []) (P := (fun zv9 wm9 => (vX12_isSign s a1) = zv9 ∧ s = wm9)) dX12_sign_2 cvX12_193 okX12_isSign rfl (Nat.le_of_ble_eq_true rfl) BS_248 (Nat.le_of_ble_eq_true rfl) (Nat.le_of_ble_eq_true rfl) hci_12 (Nat.le_of_ble_eq_true rfl) (Nat.le_of_ble_eq_true rfl) (pX12_isSign  (a1)  ⟨rfl, rfl⟩) (fun zv9 wm9 hq9 => ?_)
  obtain ⟨rfl, rfl⟩ := hq9
  refine JT_if_ne (tgt := 14) dX12_sign_5 (by decide) (fun hc3 => ?_) (fun hc3 => ?_)
  · have h := h.1 hc3
    refine JT_aload_n (q := 0) dX12_sign_14 rfl rfl ?_
    obtain ⟨o1, h⟩ := h
    refine JS_callVV (M' := MX12_next) (d' := 1) (As := []) (rest := []) (P := (fun wm9 => (mX12_next s ) = wm9)) dX12_sign_15 cvX12_199 okX12_next rfl (Nat.le_of_ble_eq_true rfl) BS_248 (Nat.le_of_ble_eq_true rfl) (Nat.le_of_ble_eq_true rfl) hci_12 (Nat.le_of_ble_eq_true rfl) (Nat.le_of_ble_eq_true rfl) (pX12_next   o1 rfl) (fun wm9 hq9 => ?_)
    subst hq9
    refine JT_iconst (v := 1) dX12_sign_18 ic_1 ?_
    exact JS_iret dX12_sign_19 rfl (n01 (Or.inr rfl)) h
  · have h := h.2 hc3
    refine JT_aload_n (q := 0) dX12_sign_8 rfl rfl ?_
    refine JT_iconst (v := 1) dX12_sign_9 ic_1 ?_
    refine JS_callVI (M' := MX12_bad) (d' := 0) (As := [.int (1 : Int32)]) (rest := []) (P := (fun zv9 wm9 => (vX12_bad s (1 : Int32)) = zv9 ∧ (mX12_bad s (1 : Int32)) = wm9)) dX12_sign_10 cvX12_196 okX12_bad rfl (Nat.le_of_ble_eq_true rfl) BS_248 (Nat.le_of_ble_eq_true rfl) (Nat.le_of_ble_eq_true rfl) hci_12 (Nat.le_of_ble_eq_true rfl) (Nat.le_of_ble_eq_true rfl) (pX12_bad  ((1 : Int32))  ⟨rfl, rfl⟩) (fun zv9 wm9 hq9 => ?_)
    obtain ⟨rfl, rfl⟩ := hq9
    exact JS_iret dX12_sign_13 rfl (n01 (zX12_bad s (1 : Int32))) h
set_option maxRecDepth 1000000 in
theorem zX12_sign (s : SM) (a1 : Int32) : vX12_sign s a1 = 0 ∨ vX12_sign s a1 = 1 := (i01 (zX12_bad s (1 : Int32)) (Or.inr rfl))
set_option maxRecDepth 1000000 in
theorem pX12_sign (a1 : Int32) {s : SM} {Q : Int32 → SM → Prop} (hr : rX12_sign s a1) (h : Q (vX12_sign s a1) (mX12_sign s a1)) : KI MX12_sign 2 [.ref 248, .int a1] s Q := by
  refine bX12_sign a1 ?_
  unfold rX12_sign at hr
  unfold vX12_sign mX12_sign at h
  refine ⟨fun c => ?_, fun c => ?_⟩
  · replace hr := hr c
    replace h := q2n c h
    refine ⟨hr, ?_⟩
    first | exact h | contradiction
  · replace h := q2p c h
    first | exact h | contradiction
