set_option maxRecDepth 20000 in
theorem bX12_owedBy_6 (a1 : Int32) (a2 : Int32) (a3 : Int32) (a4 : Int32) (a5 : Int32) {s : SM} {Q : Int32 → SM → Prop} (h : (((gI s 250 ((34 : Int32)).toNatClampNeg) ≤ a5 → Q a4 s) ∧ (¬ (gI s 250 ((34 : Int32)).toNatClampNeg) ≤ a5 → rX12_isOpen s a5 ∧ (((vX12_isOpen s a5) = 0 → BI MX12_owedBy 3 6 [(0, .ref 248), (1, .int a1), (2, .int a2), (3, .int a3), (4, .int a4), (5, .int (a5 + 1))] s Q) ∧ (¬ (vX12_isOpen s a5) = 0 → rX12_of s a5 (0 : Int32) ∧ (((vX12_of s a5 (0 : Int32)) = a1 → rX12_of s a5 (6 : Int32) ∧ (((vX12_of s a5 (6 : Int32)) < 0 → BI MX12_owedBy 3 67 [(0, .ref 248), (1, .int a1), (2, .int a2), (3, .int a3), (4, .int a4), (5, .int a5)] s Q) ∧ (¬ (vX12_of s a5 (6 : Int32)) < 0 → rX12_of s a5 (6 : Int32) ∧ ((¬ (vX12_has s a2 (vX12_of s a5 (6 : Int32))) = 0 → BI MX12_owedBy 3 93 [(0, .ref 248), (1, .int a1), (2, .int a2), (3, .int a3), (4, .int a4), (5, .int a5)] s Q) ∧ ((vX12_has s a2 (vX12_of s a5 (6 : Int32))) = 0 → BI MX12_owedBy 3 67 [(0, .ref 248), (1, .int a1), (2, .int a2), (3, .int a3), (4, .int a4), (5, .int a5)] s Q))))) ∧ (¬ (vX12_of s a5 (0 : Int32)) = a1 → BI MX12_owedBy 3 6 [(0, .ref 248), (1, .int a1), (2, .int a2), (3, .int a3), (4, .int a4), (5, .int (a5 + 1))] s Q))))))) : BI MX12_owedBy 3 6 [(0, .ref 248), (1, .int a1), (2, .int a2), (3, .int a3), (4, .int a4), (5, .int a5)] s Q := by
  refine JT_iload (q := 5) dX12_owedBy_6 rfl ?_
  refine JT_aload_n (q := 0) dX12_owedBy_8 rfl rfl ?_
  refine JS_getR (x := 250) dX12_owedBy_9 flX12_33 BS_248 (Nat.le_of_ble_eq_true rfl) (Nat.le_of_ble_eq_true rfl) (Or.inr ⟨_, ct_12_6⟩) RF_248_6 ?_
  refine JT_bipush (v := 34) dX12_owedBy_12 bp_34 ?_
  refine JS_iald dX12_owedBy_14 BS_250 (Nat.le_of_ble_eq_true rfl) (Nat.le_of_ble_eq_true rfl) (by unfold vp_in; decide) ?_
  refine JT_icmp_ge (tgt := 156) dX12_owedBy_15 (by decide) (fun hc10 => ?_) (fun hc10 => ?_)
  · have h := h.1 hc10
    refine JT_iload (q := 4) dX12_owedBy_156 rfl ?_
    exact JS_iret dX12_owedBy_158 rfl rfl h
  · have h := h.2 hc10
    refine JT_aload_n (q := 0) dX12_owedBy_18 rfl rfl ?_
    refine JT_iload (q := 5) dX12_owedBy_19 rfl ?_
    obtain ⟨o9, h⟩ := h
    refine JS_callVI (M' := MX12_isOpen) (d' := 2) (As := [.int a5]) (rest := []) (P := (fun zv9 wm9 => (vX12_isOpen s a5) = zv9 ∧ s = wm9)) dX12_owedBy_21 cvX12_278 okX12_isOpen rfl (Nat.le_of_ble_eq_true rfl) BS_248 (Nat.le_of_ble_eq_true rfl) (Nat.le_of_ble_eq_true rfl) hci_12 (Nat.le_of_ble_eq_true rfl) (Nat.le_of_ble_eq_true rfl) (pX12_isOpen  (a5) o9 ⟨rfl, rfl⟩) (fun zv9 wm9 hq9 => ?_)
    obtain ⟨rfl, rfl⟩ := hq9
    refine JT_if_eq (tgt := 150) dX12_owedBy_24 (by decide) (fun hc8 => ?_) (fun hc8 => ?_)
    · have h := h.1 hc8
      refine JT_iinc (q := 5) (v := (a5 + 1)) (lv' := [(5, .int (a5 + 1)), (0, .ref 248), (1, .int a1), (2, .int a2), (3, .int a3), (4, .int a4)]) dX12_owedBy_150 rfl (by rfl) (Nat.le_of_ble_eq_true rfl) rfl ?_
      refine JT_goto (tgt := 6) dX12_owedBy_153 (by decide) ?_
      exact JT_sub [1, 2, 3, 4, 5, 0] rfl h
    · have h := h.2 hc8
      refine JT_aload_n (q := 0) dX12_owedBy_27 rfl rfl ?_
      refine JT_iload (q := 5) dX12_owedBy_28 rfl ?_
      refine JT_iconst (v := 0) dX12_owedBy_30 ic_0 ?_
      obtain ⟨o7, h⟩ := h
      refine JS_callVI (M' := MX12_of) (d' := 0) (As := [.int a5, .int (0 : Int32)]) (rest := []) (P := (fun zv9 wm9 => (vX12_of s a5 (0 : Int32)) = zv9 ∧ s = wm9)) dX12_owedBy_31 cvX12_265 okX12_of rfl (Nat.le_of_ble_eq_true rfl) BS_248 (Nat.le_of_ble_eq_true rfl) (Nat.le_of_ble_eq_true rfl) hci_12 (Nat.le_of_ble_eq_true rfl) (Nat.le_of_ble_eq_true rfl) (pX12_of  (a5) ((0 : Int32)) o7 ⟨rfl, rfl⟩) (fun zv9 wm9 hq9 => ?_)
      obtain ⟨rfl, rfl⟩ := hq9
      refine JT_iload_n (q := 1) dX12_owedBy_34 rfl rfl ?_
      refine JT_icmp_eq (tgt := 41) dX12_owedBy_35 (by decide) (fun hc6 => ?_) (fun hc6 => ?_)
      · have h := h.1 hc6
        refine JT_aload_n (q := 0) dX12_owedBy_41 rfl rfl ?_
        refine JT_iload (q := 5) dX12_owedBy_42 rfl ?_
        refine JT_bipush (v := 6) dX12_owedBy_44 bp_6 ?_
        obtain ⟨o5, h⟩ := h
        refine JS_callVI (M' := MX12_of) (d' := 0) (As := [.int a5, .int (6 : Int32)]) (rest := []) (P := (fun zv9 wm9 => (vX12_of s a5 (6 : Int32)) = zv9 ∧ s = wm9)) dX12_owedBy_46 cvX12_265 okX12_of rfl (Nat.le_of_ble_eq_true rfl) BS_248 (Nat.le_of_ble_eq_true rfl) (Nat.le_of_ble_eq_true rfl) hci_12 (Nat.le_of_ble_eq_true rfl) (Nat.le_of_ble_eq_true rfl) (pX12_of  (a5) ((6 : Int32)) o5 ⟨rfl, rfl⟩) (fun zv9 wm9 hq9 => ?_)
        obtain ⟨rfl, rfl⟩ := hq9
        refine JT_if_lt (tgt := 67) dX12_owedBy_49 (by decide) (fun hc4 => ?_) (fun hc4 => ?_)
        · have h := h.1 hc4
          exact JT_sub [0, 1, 2, 3, 4, 5] rfl h
        · have h := h.2 hc4
          refine JT_iload_n (q := 2) dX12_owedBy_52 rfl rfl ?_
          refine JT_aload_n (q := 0) dX12_owedBy_53 rfl rfl ?_
          refine JT_iload (q := 5) dX12_owedBy_54 rfl ?_
          refine JT_bipush (v := 6) dX12_owedBy_56 bp_6 ?_
          obtain ⟨o3, h⟩ := h
          refine JS_callVI (M' := MX12_of) (d' := 0) (As := [.int a5, .int (6 : Int32)]) (rest := [.int a2]) (P := (fun zv9 wm9 => (vX12_of s a5 (6 : Int32)) = zv9 ∧ s = wm9)) dX12_owedBy_58 cvX12_265 okX12_of rfl (Nat.le_of_ble_eq_true rfl) BS_248 (Nat.le_of_ble_eq_true rfl) (Nat.le_of_ble_eq_true rfl) hci_12 (Nat.le_of_ble_eq_true rfl) (Nat.le_of_ble_eq_true rfl) (pX12_of  (a5) ((6 : Int32)) o3 ⟨rfl, rfl⟩) (fun zv9 wm9 hq9 => ?_)
          obtain ⟨rfl, rfl⟩ := hq9
          refine JS_callSI (M' := MX12_has) (d' := 0) (As := [.int a2, .int (vX12_of s a5 (6 : Int32))]) (rest := []) (P := (fun zv9 wm9 => (vX12_has s a2 (vX12_of s a5 (6 : Int32))) = zv9 ∧ s = wm9)) dX12_owedBy_61 cvX12_259 okX12_has rfl (Nat.le_of_ble_eq_true rfl) (Nat.le_of_ble_eq_true rfl) (Nat.le_of_ble_eq_true rfl) (pX12_has  (a2) ((vX12_of s a5 (6 : Int32)))  ⟨rfl, rfl⟩) (fun zv9 wm9 hq9 => ?_)
          obtain ⟨rfl, rfl⟩ := hq9
          refine JT_if_ne (tgt := 93) dX12_owedBy_64 (by decide) (fun hc1 => ?_) (fun hc1 => ?_)
          · have h := h.1 hc1
            exact JT_sub [0, 1, 2, 3, 4, 5] rfl h
          · have h := h.2 hc1
            exact JT_sub [0, 1, 2, 3, 4, 5] rfl h
      · have h := h.2 hc6
        refine JT_goto (tgt := 150) dX12_owedBy_38 (by decide) ?_
        refine JT_iinc (q := 5) (v := (a5 + 1)) (lv' := [(5, .int (a5 + 1)), (0, .ref 248), (1, .int a1), (2, .int a2), (3, .int a3), (4, .int a4)]) dX12_owedBy_150 rfl (by rfl) (Nat.le_of_ble_eq_true rfl) rfl ?_
        refine JT_goto (tgt := 6) dX12_owedBy_153 (by decide) ?_
        exact JT_sub [1, 2, 3, 4, 5, 0] rfl h
set_option maxRecDepth 20000 in
theorem bX12_owedBy_67 (a1 : Int32) (a2 : Int32) (a3 : Int32) (a4 : Int32) (a5 : Int32) {s : SM} {Q : Int32 → SM → Prop} (h : rX12_of s a5 (7 : Int32) ∧ (((vX12_of s a5 (7 : Int32)) < 0 → BI MX12_owedBy 3 97 [(0, .ref 248), (1, .int a1), (2, .int a2), (3, .int a3), (4, .int a4), (5, .int a5)] s Q) ∧ (¬ (vX12_of s a5 (7 : Int32)) < 0 → rX12_of s a5 (7 : Int32) ∧ (((vX12_has s a2 (vX12_of s a5 (7 : Int32))) = 0 → BI MX12_owedBy 3 97 [(0, .ref 248), (1, .int a1), (2, .int a2), (3, .int a3), (4, .int a4), (5, .int a5)] s Q) ∧ (¬ (vX12_has s a2 (vX12_of s a5 (7 : Int32))) = 0 → BI MX12_owedBy 3 93 [(0, .ref 248), (1, .int a1), (2, .int a2), (3, .int a3), (4, .int a4), (5, .int a5)] s Q))))) : BI MX12_owedBy 3 67 [(0, .ref 248), (1, .int a1), (2, .int a2), (3, .int a3), (4, .int a4), (5, .int a5)] s Q := by
  refine JT_aload_n (q := 0) dX12_owedBy_67 rfl rfl ?_
  refine JT_iload (q := 5) dX12_owedBy_68 rfl ?_
  refine JT_bipush (v := 7) dX12_owedBy_70 bp_7 ?_
  obtain ⟨o5, h⟩ := h
  refine JS_callVI (M' := MX12_of) (d' := 0) (As := [.int a5, .int (7 : Int32)]) (rest := []) (P := (fun zv9 wm9 => (vX12_of s a5 (7 : Int32)) = zv9 ∧ s = wm9)) dX12_owedBy_72 cvX12_265 okX12_of rfl (Nat.le_of_ble_eq_true rfl) BS_248 (Nat.le_of_ble_eq_true rfl) (Nat.le_of_ble_eq_true rfl) hci_12 (Nat.le_of_ble_eq_true rfl) (Nat.le_of_ble_eq_true rfl) (pX12_of  (a5) ((7 : Int32)) o5 ⟨rfl, rfl⟩) (fun zv9 wm9 hq9 => ?_)
  obtain ⟨rfl, rfl⟩ := hq9
  refine JT_if_lt (tgt := 97) dX12_owedBy_75 (by decide) (fun hc4 => ?_) (fun hc4 => ?_)
  · have h := h.1 hc4
    exact JT_sub [0, 1, 2, 3, 4, 5] rfl h
  · have h := h.2 hc4
    refine JT_iload_n (q := 2) dX12_owedBy_78 rfl rfl ?_
    refine JT_aload_n (q := 0) dX12_owedBy_79 rfl rfl ?_
    refine JT_iload (q := 5) dX12_owedBy_80 rfl ?_
    refine JT_bipush (v := 7) dX12_owedBy_82 bp_7 ?_
    obtain ⟨o3, h⟩ := h
    refine JS_callVI (M' := MX12_of) (d' := 0) (As := [.int a5, .int (7 : Int32)]) (rest := [.int a2]) (P := (fun zv9 wm9 => (vX12_of s a5 (7 : Int32)) = zv9 ∧ s = wm9)) dX12_owedBy_84 cvX12_265 okX12_of rfl (Nat.le_of_ble_eq_true rfl) BS_248 (Nat.le_of_ble_eq_true rfl) (Nat.le_of_ble_eq_true rfl) hci_12 (Nat.le_of_ble_eq_true rfl) (Nat.le_of_ble_eq_true rfl) (pX12_of  (a5) ((7 : Int32)) o3 ⟨rfl, rfl⟩) (fun zv9 wm9 hq9 => ?_)
    obtain ⟨rfl, rfl⟩ := hq9
    refine JS_callSI (M' := MX12_has) (d' := 0) (As := [.int a2, .int (vX12_of s a5 (7 : Int32))]) (rest := []) (P := (fun zv9 wm9 => (vX12_has s a2 (vX12_of s a5 (7 : Int32))) = zv9 ∧ s = wm9)) dX12_owedBy_87 cvX12_259 okX12_has rfl (Nat.le_of_ble_eq_true rfl) (Nat.le_of_ble_eq_true rfl) (Nat.le_of_ble_eq_true rfl) (pX12_has  (a2) ((vX12_of s a5 (7 : Int32)))  ⟨rfl, rfl⟩) (fun zv9 wm9 hq9 => ?_)
    obtain ⟨rfl, rfl⟩ := hq9
    refine JT_if_eq (tgt := 97) dX12_owedBy_90 (by decide) (fun hc1 => ?_) (fun hc1 => ?_)
    · have h := h.1 hc1
      exact JT_sub [0, 1, 2, 3, 4, 5] rfl h
    · have h := h.2 hc1
      exact JT_sub [0, 1, 2, 3, 4, 5] rfl h
set_option maxRecDepth 20000 in
theorem bX12_owedBy_93 (a1 : Int32) (a2 : Int32) (a3 : Int32) (a4 : Int32) (a5 : Int32) {s : SM} {Q : Int32 → SM → Prop} (h : rX12_isKnown s a5 a2 ∧ (((vX12_isKnown s a5 a2) = 0 → ((¬ a3 = 0 → BI MX12_owedBy 3 6 [(0, .ref 248), (1, .int a1), (2, .int a2), (3, .int a3), (4, .int a4), (5, .int (a5 + 1))] s Q) ∧ (a3 = 0 → (((1 : Int32) = 0 → BI MX12_owedBy 3 6 [(0, .ref 248), (1, .int a1), (2, .int a2), (3, .int a3), (4, .int a4), (5, .int (a5 + 1))] s Q) ∧ (¬ (1 : Int32) = 0 → rX12_sortOf s a5 ∧ BI MX12_owedBy 3 6 [(0, .ref 248), (1, .int a1), (2, .int a2), (3, .int a3), (4, .int (a4 + (vX12_valueBy s (99 : Int32) (vX12_sortOf s a5)))), (5, .int (a5 + 1))] s Q))))) ∧ (¬ (vX12_isKnown s a5 a2) = 0 → rX12_valueOf s a5 ∧ BI MX12_owedBy 3 6 [(0, .ref 248), (1, .int a1), (2, .int a2), (3, .int a3), (4, .int (a4 + (vX12_valueOf s a5))), (5, .int (a5 + 1))] s Q))) : BI MX12_owedBy 3 93 [(0, .ref 248), (1, .int a1), (2, .int a2), (3, .int a3), (4, .int a4), (5, .int a5)] s Q := by
  refine JT_iconst (v := 1) dX12_owedBy_93 ic_1 ?_
  refine JT_goto (tgt := 98) dX12_owedBy_94 (by decide) ?_
  refine JT_istore (lv' := [(6, .int (1 : Int32)), (0, .ref 248), (1, .int a1), (2, .int a2), (3, .int a3), (4, .int a4), (5, .int a5)]) dX12_owedBy_98 (Nat.le_of_ble_eq_true rfl) rfl ?_
  refine JT_aload_n (q := 1) dX12_owedBy_100 rfl rfl ?_
  refine JT_iload (q := 6) dX12_owedBy_101 rfl ?_
  refine JT_iload_n (q := 3) dX12_owedBy_103 rfl rfl ?_
  obtain ⟨o7, h⟩ := h
  refine JS_callVI (M' := MX12_isKnown) (d' := 2) (As := [.int a5, .int a2]) (rest := []) (P := (fun zv9 wm9 => (vX12_isKnown s a5 a2) = zv9 ∧ s = wm9)) dX12_owedBy_104 cvX12_312 okX12_isKnown rfl (Nat.le_of_ble_eq_true rfl) BS_248 (Nat.le_of_ble_eq_true rfl) (Nat.le_of_ble_eq_true rfl) hci_12 (Nat.le_of_ble_eq_true rfl) (Nat.le_of_ble_eq_true rfl) (pX12_isKnown  (a5) (a2) o7 ⟨rfl, rfl⟩) (fun zv9 wm9 hq9 => ?_)
  obtain ⟨rfl, rfl⟩ := hq9
  refine JT_if_eq (tgt := 124) dX12_owedBy_107 (by decide) (fun hc6 => ?_) (fun hc6 => ?_)
  · have h := h.1 hc6
    refine JT_iload_n (q := 4) dX12_owedBy_124 rfl rfl ?_
    refine JT_if_ne (tgt := 150) dX12_owedBy_125 (by decide) (fun hc4 => ?_) (fun hc4 => ?_)
    · have h := h.1 hc4
      refine JT_iinc (q := 6) (v := (a5 + 1)) (lv' := [(5, .int (a5 + 1)), (6, .int (1 : Int32)), (0, .ref 248), (1, .int a1), (2, .int a2), (3, .int a3), (4, .int a4)]) dX12_owedBy_150 rfl (by rfl) (Nat.le_of_ble_eq_true rfl) rfl ?_
      refine JT_goto (tgt := 6) dX12_owedBy_153 (by decide) ?_
      exact JT_sub [2, 3, 4, 5, 6, 0] rfl h
    · have h := h.2 hc4
      refine JT_iload (q := 0) dX12_owedBy_128 rfl ?_
      refine JT_if_eq (tgt := 150) dX12_owedBy_130 (by decide) (fun hc3 => ?_) (fun hc3 => ?_)
      · have h := h.1 hc3
        refine JT_iinc (q := 6) (v := (a5 + 1)) (lv' := [(5, .int (a5 + 1)), (6, .int (1 : Int32)), (0, .ref 248), (1, .int a1), (2, .int a2), (3, .int a3), (4, .int a4)]) dX12_owedBy_150 rfl (by rfl) (Nat.le_of_ble_eq_true rfl) rfl ?_
        refine JT_goto (tgt := 6) dX12_owedBy_153 (by decide) ?_
        exact JT_sub [2, 3, 4, 5, 6, 0] rfl h
      · have h := h.2 hc3
        refine JT_iload (q := 5) dX12_owedBy_133 rfl ?_
        refine JT_aload_n (q := 1) dX12_owedBy_135 rfl rfl ?_
        refine JT_bipush (v := 99) dX12_owedBy_136 bp_99 ?_
        refine JT_aload_n (q := 1) dX12_owedBy_138 rfl rfl ?_
        refine JT_iload (q := 6) dX12_owedBy_139 rfl ?_
        obtain ⟨o2, h⟩ := h
        refine JS_callVI (M' := MX12_sortOf) (d' := 1) (As := [.int a5]) (rest := [.int (99 : Int32), .ref 248, .int a4]) (P := (fun zv9 wm9 => (vX12_sortOf s a5) = zv9 ∧ s = wm9)) dX12_owedBy_141 cvX12_272 okX12_sortOf rfl (Nat.le_of_ble_eq_true rfl) BS_248 (Nat.le_of_ble_eq_true rfl) (Nat.le_of_ble_eq_true rfl) hci_12 (Nat.le_of_ble_eq_true rfl) (Nat.le_of_ble_eq_true rfl) (pX12_sortOf  (a5) o2 ⟨rfl, rfl⟩) (fun zv9 wm9 hq9 => ?_)
        obtain ⟨rfl, rfl⟩ := hq9
        refine JS_callVI (M' := MX12_valueBy) (d' := 0) (As := [.int (99 : Int32), .int (vX12_sortOf s a5)]) (rest := [.int a4]) (P := (fun zv9 wm9 => (vX12_valueBy s (99 : Int32) (vX12_sortOf s a5)) = zv9 ∧ s = wm9)) dX12_owedBy_144 cvX12_275 okX12_valueBy rfl (Nat.le_of_ble_eq_true rfl) BS_248 (Nat.le_of_ble_eq_true rfl) (Nat.le_of_ble_eq_true rfl) hci_12 (Nat.le_of_ble_eq_true rfl) (Nat.le_of_ble_eq_true rfl) (pX12_valueBy  ((99 : Int32)) ((vX12_sortOf s a5))  ⟨rfl, rfl⟩) (fun zv9 wm9 hq9 => ?_)
        obtain ⟨rfl, rfl⟩ := hq9
        refine JT_iadd dX12_owedBy_147 ?_
        refine JT_istore (lv' := [(4, .int (a4 + (vX12_valueBy s (99 : Int32) (vX12_sortOf s a5)))), (6, .int (1 : Int32)), (0, .ref 248), (1, .int a1), (2, .int a2), (3, .int a3), (5, .int a5)]) dX12_owedBy_148 (Nat.le_of_ble_eq_true rfl) rfl ?_
        refine JT_iinc (q := 6) (v := (a5 + 1)) (lv' := [(5, .int (a5 + 1)), (4, .int (a4 + (vX12_valueBy s (99 : Int32) (vX12_sortOf s a5)))), (6, .int (1 : Int32)), (0, .ref 248), (1, .int a1), (2, .int a2), (3, .int a3)]) dX12_owedBy_150 rfl (by rfl) (Nat.le_of_ble_eq_true rfl) rfl ?_
        refine JT_goto (tgt := 6) dX12_owedBy_153 (by decide) ?_
        exact JT_sub [3, 4, 5, 6, 1, 0] rfl h
  · have h := h.2 hc6
    refine JT_iload (q := 5) dX12_owedBy_110 rfl ?_
    refine JT_aload_n (q := 1) dX12_owedBy_112 rfl rfl ?_
    refine JT_iload (q := 6) dX12_owedBy_113 rfl ?_
    obtain ⟨o5, h⟩ := h
    refine JS_callVI (M' := MX12_valueOf) (d' := 2) (As := [.int a5]) (rest := [.int a4]) (P := (fun zv9 wm9 => (vX12_valueOf s a5) = zv9 ∧ s = wm9)) dX12_owedBy_115 cvX12_281 okX12_valueOf rfl (Nat.le_of_ble_eq_true rfl) BS_248 (Nat.le_of_ble_eq_true rfl) (Nat.le_of_ble_eq_true rfl) hci_12 (Nat.le_of_ble_eq_true rfl) (Nat.le_of_ble_eq_true rfl) (pX12_valueOf  (a5) o5 ⟨rfl, rfl⟩) (fun zv9 wm9 hq9 => ?_)
    obtain ⟨rfl, rfl⟩ := hq9
    refine JT_iadd dX12_owedBy_118 ?_
    refine JT_istore (lv' := [(4, .int (a4 + (vX12_valueOf s a5))), (6, .int (1 : Int32)), (0, .ref 248), (1, .int a1), (2, .int a2), (3, .int a3), (5, .int a5)]) dX12_owedBy_119 (Nat.le_of_ble_eq_true rfl) rfl ?_
    refine JT_goto (tgt := 150) dX12_owedBy_121 (by decide) ?_
    refine JT_iinc (q := 6) (v := (a5 + 1)) (lv' := [(5, .int (a5 + 1)), (4, .int (a4 + (vX12_valueOf s a5))), (6, .int (1 : Int32)), (0, .ref 248), (1, .int a1), (2, .int a2), (3, .int a3)]) dX12_owedBy_150 rfl (by rfl) (Nat.le_of_ble_eq_true rfl) rfl ?_
    refine JT_goto (tgt := 6) dX12_owedBy_153 (by decide) ?_
    exact JT_sub [3, 4, 5, 6, 1, 0] rfl h
set_option maxRecDepth 20000 in
theorem bX12_owedBy_97 (a1 : Int32) (a2 : Int32) (a3 : Int32) (a4 : Int32) (a5 : Int32) {s : SM} {Q : Int32 → SM → Prop} (h : rX12_isKnown s a5 a2 ∧ (((vX12_isKnown s a5 a2) = 0 → ((¬ a3 = 0 → BI MX12_owedBy 3 6 [(0, .ref 248), (1, .int a1), (2, .int a2), (3, .int a3), (4, .int a4), (5, .int (a5 + 1))] s Q) ∧ (a3 = 0 → (((0 : Int32) = 0 → BI MX12_owedBy 3 6 [(0, .ref 248), (1, .int a1), (2, .int a2), (3, .int a3), (4, .int a4), (5, .int (a5 + 1))] s Q) ∧ (¬ (0 : Int32) = 0 → rX12_sortOf s a5 ∧ BI MX12_owedBy 3 6 [(0, .ref 248), (1, .int a1), (2, .int a2), (3, .int a3), (4, .int (a4 + (vX12_valueBy s (99 : Int32) (vX12_sortOf s a5)))), (5, .int (a5 + 1))] s Q))))) ∧ (¬ (vX12_isKnown s a5 a2) = 0 → rX12_valueOf s a5 ∧ BI MX12_owedBy 3 6 [(0, .ref 248), (1, .int a1), (2, .int a2), (3, .int a3), (4, .int (a4 + (vX12_valueOf s a5))), (5, .int (a5 + 1))] s Q))) : BI MX12_owedBy 3 97 [(0, .ref 248), (1, .int a1), (2, .int a2), (3, .int a3), (4, .int a4), (5, .int a5)] s Q := by
  refine JT_iconst (v := 0) dX12_owedBy_97 ic_0 ?_
  refine JT_istore (lv' := [(6, .int (0 : Int32)), (0, .ref 248), (1, .int a1), (2, .int a2), (3, .int a3), (4, .int a4), (5, .int a5)]) dX12_owedBy_98 (Nat.le_of_ble_eq_true rfl) rfl ?_
  refine JT_aload_n (q := 1) dX12_owedBy_100 rfl rfl ?_
  refine JT_iload (q := 6) dX12_owedBy_101 rfl ?_
  refine JT_iload_n (q := 3) dX12_owedBy_103 rfl rfl ?_
  obtain ⟨o7, h⟩ := h
  refine JS_callVI (M' := MX12_isKnown) (d' := 2) (As := [.int a5, .int a2]) (rest := []) (P := (fun zv9 wm9 => (vX12_isKnown s a5 a2) = zv9 ∧ s = wm9)) dX12_owedBy_104 cvX12_312 okX12_isKnown rfl (Nat.le_of_ble_eq_true rfl) BS_248 (Nat.le_of_ble_eq_true rfl) (Nat.le_of_ble_eq_true rfl) hci_12 (Nat.le_of_ble_eq_true rfl) (Nat.le_of_ble_eq_true rfl) (pX12_isKnown  (a5) (a2) o7 ⟨rfl, rfl⟩) (fun zv9 wm9 hq9 => ?_)
  obtain ⟨rfl, rfl⟩ := hq9
  refine JT_if_eq (tgt := 124) dX12_owedBy_107 (by decide) (fun hc6 => ?_) (fun hc6 => ?_)
  · have h := h.1 hc6
    refine JT_iload_n (q := 4) dX12_owedBy_124 rfl rfl ?_
    refine JT_if_ne (tgt := 150) dX12_owedBy_125 (by decide) (fun hc4 => ?_) (fun hc4 => ?_)
    · have h := h.1 hc4
      refine JT_iinc (q := 6) (v := (a5 + 1)) (lv' := [(5, .int (a5 + 1)), (6, .int (0 : Int32)), (0, .ref 248), (1, .int a1), (2, .int a2), (3, .int a3), (4, .int a4)]) dX12_owedBy_150 rfl (by rfl) (Nat.le_of_ble_eq_true rfl) rfl ?_
      refine JT_goto (tgt := 6) dX12_owedBy_153 (by decide) ?_
      exact JT_sub [2, 3, 4, 5, 6, 0] rfl h
    · have h := h.2 hc4
      refine JT_iload (q := 0) dX12_owedBy_128 rfl ?_
      refine JT_if_eq (tgt := 150) dX12_owedBy_130 (by decide) (fun hc3 => ?_) (fun hc3 => ?_)
      · have h := h.1 hc3
        refine JT_iinc (q := 6) (v := (a5 + 1)) (lv' := [(5, .int (a5 + 1)), (6, .int (0 : Int32)), (0, .ref 248), (1, .int a1), (2, .int a2), (3, .int a3), (4, .int a4)]) dX12_owedBy_150 rfl (by rfl) (Nat.le_of_ble_eq_true rfl) rfl ?_
        refine JT_goto (tgt := 6) dX12_owedBy_153 (by decide) ?_
        exact JT_sub [2, 3, 4, 5, 6, 0] rfl h
      · have h := h.2 hc3
        refine JT_iload (q := 5) dX12_owedBy_133 rfl ?_
        refine JT_aload_n (q := 1) dX12_owedBy_135 rfl rfl ?_
        refine JT_bipush (v := 99) dX12_owedBy_136 bp_99 ?_
        refine JT_aload_n (q := 1) dX12_owedBy_138 rfl rfl ?_
        refine JT_iload (q := 6) dX12_owedBy_139 rfl ?_
        obtain ⟨o2, h⟩ := h
        refine JS_callVI (M' := MX12_sortOf) (d' := 1) (As := [.int a5]) (rest := [.int (99 : Int32), .ref 248, .int a4]) (P := (fun zv9 wm9 => (vX12_sortOf s a5) = zv9 ∧ s = wm9)) dX12_owedBy_141 cvX12_272 okX12_sortOf rfl (Nat.le_of_ble_eq_true rfl) BS_248 (Nat.le_of_ble_eq_true rfl) (Nat.le_of_ble_eq_true rfl) hci_12 (Nat.le_of_ble_eq_true rfl) (Nat.le_of_ble_eq_true rfl) (pX12_sortOf  (a5) o2 ⟨rfl, rfl⟩) (fun zv9 wm9 hq9 => ?_)
        obtain ⟨rfl, rfl⟩ := hq9
        refine JS_callVI (M' := MX12_valueBy) (d' := 0) (As := [.int (99 : Int32), .int (vX12_sortOf s a5)]) (rest := [.int a4]) (P := (fun zv9 wm9 => (vX12_valueBy s (99 : Int32) (vX12_sortOf s a5)) = zv9 ∧ s = wm9)) dX12_owedBy_144 cvX12_275 okX12_valueBy rfl (Nat.le_of_ble_eq_true rfl) BS_248 (Nat.le_of_ble_eq_true rfl) (Nat.le_of_ble_eq_true rfl) hci_12 (Nat.le_of_ble_eq_true rfl) (Nat.le_of_ble_eq_true rfl) (pX12_valueBy  ((99 : Int32)) ((vX12_sortOf s a5))  ⟨rfl, rfl⟩) (fun zv9 wm9 hq9 => ?_)
        obtain ⟨rfl, rfl⟩ := hq9
        refine JT_iadd dX12_owedBy_147 ?_
        refine JT_istore (lv' := [(4, .int (a4 + (vX12_valueBy s (99 : Int32) (vX12_sortOf s a5)))), (6, .int (0 : Int32)), (0, .ref 248), (1, .int a1), (2, .int a2), (3, .int a3), (5, .int a5)]) dX12_owedBy_148 (Nat.le_of_ble_eq_true rfl) rfl ?_
        refine JT_iinc (q := 6) (v := (a5 + 1)) (lv' := [(5, .int (a5 + 1)), (4, .int (a4 + (vX12_valueBy s (99 : Int32) (vX12_sortOf s a5)))), (6, .int (0 : Int32)), (0, .ref 248), (1, .int a1), (2, .int a2), (3, .int a3)]) dX12_owedBy_150 rfl (by rfl) (Nat.le_of_ble_eq_true rfl) rfl ?_
        refine JT_goto (tgt := 6) dX12_owedBy_153 (by decide) ?_
        exact JT_sub [3, 4, 5, 6, 1, 0] rfl h
  · have h := h.2 hc6
    refine JT_iload (q := 5) dX12_owedBy_110 rfl ?_
    refine JT_aload_n (q := 1) dX12_owedBy_112 rfl rfl ?_
    refine JT_iload (q := 6) dX12_owedBy_113 rfl ?_
    obtain ⟨o5, h⟩ := h
    refine JS_callVI (M' := MX12_valueOf) (d' := 2) (As := [.int a5]) (rest := [.int a4]) (P := (fun zv9 wm9 => (vX12_valueOf s a5) = zv9 ∧ s = wm9)) dX12_owedBy_115 cvX12_281 okX12_valueOf rfl (Nat.le_of_ble_eq_true rfl) BS_248 (Nat.le_of_ble_eq_true rfl) (Nat.le_of_ble_eq_true rfl) hci_12 (Nat.le_of_ble_eq_true rfl) (Nat.le_of_ble_eq_true rfl) (pX12_valueOf  (a5) o5 ⟨rfl, rfl⟩) (fun zv9 wm9 hq9 => ?_)
    obtain ⟨rfl, rfl⟩ := hq9
    refine JT_iadd dX12_owedBy_118 ?_
    refine JT_istore (lv' := [(4, .int (a4 + (vX12_valueOf s a5))), (6, .int (0 : Int32)), (0, .ref 248), (1, .int a1), (2, .int a2), (3, .int a3), (5, .int a5)]) dX12_owedBy_119 (Nat.le_of_ble_eq_true rfl) rfl ?_
    refine JT_goto (tgt := 150) dX12_owedBy_121 (by decide) ?_
    refine JT_iinc (q := 6) (v := (a5 + 1)) (lv' := [(5, .int (a5 + 1)), (4, .int (a4 + (vX12_valueOf s a5))), (6, .int (0 : Int32)), (0, .ref 248), (1, .int a1), (2, .int a2), (3, .int a3)]) dX12_owedBy_150 rfl (by rfl) (Nat.le_of_ble_eq_true rfl) rfl ?_
    refine JT_goto (tgt := 6) dX12_owedBy_153 (by decide) ?_
    exact JT_sub [3, 4, 5, 6, 1, 0] rfl h
set_option maxRecDepth 20000 in
theorem bX12_owedBy (a1 : Int32) (a2 : Int32) (a3 : Int32) {s : SM} {Q : Int32 → SM → Prop} (h : BI MX12_owedBy 3 6 [(0, .ref 248), (1, .int a1), (2, .int a2), (3, .int a3), (4, .int (0 : Int32)), (5, .int (0 : Int32))] s Q) : KI MX12_owedBy 3 [.ref 248, .int a1, .int a2, .int a3] s Q := by
  show BI MX12_owedBy 3 0 [(0, .ref 248), (1, .int a1), (2, .int a2), (3, .int a3)] s Q
  refine JT_iconst (v := 0) dX12_owedBy_0 ic_0 ?_
  refine JT_istore (lv' := [(4, .int (0 : Int32)), (0, .ref 248), (1, .int a1), (2, .int a2), (3, .int a3)]) dX12_owedBy_1 (Nat.le_of_ble_eq_true rfl) rfl ?_
  refine JT_iconst (v := 0) dX12_owedBy_3 ic_0 ?_
  refine JT_istore (lv' := [(5, .int (0 : Int32)), (4, .int (0 : Int32)), (0, .ref 248), (1, .int a1), (2, .int a2), (3, .int a3)]) dX12_owedBy_4 (Nat.le_of_ble_eq_true rfl) rfl ?_
  exact JT_sub [2, 3, 4, 5, 1, 0] rfl h
set_option maxRecDepth 20000 in
theorem bX12_owes_29 (a1 : Int32) (a2 : Int32) (a3 : Int32) (a4 : Int32) {s : SM} {Q : Int32 → SM → Prop} (h : (((gI s 250 ((34 : Int32)).toNatClampNeg) ≤ a4 → Q a3 s) ∧ (¬ (gI s 250 ((34 : Int32)).toNatClampNeg) ≤ a4 → rX12_isOpen s a4 ∧ (((vX12_isOpen s a4) = 0 → BI MX12_owes 3 29 [(0, .ref 248), (1, .int a1), (2, .int a2), (3, .int a3), (4, .int (a4 + 1))] s Q) ∧ (¬ (vX12_isOpen s a4) = 0 → rX12_of s a4 a2 ∧ ((¬ (vX12_of s a4 a2) = a1 → BI MX12_owes 3 29 [(0, .ref 248), (1, .int a1), (2, .int a2), (3, .int a3), (4, .int (a4 + 1))] s Q) ∧ ((vX12_of s a4 a2) = a1 → rX12_of s a4 ((1 : Int32) - a2) ∧ BI MX12_owes 3 29 [(0, .ref 248), (1, .int a1), (2, .int a2), (3, .int (a3 ||| ((1 : Int32) <<< ((vX12_of s a4 ((1 : Int32) - a2)) &&& 31)))), (4, .int (a4 + 1))] s Q))))))) : BI MX12_owes 3 29 [(0, .ref 248), (1, .int a1), (2, .int a2), (3, .int a3), (4, .int a4)] s Q := by
  refine JT_iload (q := 4) dX12_owes_29 rfl ?_
  refine JT_aload_n (q := 0) dX12_owes_31 rfl rfl ?_
  refine JS_getR (x := 250) dX12_owes_32 flX12_33 BS_248 (Nat.le_of_ble_eq_true rfl) (Nat.le_of_ble_eq_true rfl) (Or.inr ⟨_, ct_12_6⟩) RF_248_6 ?_
  refine JT_bipush (v := 34) dX12_owes_35 bp_34 ?_
  refine JS_iald dX12_owes_37 BS_250 (Nat.le_of_ble_eq_true rfl) (Nat.le_of_ble_eq_true rfl) (by unfold vp_in; decide) ?_
  refine JT_icmp_ge (tgt := 81) dX12_owes_38 (by decide) (fun hc6 => ?_) (fun hc6 => ?_)
  · have h := h.1 hc6
    refine JT_iload_n (q := 3) dX12_owes_81 rfl rfl ?_
    exact JS_iret dX12_owes_82 rfl rfl h
  · have h := h.2 hc6
    refine JT_aload_n (q := 0) dX12_owes_41 rfl rfl ?_
    refine JT_iload (q := 4) dX12_owes_42 rfl ?_
    obtain ⟨o5, h⟩ := h
    refine JS_callVI (M' := MX12_isOpen) (d' := 2) (As := [.int a4]) (rest := []) (P := (fun zv9 wm9 => (vX12_isOpen s a4) = zv9 ∧ s = wm9)) dX12_owes_44 cvX12_278 okX12_isOpen rfl (Nat.le_of_ble_eq_true rfl) BS_248 (Nat.le_of_ble_eq_true rfl) (Nat.le_of_ble_eq_true rfl) hci_12 (Nat.le_of_ble_eq_true rfl) (Nat.le_of_ble_eq_true rfl) (pX12_isOpen  (a4) o5 ⟨rfl, rfl⟩) (fun zv9 wm9 hq9 => ?_)
    obtain ⟨rfl, rfl⟩ := hq9
    refine JT_if_eq (tgt := 75) dX12_owes_47 (by decide) (fun hc4 => ?_) (fun hc4 => ?_)
    · have h := h.1 hc4
      refine JT_iinc (q := 4) (v := (a4 + 1)) (lv' := [(4, .int (a4 + 1)), (0, .ref 248), (1, .int a1), (2, .int a2), (3, .int a3)]) dX12_owes_75 rfl (by rfl) (Nat.le_of_ble_eq_true rfl) rfl ?_
      refine JT_goto (tgt := 29) dX12_owes_78 (by decide) ?_
      exact JT_sub [1, 2, 3, 4, 0] rfl h
    · have h := h.2 hc4
      refine JT_aload_n (q := 0) dX12_owes_50 rfl rfl ?_
      refine JT_iload (q := 4) dX12_owes_51 rfl ?_
      refine JT_iload_n (q := 2) dX12_owes_53 rfl rfl ?_
      obtain ⟨o3, h⟩ := h
      refine JS_callVI (M' := MX12_of) (d' := 0) (As := [.int a4, .int a2]) (rest := []) (P := (fun zv9 wm9 => (vX12_of s a4 a2) = zv9 ∧ s = wm9)) dX12_owes_54 cvX12_265 okX12_of rfl (Nat.le_of_ble_eq_true rfl) BS_248 (Nat.le_of_ble_eq_true rfl) (Nat.le_of_ble_eq_true rfl) hci_12 (Nat.le_of_ble_eq_true rfl) (Nat.le_of_ble_eq_true rfl) (pX12_of  (a4) (a2) o3 ⟨rfl, rfl⟩) (fun zv9 wm9 hq9 => ?_)
      obtain ⟨rfl, rfl⟩ := hq9
      refine JT_iload_n (q := 1) dX12_owes_57 rfl rfl ?_
      refine JT_icmp_ne (tgt := 75) dX12_owes_58 (by decide) (fun hc2 => ?_) (fun hc2 => ?_)
      · have h := h.1 hc2
        refine JT_iinc (q := 4) (v := (a4 + 1)) (lv' := [(4, .int (a4 + 1)), (0, .ref 248), (1, .int a1), (2, .int a2), (3, .int a3)]) dX12_owes_75 rfl (by rfl) (Nat.le_of_ble_eq_true rfl) rfl ?_
        refine JT_goto (tgt := 29) dX12_owes_78 (by decide) ?_
        exact JT_sub [1, 2, 3, 4, 0] rfl h
      · have h := h.2 hc2
        refine JT_iload_n (q := 3) dX12_owes_61 rfl rfl ?_
        refine JT_iconst (v := 1) dX12_owes_62 ic_1 ?_
        refine JT_aload_n (q := 0) dX12_owes_63 rfl rfl ?_
        refine JT_iload (q := 4) dX12_owes_64 rfl ?_
        refine JT_iconst (v := 1) dX12_owes_66 ic_1 ?_
        refine JT_iload_n (q := 2) dX12_owes_67 rfl rfl ?_
        refine JT_isub dX12_owes_68 ?_
        obtain ⟨o1, h⟩ := h
        refine JS_callVI (M' := MX12_of) (d' := 0) (As := [.int a4, .int ((1 : Int32) - a2)]) (rest := [.int (1 : Int32), .int a3]) (P := (fun zv9 wm9 => (vX12_of s a4 ((1 : Int32) - a2)) = zv9 ∧ s = wm9)) dX12_owes_69 cvX12_265 okX12_of rfl (Nat.le_of_ble_eq_true rfl) BS_248 (Nat.le_of_ble_eq_true rfl) (Nat.le_of_ble_eq_true rfl) hci_12 (Nat.le_of_ble_eq_true rfl) (Nat.le_of_ble_eq_true rfl) (pX12_of  (a4) (((1 : Int32) - a2)) o1 ⟨rfl, rfl⟩) (fun zv9 wm9 hq9 => ?_)
        obtain ⟨rfl, rfl⟩ := hq9
        refine JT_ishl dX12_owes_72 ?_
        refine JT_ior dX12_owes_73 ?_
        refine JT_istore_n (lv' := [(3, .int (a3 ||| ((1 : Int32) <<< ((vX12_of s a4 ((1 : Int32) - a2)) &&& 31)))), (0, .ref 248), (1, .int a1), (2, .int a2), (4, .int a4)]) dX12_owes_74 rfl (Nat.le_of_ble_eq_true rfl) rfl ?_
        refine JT_iinc (q := 4) (v := (a4 + 1)) (lv' := [(4, .int (a4 + 1)), (3, .int (a3 ||| ((1 : Int32) <<< ((vX12_of s a4 ((1 : Int32) - a2)) &&& 31)))), (0, .ref 248), (1, .int a1), (2, .int a2)]) dX12_owes_75 rfl (by rfl) (Nat.le_of_ble_eq_true rfl) rfl ?_
        refine JT_goto (tgt := 29) dX12_owes_78 (by decide) ?_
        exact JT_sub [2, 3, 4, 1, 0] rfl h
set_option maxRecDepth 20000 in
theorem bX12_owes (a1 : Int32) (a2 : Int32) {s : SM} {Q : Int32 → SM → Prop} (h : (((vX12_isBody (pI s 248 0 (0 : Int32)) a1) = 0 → Q (-1 : Int32) (pI s 248 0 (0 : Int32))) ∧ (¬ (vX12_isBody (pI s 248 0 (0 : Int32)) a1) = 0 → ((¬ (vX12_isIn (pI s 248 0 (0 : Int32)) a2 (0 : Int32) (1 : Int32)) = 0 → BI MX12_owes 3 29 [(0, .ref 248), (1, .int a1), (2, .int a2), (3, .int (0 : Int32)), (4, .int (0 : Int32))] (pI s 248 0 (0 : Int32)) Q) ∧ ((vX12_isIn (pI s 248 0 (0 : Int32)) a2 (0 : Int32) (1 : Int32)) = 0 → Q (-1 : Int32) (pI s 248 0 (0 : Int32))))))) : KI MX12_owes 3 [.ref 248, .int a1, .int a2] s Q := by
  show BI MX12_owes 3 0 [(0, .ref 248), (1, .int a1), (2, .int a2)] s Q
  refine JT_aload_n (q := 0) dX12_owes_0 rfl rfl ?_
  refine JT_iconst (v := 0) dX12_owes_1 ic_0 ?_
  refine JS_putI dX12_owes_2 flX12_1 BS_248 (Nat.le_of_ble_eq_true rfl) (Nat.le_of_ble_eq_true rfl) ct_12_0 ?_
  refine JT_aload_n (q := 0) dX12_owes_5 rfl rfl ?_
  refine JT_iload_n (q := 1) dX12_owes_6 rfl rfl ?_
  refine JS_callVI (M' := MX12_isBody) (d' := 1) (As := [.int a1]) (rest := []) (P := (fun zv9 wm9 => (vX12_isBody (pI s 248 0 (0 : Int32)) a1) = zv9 ∧ (pI s 248 0 (0 : Int32)) = wm9)) dX12_owes_7 cvX12_287 okX12_isBody rfl (Nat.le_of_ble_eq_true rfl) BS_248 (Nat.le_of_ble_eq_true rfl) (Nat.le_of_ble_eq_true rfl) hci_12 (Nat.le_of_ble_eq_true rfl) (Nat.le_of_ble_eq_true rfl) (pX12_isBody  (a1)  ⟨rfl, rfl⟩) (fun zv9 wm9 hq9 => ?_)
  obtain ⟨rfl, rfl⟩ := hq9
  refine JT_if_eq (tgt := 22) dX12_owes_10 (by decide) (fun hc3 => ?_) (fun hc3 => ?_)
  · have h := h.1 hc3
    refine JT_iconst (v := -1) dX12_owes_22 ic_m1 ?_
    exact JS_iret dX12_owes_23 rfl rfl h
  · have h := h.2 hc3
    refine JT_iload_n (q := 2) dX12_owes_13 rfl rfl ?_
    refine JT_iconst (v := 0) dX12_owes_14 ic_0 ?_
    refine JT_iconst (v := 1) dX12_owes_15 ic_1 ?_
    refine JS_callSI (M' := MX12_isIn) (d' := 0) (As := [.int a2, .int (0 : Int32), .int (1 : Int32)]) (rest := []) (P := (fun zv9 wm9 => (vX12_isIn (pI s 248 0 (0 : Int32)) a2 (0 : Int32) (1 : Int32)) = zv9 ∧ (pI s 248 0 (0 : Int32)) = wm9)) dX12_owes_16 cvX12_202 okX12_isIn rfl (Nat.le_of_ble_eq_true rfl) (Nat.le_of_ble_eq_true rfl) (Nat.le_of_ble_eq_true rfl) (pX12_isIn  (a2) ((0 : Int32)) ((1 : Int32))  ⟨rfl, rfl⟩) (fun zv9 wm9 hq9 => ?_)
    obtain ⟨rfl, rfl⟩ := hq9
    refine JT_if_ne (tgt := 24) dX12_owes_19 (by decide) (fun hc1 => ?_) (fun hc1 => ?_)
    · have h := h.1 hc1
      refine JT_iconst (v := 0) dX12_owes_24 ic_0 ?_
      refine JT_istore_n (lv' := [(3, .int (0 : Int32)), (0, .ref 248), (1, .int a1), (2, .int a2)]) dX12_owes_25 rfl (Nat.le_of_ble_eq_true rfl) rfl ?_
      refine JT_iconst (v := 0) dX12_owes_26 ic_0 ?_
      refine JT_istore (lv' := [(4, .int (0 : Int32)), (3, .int (0 : Int32)), (0, .ref 248), (1, .int a1), (2, .int a2)]) dX12_owes_27 (Nat.le_of_ble_eq_true rfl) rfl ?_
      exact JT_sub [2, 3, 4, 1, 0] rfl h
    · have h := h.2 hc1
      refine JT_iconst (v := -1) dX12_owes_22 ic_m1 ?_
      exact JS_iret dX12_owes_23 rfl rfl h
set_option maxRecDepth 20000 in
theorem bX12_portLine_324 (a1 : Int32) {s : SM} {Q : Int32 → SM → Prop} (h : ((a1 = 0 → (((gI s 248 21) = 0 → BI MX12_portLine 3 351 [(0, .ref 248), (1, .int a1)] s Q) ∧ (¬ (gI s 248 21) = 0 → Q (vX12_bad s (3 : Int32)) (mX12_bad s (3 : Int32))))) ∧ (¬ a1 = 0 → (((gI s 248 20) = 0 → BI MX12_portLine 3 351 [(0, .ref 248), (1, .int a1)] s Q) ∧ (¬ (gI s 248 20) = 0 → Q (vX12_bad s (3 : Int32)) (mX12_bad s (3 : Int32))))))) : BI MX12_portLine 3 324 [(0, .ref 248), (1, .int a1)] s Q := by
  refine JT_iload_n (q := 1) dX12_portLine_324 rfl rfl ?_
  refine JT_if_eq (tgt := 338) dX12_portLine_325 (by decide) (fun hc5 => ?_) (fun hc5 => ?_)
  · have h := h.1 hc5
    refine JT_aload_n (q := 0) dX12_portLine_338 rfl rfl ?_
    refine JS_getI dX12_portLine_339 flX12_235 BS_248 (Nat.le_of_ble_eq_true rfl) (Nat.le_of_ble_eq_true rfl) (Or.inr ct_12_21) ?_
    refine JT_if_eq (tgt := 351) dX12_portLine_342 (by decide) (fun hc2 => ?_) (fun hc2 => ?_)
    · have h := h.1 hc2
      exact JT_sub [0, 1] rfl h
    · have h := h.2 hc2
      refine JT_aload_n (q := 0) dX12_portLine_345 rfl rfl ?_
      refine JT_iconst (v := 3) dX12_portLine_346 ic_3 ?_
      refine JS_callVI (M' := MX12_bad) (d' := 0) (As := [.int (3 : Int32)]) (rest := []) (P := (fun zv9 wm9 => (vX12_bad s (3 : Int32)) = zv9 ∧ (mX12_bad s (3 : Int32)) = wm9)) dX12_portLine_347 cvX12_196 okX12_bad rfl (Nat.le_of_ble_eq_true rfl) BS_248 (Nat.le_of_ble_eq_true rfl) (Nat.le_of_ble_eq_true rfl) hci_12 (Nat.le_of_ble_eq_true rfl) (Nat.le_of_ble_eq_true rfl) (pX12_bad  ((3 : Int32))  ⟨rfl, rfl⟩) (fun zv9 wm9 hq9 => ?_)
      obtain ⟨rfl, rfl⟩ := hq9
      exact JS_iret dX12_portLine_350 rfl (n01 (zX12_bad s (3 : Int32))) h
  · have h := h.2 hc5
    refine JT_aload_n (q := 0) dX12_portLine_328 rfl rfl ?_
    refine JS_getI dX12_portLine_329 flX12_231 BS_248 (Nat.le_of_ble_eq_true rfl) (Nat.le_of_ble_eq_true rfl) (Or.inr ct_12_20) ?_
    refine JT_if_eq (tgt := 351) dX12_portLine_332 (by decide) (fun hc4 => ?_) (fun hc4 => ?_)
    · have h := h.1 hc4
      exact JT_sub [0, 1] rfl h
    · have h := h.2 hc4
      refine JT_goto (tgt := 345) dX12_portLine_335 (by decide) ?_
      refine JT_aload_n (q := 0) dX12_portLine_345 rfl rfl ?_
      refine JT_iconst (v := 3) dX12_portLine_346 ic_3 ?_
      refine JS_callVI (M' := MX12_bad) (d' := 0) (As := [.int (3 : Int32)]) (rest := []) (P := (fun zv9 wm9 => (vX12_bad s (3 : Int32)) = zv9 ∧ (mX12_bad s (3 : Int32)) = wm9)) dX12_portLine_347 cvX12_196 okX12_bad rfl (Nat.le_of_ble_eq_true rfl) BS_248 (Nat.le_of_ble_eq_true rfl) (Nat.le_of_ble_eq_true rfl) hci_12 (Nat.le_of_ble_eq_true rfl) (Nat.le_of_ble_eq_true rfl) (pX12_bad  ((3 : Int32))  ⟨rfl, rfl⟩) (fun zv9 wm9 hq9 => ?_)
      obtain ⟨rfl, rfl⟩ := hq9
      exact JS_iret dX12_portLine_350 rfl (n01 (zX12_bad s (3 : Int32))) h
set_option maxRecDepth 20000 in
theorem bX12_portLine_351 (a1 : Int32) {s : SM} {Q : Int32 → SM → Prop} (h : (∀ s1, s1 = (pI (pI s 248 20 (if (gI s 248 20) = 0 then (if a1 = 0 then (0 : Int32) else (1 : Int32)) else (1 : Int32))) 248 21 (if (gI (pI s 248 20 (if (gI s 248 20) = 0 then (if a1 = 0 then (0 : Int32) else (1 : Int32)) else (1 : Int32))) 248 21) = 0 then (if a1 = 0 then (1 : Int32) else (0 : Int32)) else (1 : Int32))) → KV MX12_next 1 [.ref 248] s1 (fun s2 => KI MX12_takes 2 [.ref 248, .int (0 : Int32), .int (9 : Int32)] s2 (fun x5 s4 => ((¬ x5 = 0 → vp_in (if a1 = 0 then (3 : Int32) else (2 : Int32)) 34 ∧ Q (1 : Int32) (pI s4 251 ((if a1 = 0 then (3 : Int32) else (2 : Int32))).toNatClampNeg (gI s4 248 18))) ∧ (x5 = 0 → Q (0 : Int32) s4)))))) : BI MX12_portLine 3 351 [(0, .ref 248), (1, .int a1)] s Q := by
  refine JT_aload_n (q := 0) dX12_portLine_351 rfl rfl ?_
  refine JT_aload_n (q := 0) dX12_portLine_352 rfl rfl ?_
  refine JS_getI dX12_portLine_353 flX12_231 BS_248 (Nat.le_of_ble_eq_true rfl) (Nat.le_of_ble_eq_true rfl) (Or.inr ct_12_20) ?_
  have hj13 : ∀ v : Int32, v = (if (gI s 248 20) = 0 then (if a1 = 0 then (0 : Int32) else (1 : Int32)) else (1 : Int32)) → JT MX12_portLine 3 0 0 368 [(0, .ref 248), (1, .int a1)] [.int v, .ref 248] (std s) (KQ Q) := by
    intro v hv
    subst hv
    refine JS_putZ dX12_portLine_368 flX12_231 BS_248 (Nat.le_of_ble_eq_true rfl) (Nat.le_of_ble_eq_true rfl) ct_12_20 (i01 (i01 (Or.inl rfl) (Or.inr rfl)) (Or.inr rfl)) ?_
    refine JT_aload_n (q := 0) dX12_portLine_371 rfl rfl ?_
    refine JT_aload_n (q := 0) dX12_portLine_372 rfl rfl ?_
    refine JS_getI dX12_portLine_373 flX12_235 BS_248 (Nat.le_of_ble_eq_true rfl) (Nat.le_of_ble_eq_true rfl) (Or.inr ct_12_21) ?_
    have hj10 : ∀ v : Int32, v = (if (gI (pI s 248 20 (if (gI s 248 20) = 0 then (if a1 = 0 then (0 : Int32) else (1 : Int32)) else (1 : Int32))) 248 21) = 0 then (if a1 = 0 then (1 : Int32) else (0 : Int32)) else (1 : Int32)) → JT MX12_portLine 3 0 0 388 [(0, .ref 248), (1, .int a1)] [.int v, .ref 248] (std (pI s 248 20 (if (gI s 248 20) = 0 then (if a1 = 0 then (0 : Int32) else (1 : Int32)) else (1 : Int32)))) (KQ Q) := by
      intro v hv
      subst hv
      refine JS_putZ dX12_portLine_388 flX12_235 BS_248 (Nat.le_of_ble_eq_true rfl) (Nat.le_of_ble_eq_true rfl) ct_12_21 (i01 (i01 (Or.inr rfl) (Or.inl rfl)) (Or.inr rfl)) ?_
      obtain ⟨s1, hs1⟩ : ∃ z, z = (pI (pI s 248 20 (if (gI s 248 20) = 0 then (if a1 = 0 then (0 : Int32) else (1 : Int32)) else (1 : Int32))) 248 21 (if (gI (pI s 248 20 (if (gI s 248 20) = 0 then (if a1 = 0 then (0 : Int32) else (1 : Int32)) else (1 : Int32))) 248 21) = 0 then (if a1 = 0 then (1 : Int32) else (0 : Int32)) else (1 : Int32))) := ⟨_, rfl⟩
      replace h := h s1 hs1
      rw [← hs1]
      refine JT_aload_n (q := 0) dX12_portLine_391 rfl rfl ?_
      refine JS_callVV (M' := MX12_next) (d' := 1) (As := []) (rest := []) dX12_portLine_392 cvX12_199 okX12_next rfl (Nat.le_of_ble_eq_true rfl) BS_248 (Nat.le_of_ble_eq_true rfl) (Nat.le_of_ble_eq_true rfl) hci_12 (Nat.le_of_ble_eq_true rfl) (Nat.le_of_ble_eq_true rfl) h (fun s2 h => ?_)
      refine JT_aload_n (q := 0) dX12_portLine_395 rfl rfl ?_
      refine JT_iconst (v := 0) dX12_portLine_396 ic_0 ?_
      refine JT_bipush (v := 9) dX12_portLine_397 bp_9 ?_
      refine JS_callVI (M' := MX12_takes) (d' := 2) (As := [.int (0 : Int32), .int (9 : Int32)]) (rest := []) dX12_portLine_399 cvX12_224 okX12_takes rfl (Nat.le_of_ble_eq_true rfl) BS_248 (Nat.le_of_ble_eq_true rfl) (Nat.le_of_ble_eq_true rfl) hci_12 (Nat.le_of_ble_eq_true rfl) (Nat.le_of_ble_eq_true rfl) h (fun x5 s4 h => ?_)
      refine JT_if_ne (tgt := 407) dX12_portLine_402 (by decide) (fun hc9 => ?_) (fun hc9 => ?_)
      · have h := h.1 hc9
        refine JT_aload_n (q := 0) dX12_portLine_407 rfl rfl ?_
        refine JS_getR (x := 251) dX12_portLine_408 flX12_37 BS_248 (Nat.le_of_ble_eq_true rfl) (Nat.le_of_ble_eq_true rfl) (Or.inr ⟨_, ct_12_7⟩) RF_248_7 ?_
        refine JT_iload_n (q := 1) dX12_portLine_411 rfl rfl ?_
        have hj7 : ∀ v : Int32, v = (if a1 = 0 then (3 : Int32) else (2 : Int32)) → JT MX12_portLine 3 0 0 420 [(0, .ref 248), (1, .int a1)] [.int v, .ref 251] (std s4) (KQ Q) := by
          intro v hv
          subst hv
          refine JT_aload_n (q := 0) dX12_portLine_420 rfl rfl ?_
          refine JS_getI dX12_portLine_421 flX12_206 BS_248 (Nat.le_of_ble_eq_true rfl) (Nat.le_of_ble_eq_true rfl) (Or.inl ct_12_18) ?_
          obtain ⟨o6, h⟩ := h
          refine JS_iast dX12_portLine_424 BS_251 (Nat.le_of_ble_eq_true rfl) (Nat.le_of_ble_eq_true rfl) o6 ?_
          refine JT_iconst (v := 1) dX12_portLine_425 ic_1 ?_
          exact JS_iret dX12_portLine_426 rfl (n01 (Or.inr rfl)) h
        refine JT_if_eq (tgt := 419) dX12_portLine_412 (by decide) (fun hc8 => ?_) (fun hc8 => ?_)
        · refine JT_iconst (v := 3) dX12_portLine_419 ic_3 ?_
          exact hj7 _ (by rw [if_pos hc8])
        · refine JT_iconst (v := 2) dX12_portLine_415 ic_2 ?_
          refine JT_goto (tgt := 420) dX12_portLine_416 (by decide) ?_
          exact hj7 _ (by rw [if_neg hc8])
      · have h := h.2 hc9
        refine JT_iconst (v := 0) dX12_portLine_405 ic_0 ?_
        exact JS_iret dX12_portLine_406 rfl (n01 (Or.inl rfl)) h
    refine JT_if_ne (tgt := 383) dX12_portLine_376 (by decide) (fun hc11 => ?_) (fun hc11 => ?_)
    · refine JT_iconst (v := 1) dX12_portLine_383 ic_1 ?_
      refine JT_goto (tgt := 388) dX12_portLine_384 (by decide) ?_
      exact hj10 _ (by rw [if_neg hc11])
    · refine JT_iload_n (q := 1) dX12_portLine_379 rfl rfl ?_
      refine JT_if_ne (tgt := 387) dX12_portLine_380 (by decide) (fun hc12 => ?_) (fun hc12 => ?_)
      · refine JT_iconst (v := 0) dX12_portLine_387 ic_0 ?_
        exact hj10 _ (by rw [if_pos hc11, if_neg hc12])
      · refine JT_iconst (v := 1) dX12_portLine_383 ic_1 ?_
        refine JT_goto (tgt := 388) dX12_portLine_384 (by decide) ?_
        exact hj10 _ (by rw [if_pos hc11, if_pos hc12])
  refine JT_if_ne (tgt := 363) dX12_portLine_356 (by decide) (fun hc14 => ?_) (fun hc14 => ?_)
  · refine JT_iconst (v := 1) dX12_portLine_363 ic_1 ?_
    refine JT_goto (tgt := 368) dX12_portLine_364 (by decide) ?_
    exact hj13 _ (by rw [if_neg hc14])
  · refine JT_iload_n (q := 1) dX12_portLine_359 rfl rfl ?_
    refine JT_if_eq (tgt := 367) dX12_portLine_360 (by decide) (fun hc15 => ?_) (fun hc15 => ?_)
    · refine JT_iconst (v := 0) dX12_portLine_367 ic_0 ?_
      exact hj13 _ (by rw [if_pos hc14, if_pos hc15])
    · refine JT_iconst (v := 1) dX12_portLine_363 ic_1 ?_
      refine JT_goto (tgt := 368) dX12_portLine_364 (by decide) ?_
      exact hj13 _ (by rw [if_pos hc14, if_neg hc15])
set_option maxRecDepth 20000 in
theorem bX12_portLine  {s : SM} {Q : Int32 → SM → Prop} (h : (((vX12_isWord s (1651467385 : Int64)) = 0 → (((vX12_isWord s (1802071652 : Int64)) = 0 → ((¬ (vX12_isWord s (1818848869 : Int64)) = 0 → BI MX12_portLine 3 324 [(0, .ref 248), (1, .int (vX12_isWord s (1818848869 : Int64)))] s Q) ∧ ((vX12_isWord s (1818848869 : Int64)) = 0 → ((¬ (vX12_isWord s (6582132 : Int64)) = 0 → BI MX12_portLine 3 324 [(0, .ref 248), (1, .int (vX12_isWord s (1818848869 : Int64)))] s Q) ∧ ((vX12_isWord s (6582132 : Int64)) = 0 → Q (vX12_bad s (1 : Int32)) (mX12_bad s (1 : Int32))))))) ∧ (¬ (vX12_isWord s (1802071652 : Int64)) = 0 → ((¬ (gI s 251 ((1 : Int32)).toNatClampNeg) = (6 : Int32) → KV MX12_next 1 [.ref 248] s (fun s6 => KI MX12_fresh 2 [.ref 248, .int ((24 : Int32) + (gI s 251 ((1 : Int32)).toNatClampNeg))] s6 (fun x9 s8 => ((¬ x9 = 0 → KI MX12_takes 2 [.ref 248, .int (1 : Int32), .int (9 : Int32)] s8 (fun x11 s10 => ((¬ x11 = 0 → vp_in ((22 : Int32) + (gI s 251 ((1 : Int32)).toNatClampNeg)) 34 ∧ (((vX12_isWord (pI s10 251 (((22 : Int32) + (gI s 251 ((1 : Int32)).toNatClampNeg))).toNatClampNeg (gI s10 248 18)) (28270047624193380 : Int64)) = 0 → (((vX12_isWord (pI s10 251 (((22 : Int32) + (gI s 251 ((1 : Int32)).toNatClampNeg))).toNatClampNeg (gI s10 248 18)) (114767640814948 : Int64)) = 0 → (((vX12_isWord (pI s10 251 (((22 : Int32) + (gI s 251 ((1 : Int32)).toNatClampNeg))).toNatClampNeg (gI s10 248 18)) (439721161573 : Int64)) = 0 → vp_in ((28 : Int32) + (gI s 251 ((1 : Int32)).toNatClampNeg)) 34 ∧ (∀ s14, s14 = (pI (pI s10 251 (((22 : Int32) + (gI s 251 ((1 : Int32)).toNatClampNeg))).toNatClampNeg (gI s10 248 18)) 251 (((28 : Int32) + (gI s 251 ((1 : Int32)).toNatClampNeg))).toNatClampNeg (if (vX12_isWord (pI s10 251 (((22 : Int32) + (gI s 251 ((1 : Int32)).toNatClampNeg))).toNatClampNeg (gI s10 248 18)) (457135713908 : Int64)) = 0 then (0 : Int32) else (4 : Int32))) → vp_in ((28 : Int32) + (gI s 251 ((1 : Int32)).toNatClampNeg)) 34 ∧ (((gI s14 251 (((28 : Int32) + (gI s 251 ((1 : Int32)).toNatClampNeg))).toNatClampNeg) ≤ 0 → Q (1 : Int32) (pI s14 251 ((1 : Int32)).toNatClampNeg ((gI s14 251 ((1 : Int32)).toNatClampNeg) + (1 : Int32)))) ∧ (¬ (gI s14 251 (((28 : Int32) + (gI s 251 ((1 : Int32)).toNatClampNeg))).toNatClampNeg) ≤ 0 → KV MX12_next 1 [.ref 248] s14 (fun s16 => Q (1 : Int32) (pI s16 251 ((1 : Int32)).toNatClampNeg ((gI s16 251 ((1 : Int32)).toNatClampNeg) + (1 : Int32)))))))) ∧ (¬ (vX12_isWord (pI s10 251 (((22 : Int32) + (gI s 251 ((1 : Int32)).toNatClampNeg))).toNatClampNeg (gI s10 248 18)) (439721161573 : Int64)) = 0 → vp_in ((28 : Int32) + (gI s 251 ((1 : Int32)).toNatClampNeg)) 34 ∧ (∀ s23, s23 = (pI (pI s10 251 (((22 : Int32) + (gI s 251 ((1 : Int32)).toNatClampNeg))).toNatClampNeg (gI s10 248 18)) 251 (((28 : Int32) + (gI s 251 ((1 : Int32)).toNatClampNeg))).toNatClampNeg (3 : Int32)) → vp_in ((28 : Int32) + (gI s 251 ((1 : Int32)).toNatClampNeg)) 34 ∧ (((gI s23 251 (((28 : Int32) + (gI s 251 ((1 : Int32)).toNatClampNeg))).toNatClampNeg) ≤ 0 → Q (1 : Int32) (pI s23 251 ((1 : Int32)).toNatClampNeg ((gI s23 251 ((1 : Int32)).toNatClampNeg) + (1 : Int32)))) ∧ (¬ (gI s23 251 (((28 : Int32) + (gI s 251 ((1 : Int32)).toNatClampNeg))).toNatClampNeg) ≤ 0 → KV MX12_next 1 [.ref 248] s23 (fun s25 => Q (1 : Int32) (pI s25 251 ((1 : Int32)).toNatClampNeg ((gI s25 251 ((1 : Int32)).toNatClampNeg) + (1 : Int32)))))))))) ∧ (¬ (vX12_isWord (pI s10 251 (((22 : Int32) + (gI s 251 ((1 : Int32)).toNatClampNeg))).toNatClampNeg (gI s10 248 18)) (114767640814948 : Int64)) = 0 → vp_in ((28 : Int32) + (gI s 251 ((1 : Int32)).toNatClampNeg)) 34 ∧ (∀ s31, s31 = (pI (pI s10 251 (((22 : Int32) + (gI s 251 ((1 : Int32)).toNatClampNeg))).toNatClampNeg (gI s10 248 18)) 251 (((28 : Int32) + (gI s 251 ((1 : Int32)).toNatClampNeg))).toNatClampNeg (2 : Int32)) → vp_in ((28 : Int32) + (gI s 251 ((1 : Int32)).toNatClampNeg)) 34 ∧ (((gI s31 251 (((28 : Int32) + (gI s 251 ((1 : Int32)).toNatClampNeg))).toNatClampNeg) ≤ 0 → Q (1 : Int32) (pI s31 251 ((1 : Int32)).toNatClampNeg ((gI s31 251 ((1 : Int32)).toNatClampNeg) + (1 : Int32)))) ∧ (¬ (gI s31 251 (((28 : Int32) + (gI s 251 ((1 : Int32)).toNatClampNeg))).toNatClampNeg) ≤ 0 → KV MX12_next 1 [.ref 248] s31 (fun s33 => Q (1 : Int32) (pI s33 251 ((1 : Int32)).toNatClampNeg ((gI s33 251 ((1 : Int32)).toNatClampNeg) + (1 : Int32)))))))))) ∧ (¬ (vX12_isWord (pI s10 251 (((22 : Int32) + (gI s 251 ((1 : Int32)).toNatClampNeg))).toNatClampNeg (gI s10 248 18)) (28270047624193380 : Int64)) = 0 → vp_in ((28 : Int32) + (gI s 251 ((1 : Int32)).toNatClampNeg)) 34 ∧ (∀ s39, s39 = (pI (pI s10 251 (((22 : Int32) + (gI s 251 ((1 : Int32)).toNatClampNeg))).toNatClampNeg (gI s10 248 18)) 251 (((28 : Int32) + (gI s 251 ((1 : Int32)).toNatClampNeg))).toNatClampNeg (1 : Int32)) → vp_in ((28 : Int32) + (gI s 251 ((1 : Int32)).toNatClampNeg)) 34 ∧ (((gI s39 251 (((28 : Int32) + (gI s 251 ((1 : Int32)).toNatClampNeg))).toNatClampNeg) ≤ 0 → Q (1 : Int32) (pI s39 251 ((1 : Int32)).toNatClampNeg ((gI s39 251 ((1 : Int32)).toNatClampNeg) + (1 : Int32)))) ∧ (¬ (gI s39 251 (((28 : Int32) + (gI s 251 ((1 : Int32)).toNatClampNeg))).toNatClampNeg) ≤ 0 → KV MX12_next 1 [.ref 248] s39 (fun s41 => Q (1 : Int32) (pI s41 251 ((1 : Int32)).toNatClampNeg ((gI s41 251 ((1 : Int32)).toNatClampNeg) + (1 : Int32)))))))))) ∧ (x11 = 0 → Q (0 : Int32) s10)))) ∧ (x9 = 0 → Q (0 : Int32) s8))))) ∧ ((gI s 251 ((1 : Int32)).toNatClampNeg) = (6 : Int32) → Q (vX12_bad s (4 : Int32)) (mX12_bad s (4 : Int32))))))) ∧ (¬ (vX12_isWord s (1651467385 : Int64)) = 0 → ((¬ (gI s 251 ((0 : Int32)).toNatClampNeg) = (9 : Int32) → KV MX12_next 1 [.ref 248] s (fun s52 => KI MX12_fresh 2 [.ref 248, .int ((15 : Int32) + (gI s 251 ((0 : Int32)).toNatClampNeg))] s52 (fun x55 s54 => ((¬ x55 = 0 → KI MX12_takes 2 [.ref 248, .int (1 : Int32), .int (99 : Int32)] s54 (fun x57 s56 => ((¬ x57 = 0 → vp_in ((4 : Int32) + (gI s 251 ((0 : Int32)).toNatClampNeg)) 34 ∧ vp_in ((13 : Int32) + (gI s 251 ((0 : Int32)).toNatClampNeg)) 34 ∧ (∀ s60, s60 = (pI (pI s56 251 (((4 : Int32) + (gI s 251 ((0 : Int32)).toNatClampNeg))).toNatClampNeg (gI s56 248 18)) 251 (((13 : Int32) + (gI s 251 ((0 : Int32)).toNatClampNeg))).toNatClampNeg (-1 : Int32)) → (((vX12_isWord s60 (7039342 : Int64)) = 0 → Q (1 : Int32) (pI s60 251 ((0 : Int32)).toNatClampNeg ((gI s60 251 ((0 : Int32)).toNatClampNeg) + (1 : Int32)))) ∧ (¬ (vX12_isWord s60 (7039342 : Int64)) = 0 → KV MX12_next 1 [.ref 248] s60 (fun s61 => KI MX12_takesName 2 [.ref 248, .int (15 : Int32), .int (gI s 251 ((0 : Int32)).toNatClampNeg)] s61 (fun x64 s63 => ((¬ x64 = 0 → vp_in ((13 : Int32) + (gI s 251 ((0 : Int32)).toNatClampNeg)) 34 ∧ (∀ s66, s66 = (pI (pI s63 251 (((13 : Int32) + (gI s 251 ((0 : Int32)).toNatClampNeg))).toNatClampNeg (gI s63 248 18)) 251 ((0 : Int32)).toNatClampNeg ((gI (pI s63 251 (((13 : Int32) + (gI s 251 ((0 : Int32)).toNatClampNeg))).toNatClampNeg (gI s63 248 18)) 251 ((0 : Int32)).toNatClampNeg) + (1 : Int32))) → Q (1 : Int32) s66)) ∧ (x64 = 0 → Q (0 : Int32) s63)))))))) ∧ (x57 = 0 → Q (0 : Int32) s56)))) ∧ (x55 = 0 → Q (0 : Int32) s54))))) ∧ ((gI s 251 ((0 : Int32)).toNatClampNeg) = (9 : Int32) → Q (vX12_bad s (4 : Int32)) (mX12_bad s (4 : Int32))))))) : KI MX12_portLine 3 [.ref 248] s Q := by
  show BI MX12_portLine 3 0 [(0, .ref 248)] s Q
  refine JT_aload_n (q := 0) dX12_portLine_0 rfl rfl ?_
  refine JT_ldc2 dX12_portLine_1 kwX12_126 ?_
  refine JS_callVI (M' := MX12_isWord) (d' := 0) (As := [.long (1651467385 : Int64)]) (rest := []) (P := (fun zv9 wm9 => (vX12_isWord s (1651467385 : Int64)) = zv9 ∧ s = wm9)) dX12_portLine_4 cvX12_217 okX12_isWord rfl (Nat.le_of_ble_eq_true rfl) BS_248 (Nat.le_of_ble_eq_true rfl) (Nat.le_of_ble_eq_true rfl) hci_12 (Nat.le_of_ble_eq_true rfl) (Nat.le_of_ble_eq_true rfl) (pX12_isWord  ((1651467385 : Int64))  ⟨rfl, rfl⟩) (fun zv9 wm9 hq9 => ?_)
  obtain ⟨rfl, rfl⟩ := hq9
  refine JT_if_eq (tgt := 131) dX12_portLine_7 (by decide) (fun hc74 => ?_) (fun hc74 => ?_)
  · have h := h.1 hc74
    refine JT_aload_n (q := 0) dX12_portLine_131 rfl rfl ?_
    refine JT_ldc2 dX12_portLine_132 kwX12_130 ?_
    refine JS_callVI (M' := MX12_isWord) (d' := 0) (As := [.long (1802071652 : Int64)]) (rest := []) (P := (fun zv9 wm9 => (vX12_isWord s (1802071652 : Int64)) = zv9 ∧ s = wm9)) dX12_portLine_135 cvX12_217 okX12_isWord rfl (Nat.le_of_ble_eq_true rfl) BS_248 (Nat.le_of_ble_eq_true rfl) (Nat.le_of_ble_eq_true rfl) hci_12 (Nat.le_of_ble_eq_true rfl) (Nat.le_of_ble_eq_true rfl) (pX12_isWord  ((1802071652 : Int64))  ⟨rfl, rfl⟩) (fun zv9 wm9 hq9 => ?_)
    obtain ⟨rfl, rfl⟩ := hq9
    refine JT_if_eq (tgt := 296) dX12_portLine_138 (by decide) (fun hc50 => ?_) (fun hc50 => ?_)
    · have h := h.1 hc50
      refine JT_aload_n (q := 0) dX12_portLine_296 rfl rfl ?_
      refine JT_ldc2 dX12_portLine_297 kwX12_140 ?_
      refine JS_callVI (M' := MX12_isWord) (d' := 0) (As := [.long (1818848869 : Int64)]) (rest := []) (P := (fun zv9 wm9 => (vX12_isWord s (1818848869 : Int64)) = zv9 ∧ s = wm9)) dX12_portLine_300 cvX12_217 okX12_isWord rfl (Nat.le_of_ble_eq_true rfl) BS_248 (Nat.le_of_ble_eq_true rfl) (Nat.le_of_ble_eq_true rfl) hci_12 (Nat.le_of_ble_eq_true rfl) (Nat.le_of_ble_eq_true rfl) (pX12_isWord  ((1818848869 : Int64))  ⟨rfl, rfl⟩) (fun zv9 wm9 hq9 => ?_)
      obtain ⟨rfl, rfl⟩ := hq9
      refine JT_istore_n (lv' := [(1, .int (vX12_isWord s (1818848869 : Int64))), (0, .ref 248)]) dX12_portLine_303 rfl (Nat.le_of_ble_eq_true rfl) rfl ?_
      refine JT_iload_n (q := 0) dX12_portLine_304 rfl rfl ?_
      refine JT_if_ne (tgt := 324) dX12_portLine_305 (by decide) (fun hc4 => ?_) (fun hc4 => ?_)
      · have h := h.1 hc4
        exact JT_sub [1, 0] rfl h
      · have h := h.2 hc4
        refine JT_aload_n (q := 1) dX12_portLine_308 rfl rfl ?_
        refine JT_ldc2 dX12_portLine_309 kwX12_142 ?_
        refine JS_callVI (M' := MX12_isWord) (d' := 0) (As := [.long (6582132 : Int64)]) (rest := []) (P := (fun zv9 wm9 => (vX12_isWord s (6582132 : Int64)) = zv9 ∧ s = wm9)) dX12_portLine_312 cvX12_217 okX12_isWord rfl (Nat.le_of_ble_eq_true rfl) BS_248 (Nat.le_of_ble_eq_true rfl) (Nat.le_of_ble_eq_true rfl) hci_12 (Nat.le_of_ble_eq_true rfl) (Nat.le_of_ble_eq_true rfl) (pX12_isWord  ((6582132 : Int64))  ⟨rfl, rfl⟩) (fun zv9 wm9 hq9 => ?_)
        obtain ⟨rfl, rfl⟩ := hq9
        refine JT_if_ne (tgt := 324) dX12_portLine_315 (by decide) (fun hc2 => ?_) (fun hc2 => ?_)
        · have h := h.1 hc2
          exact JT_sub [1, 0] rfl h
        · have h := h.2 hc2
          refine JT_aload_n (q := 1) dX12_portLine_318 rfl rfl ?_
          refine JT_iconst (v := 1) dX12_portLine_319 ic_1 ?_
          refine JS_callVI (M' := MX12_bad) (d' := 0) (As := [.int (1 : Int32)]) (rest := []) (P := (fun zv9 wm9 => (vX12_bad s (1 : Int32)) = zv9 ∧ (mX12_bad s (1 : Int32)) = wm9)) dX12_portLine_320 cvX12_196 okX12_bad rfl (Nat.le_of_ble_eq_true rfl) BS_248 (Nat.le_of_ble_eq_true rfl) (Nat.le_of_ble_eq_true rfl) hci_12 (Nat.le_of_ble_eq_true rfl) (Nat.le_of_ble_eq_true rfl) (pX12_bad  ((1 : Int32))  ⟨rfl, rfl⟩) (fun zv9 wm9 hq9 => ?_)
          obtain ⟨rfl, rfl⟩ := hq9
          exact JS_iret dX12_portLine_323 rfl (n01 (zX12_bad s (1 : Int32))) h
    · have h := h.2 hc50
      refine JT_aload_n (q := 0) dX12_portLine_141 rfl rfl ?_
      refine JS_getR (x := 251) dX12_portLine_142 flX12_37 BS_248 (Nat.le_of_ble_eq_true rfl) (Nat.le_of_ble_eq_true rfl) (Or.inr ⟨_, ct_12_7⟩) RF_248_7 ?_
      refine JT_iconst (v := 1) dX12_portLine_145 ic_1 ?_
      refine JS_iald dX12_portLine_146 BS_251 (Nat.le_of_ble_eq_true rfl) (Nat.le_of_ble_eq_true rfl) (by unfold vp_in; decide) ?_
      refine JT_istore_n (lv' := [(1, .int (gI s 251 ((1 : Int32)).toNatClampNeg)), (0, .ref 248)]) dX12_portLine_147 rfl (Nat.le_of_ble_eq_true rfl) rfl ?_
      refine JT_iload_n (q := 0) dX12_portLine_148 rfl rfl ?_
      refine JT_bipush (v := 6) dX12_portLine_149 bp_6 ?_
      refine JT_icmp_ne (tgt := 160) dX12_portLine_151 (by decide) (fun hc49 => ?_) (fun hc49 => ?_)
      · have h := h.1 hc49
        refine JT_aload_n (q := 1) dX12_portLine_160 rfl rfl ?_
        refine JS_callVV (M' := MX12_next) (d' := 1) (As := []) (rest := []) dX12_portLine_161 cvX12_199 okX12_next rfl (Nat.le_of_ble_eq_true rfl) BS_248 (Nat.le_of_ble_eq_true rfl) (Nat.le_of_ble_eq_true rfl) hci_12 (Nat.le_of_ble_eq_true rfl) (Nat.le_of_ble_eq_true rfl) h (fun s6 h => ?_)
        refine JT_aload_n (q := 1) dX12_portLine_164 rfl rfl ?_
        refine JT_bipush (v := 24) dX12_portLine_165 bp_24 ?_
        refine JT_iload_n (q := 0) dX12_portLine_167 rfl rfl ?_
        refine JT_iadd dX12_portLine_168 ?_
        refine JS_callVI (M' := MX12_fresh) (d' := 2) (As := [.int ((24 : Int32) + (gI s 251 ((1 : Int32)).toNatClampNeg))]) (rest := []) dX12_portLine_169 cvX12_221 okX12_fresh rfl (Nat.le_of_ble_eq_true rfl) BS_248 (Nat.le_of_ble_eq_true rfl) (Nat.le_of_ble_eq_true rfl) hci_12 (Nat.le_of_ble_eq_true rfl) (Nat.le_of_ble_eq_true rfl) h (fun x9 s8 h => ?_)
        refine JT_if_ne (tgt := 177) dX12_portLine_172 (by decide) (fun hc47 => ?_) (fun hc47 => ?_)
        · have h := h.1 hc47
          refine JT_aload_n (q := 1) dX12_portLine_177 rfl rfl ?_
          refine JT_iconst (v := 1) dX12_portLine_178 ic_1 ?_
          refine JT_bipush (v := 9) dX12_portLine_179 bp_9 ?_
          refine JS_callVI (M' := MX12_takes) (d' := 2) (As := [.int (1 : Int32), .int (9 : Int32)]) (rest := []) dX12_portLine_181 cvX12_224 okX12_takes rfl (Nat.le_of_ble_eq_true rfl) BS_248 (Nat.le_of_ble_eq_true rfl) (Nat.le_of_ble_eq_true rfl) hci_12 (Nat.le_of_ble_eq_true rfl) (Nat.le_of_ble_eq_true rfl) h (fun x11 s10 h => ?_)
          refine JT_if_ne (tgt := 189) dX12_portLine_184 (by decide) (fun hc46 => ?_) (fun hc46 => ?_)
          · have h := h.1 hc46
            refine JT_aload_n (q := 1) dX12_portLine_189 rfl rfl ?_
            refine JS_getR (x := 251) dX12_portLine_190 flX12_37 BS_248 (Nat.le_of_ble_eq_true rfl) (Nat.le_of_ble_eq_true rfl) (Or.inr ⟨_, ct_12_7⟩) RF_248_7 ?_
            refine JT_bipush (v := 22) dX12_portLine_193 bp_22 ?_
            refine JT_iload_n (q := 0) dX12_portLine_195 rfl rfl ?_
            refine JT_iadd dX12_portLine_196 ?_
            refine JT_aload_n (q := 1) dX12_portLine_197 rfl rfl ?_
            refine JS_getI dX12_portLine_198 flX12_206 BS_248 (Nat.le_of_ble_eq_true rfl) (Nat.le_of_ble_eq_true rfl) (Or.inl ct_12_18) ?_
            obtain ⟨o12, h⟩ := h
            refine JS_iast dX12_portLine_201 BS_251 (Nat.le_of_ble_eq_true rfl) (Nat.le_of_ble_eq_true rfl) o12 ?_
            refine JT_aload_n (q := 1) dX12_portLine_202 rfl rfl ?_
            refine JS_getR (x := 251) dX12_portLine_203 flX12_37 BS_248 (Nat.le_of_ble_eq_true rfl) (Nat.le_of_ble_eq_true rfl) (Or.inr ⟨_, ct_12_7⟩) RF_248_7 ?_
            refine JT_bipush (v := 28) dX12_portLine_206 bp_28 ?_
            refine JT_iload_n (q := 0) dX12_portLine_208 rfl rfl ?_
            refine JT_iadd dX12_portLine_209 ?_
            refine JT_aload_n (q := 1) dX12_portLine_210 rfl rfl ?_
            refine JT_ldc2 dX12_portLine_211 kwX12_132 ?_
            refine JS_callVI (M' := MX12_isWord) (d' := 0) (As := [.long (28270047624193380 : Int64)]) (rest := [.int ((28 : Int32) + (gI s 251 ((1 : Int32)).toNatClampNeg)), .ref 251]) (P := (fun zv9 wm9 => (vX12_isWord (pI s10 251 (((22 : Int32) + (gI s 251 ((1 : Int32)).toNatClampNeg))).toNatClampNeg (gI s10 248 18)) (28270047624193380 : Int64)) = zv9 ∧ (pI s10 251 (((22 : Int32) + (gI s 251 ((1 : Int32)).toNatClampNeg))).toNatClampNeg (gI s10 248 18)) = wm9)) dX12_portLine_214 cvX12_217 okX12_isWord rfl (Nat.le_of_ble_eq_true rfl) BS_248 (Nat.le_of_ble_eq_true rfl) (Nat.le_of_ble_eq_true rfl) hci_12 (Nat.le_of_ble_eq_true rfl) (Nat.le_of_ble_eq_true rfl) (pX12_isWord  ((28270047624193380 : Int64))  ⟨rfl, rfl⟩) (fun zv9 wm9 hq9 => ?_)
            obtain ⟨rfl, rfl⟩ := hq9
            refine JT_if_eq (tgt := 224) dX12_portLine_217 (by decide) (fun hc44 => ?_) (fun hc44 => ?_)
            · have h := h.1 hc44
              refine JT_aload_n (q := 1) dX12_portLine_224 rfl rfl ?_
              refine JT_ldc2 dX12_portLine_225 kwX12_134 ?_
              refine JS_callVI (M' := MX12_isWord) (d' := 0) (As := [.long (114767640814948 : Int64)]) (rest := [.int ((28 : Int32) + (gI s 251 ((1 : Int32)).toNatClampNeg)), .ref 251]) (P := (fun zv9 wm9 => (vX12_isWord (pI s10 251 (((22 : Int32) + (gI s 251 ((1 : Int32)).toNatClampNeg))).toNatClampNeg (gI s10 248 18)) (114767640814948 : Int64)) = zv9 ∧ (pI s10 251 (((22 : Int32) + (gI s 251 ((1 : Int32)).toNatClampNeg))).toNatClampNeg (gI s10 248 18)) = wm9)) dX12_portLine_228 cvX12_217 okX12_isWord rfl (Nat.le_of_ble_eq_true rfl) BS_248 (Nat.le_of_ble_eq_true rfl) (Nat.le_of_ble_eq_true rfl) hci_12 (Nat.le_of_ble_eq_true rfl) (Nat.le_of_ble_eq_true rfl) (pX12_isWord  ((114767640814948 : Int64))  ⟨rfl, rfl⟩) (fun zv9 wm9 hq9 => ?_)
              obtain ⟨rfl, rfl⟩ := hq9
              refine JT_if_eq (tgt := 238) dX12_portLine_231 (by decide) (fun hc36 => ?_) (fun hc36 => ?_)
              · have h := h.1 hc36
                refine JT_aload_n (q := 1) dX12_portLine_238 rfl rfl ?_
                refine JT_ldc2 dX12_portLine_239 kwX12_136 ?_
                refine JS_callVI (M' := MX12_isWord) (d' := 0) (As := [.long (439721161573 : Int64)]) (rest := [.int ((28 : Int32) + (gI s 251 ((1 : Int32)).toNatClampNeg)), .ref 251]) (P := (fun zv9 wm9 => (vX12_isWord (pI s10 251 (((22 : Int32) + (gI s 251 ((1 : Int32)).toNatClampNeg))).toNatClampNeg (gI s10 248 18)) (439721161573 : Int64)) = zv9 ∧ (pI s10 251 (((22 : Int32) + (gI s 251 ((1 : Int32)).toNatClampNeg))).toNatClampNeg (gI s10 248 18)) = wm9)) dX12_portLine_242 cvX12_217 okX12_isWord rfl (Nat.le_of_ble_eq_true rfl) BS_248 (Nat.le_of_ble_eq_true rfl) (Nat.le_of_ble_eq_true rfl) hci_12 (Nat.le_of_ble_eq_true rfl) (Nat.le_of_ble_eq_true rfl) (pX12_isWord  ((439721161573 : Int64))  ⟨rfl, rfl⟩) (fun zv9 wm9 hq9 => ?_)
                obtain ⟨rfl, rfl⟩ := hq9
                refine JT_if_eq (tgt := 252) dX12_portLine_245 (by decide) (fun hc28 => ?_) (fun hc28 => ?_)
                · have h := h.1 hc28
                  refine JT_aload_n (q := 1) dX12_portLine_252 rfl rfl ?_
                  refine JT_ldc2 dX12_portLine_253 kwX12_138 ?_
                  refine JS_callVI (M' := MX12_isWord) (d' := 0) (As := [.long (457135713908 : Int64)]) (rest := [.int ((28 : Int32) + (gI s 251 ((1 : Int32)).toNatClampNeg)), .ref 251]) (P := (fun zv9 wm9 => (vX12_isWord (pI s10 251 (((22 : Int32) + (gI s 251 ((1 : Int32)).toNatClampNeg))).toNatClampNeg (gI s10 248 18)) (457135713908 : Int64)) = zv9 ∧ (pI s10 251 (((22 : Int32) + (gI s 251 ((1 : Int32)).toNatClampNeg))).toNatClampNeg (gI s10 248 18)) = wm9)) dX12_portLine_256 cvX12_217 okX12_isWord rfl (Nat.le_of_ble_eq_true rfl) BS_248 (Nat.le_of_ble_eq_true rfl) (Nat.le_of_ble_eq_true rfl) hci_12 (Nat.le_of_ble_eq_true rfl) (Nat.le_of_ble_eq_true rfl) (pX12_isWord  ((457135713908 : Int64))  ⟨rfl, rfl⟩) (fun zv9 wm9 hq9 => ?_)
                  obtain ⟨rfl, rfl⟩ := hq9
                  have hj19 : ∀ v : Int32, v = (if (vX12_isWord (pI s10 251 (((22 : Int32) + (gI s 251 ((1 : Int32)).toNatClampNeg))).toNatClampNeg (gI s10 248 18)) (457135713908 : Int64)) = 0 then (0 : Int32) else (4 : Int32)) → JT MX12_portLine 3 0 0 267 [(1, .int (gI s 251 ((1 : Int32)).toNatClampNeg)), (0, .ref 248)] [.int v, .int ((28 : Int32) + (gI s 251 ((1 : Int32)).toNatClampNeg)), .ref 251] (std (pI s10 251 (((22 : Int32) + (gI s 251 ((1 : Int32)).toNatClampNeg))).toNatClampNeg (gI s10 248 18))) (KQ Q) := by
                    intro v hv
                    subst hv
                    obtain ⟨o13, h⟩ := h
                    refine JS_iast dX12_portLine_267 BS_251 (Nat.le_of_ble_eq_true rfl) (Nat.le_of_ble_eq_true rfl) o13 ?_
                    obtain ⟨s14, hs14⟩ : ∃ z, z = (pI (pI s10 251 (((22 : Int32) + (gI s 251 ((1 : Int32)).toNatClampNeg))).toNatClampNeg (gI s10 248 18)) 251 (((28 : Int32) + (gI s 251 ((1 : Int32)).toNatClampNeg))).toNatClampNeg (if (vX12_isWord (pI s10 251 (((22 : Int32) + (gI s 251 ((1 : Int32)).toNatClampNeg))).toNatClampNeg (gI s10 248 18)) (457135713908 : Int64)) = 0 then (0 : Int32) else (4 : Int32))) := ⟨_, rfl⟩
                    replace h := h s14 hs14
                    rw [← hs14]
                    refine JT_aload_n (q := 1) dX12_portLine_268 rfl rfl ?_
                    refine JS_getR (x := 251) dX12_portLine_269 flX12_37 BS_248 (Nat.le_of_ble_eq_true rfl) (Nat.le_of_ble_eq_true rfl) (Or.inr ⟨_, ct_12_7⟩) RF_248_7 ?_
                    refine JT_bipush (v := 28) dX12_portLine_272 bp_28 ?_
                    refine JT_iload_n (q := 0) dX12_portLine_274 rfl rfl ?_
                    refine JT_iadd dX12_portLine_275 ?_
                    obtain ⟨o15, h⟩ := h
                    refine JS_iald dX12_portLine_276 BS_251 (Nat.le_of_ble_eq_true rfl) (Nat.le_of_ble_eq_true rfl) o15 ?_
                    refine JT_if_le (tgt := 284) dX12_portLine_277 (by decide) (fun hc18 => ?_) (fun hc18 => ?_)
                    · have h := h.1 hc18
                      refine JT_aload_n (q := 1) dX12_portLine_284 rfl rfl ?_
                      refine JS_getR (x := 251) dX12_portLine_285 flX12_37 BS_248 (Nat.le_of_ble_eq_true rfl) (Nat.le_of_ble_eq_true rfl) (Or.inr ⟨_, ct_12_7⟩) RF_248_7 ?_
                      refine JT_iconst (v := 1) dX12_portLine_288 ic_1 ?_
                      refine JT_dup2 dX12_portLine_289 rfl rfl ?_
                      refine JS_iald dX12_portLine_290 BS_251 (Nat.le_of_ble_eq_true rfl) (Nat.le_of_ble_eq_true rfl) (by unfold vp_in; decide) ?_
                      refine JT_iconst (v := 1) dX12_portLine_291 ic_1 ?_
                      refine JT_iadd dX12_portLine_292 ?_
                      refine JS_iast dX12_portLine_293 BS_251 (Nat.le_of_ble_eq_true rfl) (Nat.le_of_ble_eq_true rfl) (by unfold vp_in; decide) ?_
                      refine JT_iconst (v := 1) dX12_portLine_294 ic_1 ?_
                      exact JS_iret dX12_portLine_295 rfl (n01 (Or.inr rfl)) h
                    · have h := h.2 hc18
                      refine JT_aload_n (q := 1) dX12_portLine_280 rfl rfl ?_
                      refine JS_callVV (M' := MX12_next) (d' := 1) (As := []) (rest := []) dX12_portLine_281 cvX12_199 okX12_next rfl (Nat.le_of_ble_eq_true rfl) BS_248 (Nat.le_of_ble_eq_true rfl) (Nat.le_of_ble_eq_true rfl) hci_12 (Nat.le_of_ble_eq_true rfl) (Nat.le_of_ble_eq_true rfl) h (fun s16 h => ?_)
                      refine JT_aload_n (q := 1) dX12_portLine_284 rfl rfl ?_
                      refine JS_getR (x := 251) dX12_portLine_285 flX12_37 BS_248 (Nat.le_of_ble_eq_true rfl) (Nat.le_of_ble_eq_true rfl) (Or.inr ⟨_, ct_12_7⟩) RF_248_7 ?_
                      refine JT_iconst (v := 1) dX12_portLine_288 ic_1 ?_
                      refine JT_dup2 dX12_portLine_289 rfl rfl ?_
                      refine JS_iald dX12_portLine_290 BS_251 (Nat.le_of_ble_eq_true rfl) (Nat.le_of_ble_eq_true rfl) (by unfold vp_in; decide) ?_
                      refine JT_iconst (v := 1) dX12_portLine_291 ic_1 ?_
                      refine JT_iadd dX12_portLine_292 ?_
                      refine JS_iast dX12_portLine_293 BS_251 (Nat.le_of_ble_eq_true rfl) (Nat.le_of_ble_eq_true rfl) (by unfold vp_in; decide) ?_
                      refine JT_iconst (v := 1) dX12_portLine_294 ic_1 ?_
                      exact JS_iret dX12_portLine_295 rfl (n01 (Or.inr rfl)) h
                  refine JT_if_eq (tgt := 266) dX12_portLine_259 (by decide) (fun hc20 => ?_) (fun hc20 => ?_)
                  · refine JT_iconst (v := 0) dX12_portLine_266 ic_0 ?_
                    exact hj19 _ (by rw [if_pos hc20])
                  · refine JT_iconst (v := 4) dX12_portLine_262 ic_4 ?_
                    refine JT_goto (tgt := 267) dX12_portLine_263 (by decide) ?_
                    exact hj19 _ (by rw [if_neg hc20])
                · have h := h.2 hc28
                  refine JT_iconst (v := 3) dX12_portLine_248 ic_3 ?_
                  refine JT_goto (tgt := 267) dX12_portLine_249 (by decide) ?_
                  obtain ⟨o22, h⟩ := h
                  refine JS_iast dX12_portLine_267 BS_251 (Nat.le_of_ble_eq_true rfl) (Nat.le_of_ble_eq_true rfl) o22 ?_
                  obtain ⟨s23, hs23⟩ : ∃ z, z = (pI (pI s10 251 (((22 : Int32) + (gI s 251 ((1 : Int32)).toNatClampNeg))).toNatClampNeg (gI s10 248 18)) 251 (((28 : Int32) + (gI s 251 ((1 : Int32)).toNatClampNeg))).toNatClampNeg (3 : Int32)) := ⟨_, rfl⟩
                  replace h := h s23 hs23
                  rw [← hs23]
                  refine JT_aload_n (q := 1) dX12_portLine_268 rfl rfl ?_
                  refine JS_getR (x := 251) dX12_portLine_269 flX12_37 BS_248 (Nat.le_of_ble_eq_true rfl) (Nat.le_of_ble_eq_true rfl) (Or.inr ⟨_, ct_12_7⟩) RF_248_7 ?_
                  refine JT_bipush (v := 28) dX12_portLine_272 bp_28 ?_
                  refine JT_iload_n (q := 0) dX12_portLine_274 rfl rfl ?_
                  refine JT_iadd dX12_portLine_275 ?_
                  obtain ⟨o24, h⟩ := h
                  refine JS_iald dX12_portLine_276 BS_251 (Nat.le_of_ble_eq_true rfl) (Nat.le_of_ble_eq_true rfl) o24 ?_
                  refine JT_if_le (tgt := 284) dX12_portLine_277 (by decide) (fun hc27 => ?_) (fun hc27 => ?_)
                  · have h := h.1 hc27
                    refine JT_aload_n (q := 1) dX12_portLine_284 rfl rfl ?_
                    refine JS_getR (x := 251) dX12_portLine_285 flX12_37 BS_248 (Nat.le_of_ble_eq_true rfl) (Nat.le_of_ble_eq_true rfl) (Or.inr ⟨_, ct_12_7⟩) RF_248_7 ?_
                    refine JT_iconst (v := 1) dX12_portLine_288 ic_1 ?_
                    refine JT_dup2 dX12_portLine_289 rfl rfl ?_
                    refine JS_iald dX12_portLine_290 BS_251 (Nat.le_of_ble_eq_true rfl) (Nat.le_of_ble_eq_true rfl) (by unfold vp_in; decide) ?_
                    refine JT_iconst (v := 1) dX12_portLine_291 ic_1 ?_
                    refine JT_iadd dX12_portLine_292 ?_
                    refine JS_iast dX12_portLine_293 BS_251 (Nat.le_of_ble_eq_true rfl) (Nat.le_of_ble_eq_true rfl) (by unfold vp_in; decide) ?_
                    refine JT_iconst (v := 1) dX12_portLine_294 ic_1 ?_
                    exact JS_iret dX12_portLine_295 rfl (n01 (Or.inr rfl)) h
                  · have h := h.2 hc27
                    refine JT_aload_n (q := 1) dX12_portLine_280 rfl rfl ?_
                    refine JS_callVV (M' := MX12_next) (d' := 1) (As := []) (rest := []) dX12_portLine_281 cvX12_199 okX12_next rfl (Nat.le_of_ble_eq_true rfl) BS_248 (Nat.le_of_ble_eq_true rfl) (Nat.le_of_ble_eq_true rfl) hci_12 (Nat.le_of_ble_eq_true rfl) (Nat.le_of_ble_eq_true rfl) h (fun s25 h => ?_)
                    refine JT_aload_n (q := 1) dX12_portLine_284 rfl rfl ?_
                    refine JS_getR (x := 251) dX12_portLine_285 flX12_37 BS_248 (Nat.le_of_ble_eq_true rfl) (Nat.le_of_ble_eq_true rfl) (Or.inr ⟨_, ct_12_7⟩) RF_248_7 ?_
                    refine JT_iconst (v := 1) dX12_portLine_288 ic_1 ?_
                    refine JT_dup2 dX12_portLine_289 rfl rfl ?_
                    refine JS_iald dX12_portLine_290 BS_251 (Nat.le_of_ble_eq_true rfl) (Nat.le_of_ble_eq_true rfl) (by unfold vp_in; decide) ?_
                    refine JT_iconst (v := 1) dX12_portLine_291 ic_1 ?_
                    refine JT_iadd dX12_portLine_292 ?_
                    refine JS_iast dX12_portLine_293 BS_251 (Nat.le_of_ble_eq_true rfl) (Nat.le_of_ble_eq_true rfl) (by unfold vp_in; decide) ?_
                    refine JT_iconst (v := 1) dX12_portLine_294 ic_1 ?_
                    exact JS_iret dX12_portLine_295 rfl (n01 (Or.inr rfl)) h
              · have h := h.2 hc36
                refine JT_iconst (v := 2) dX12_portLine_234 ic_2 ?_
                refine JT_goto (tgt := 267) dX12_portLine_235 (by decide) ?_
                obtain ⟨o30, h⟩ := h
                refine JS_iast dX12_portLine_267 BS_251 (Nat.le_of_ble_eq_true rfl) (Nat.le_of_ble_eq_true rfl) o30 ?_
                obtain ⟨s31, hs31⟩ : ∃ z, z = (pI (pI s10 251 (((22 : Int32) + (gI s 251 ((1 : Int32)).toNatClampNeg))).toNatClampNeg (gI s10 248 18)) 251 (((28 : Int32) + (gI s 251 ((1 : Int32)).toNatClampNeg))).toNatClampNeg (2 : Int32)) := ⟨_, rfl⟩
                replace h := h s31 hs31
                rw [← hs31]
                refine JT_aload_n (q := 1) dX12_portLine_268 rfl rfl ?_
                refine JS_getR (x := 251) dX12_portLine_269 flX12_37 BS_248 (Nat.le_of_ble_eq_true rfl) (Nat.le_of_ble_eq_true rfl) (Or.inr ⟨_, ct_12_7⟩) RF_248_7 ?_
                refine JT_bipush (v := 28) dX12_portLine_272 bp_28 ?_
                refine JT_iload_n (q := 0) dX12_portLine_274 rfl rfl ?_
                refine JT_iadd dX12_portLine_275 ?_
                obtain ⟨o32, h⟩ := h
                refine JS_iald dX12_portLine_276 BS_251 (Nat.le_of_ble_eq_true rfl) (Nat.le_of_ble_eq_true rfl) o32 ?_
                refine JT_if_le (tgt := 284) dX12_portLine_277 (by decide) (fun hc35 => ?_) (fun hc35 => ?_)
                · have h := h.1 hc35
                  refine JT_aload_n (q := 1) dX12_portLine_284 rfl rfl ?_
                  refine JS_getR (x := 251) dX12_portLine_285 flX12_37 BS_248 (Nat.le_of_ble_eq_true rfl) (Nat.le_of_ble_eq_true rfl) (Or.inr ⟨_, ct_12_7⟩) RF_248_7 ?_
                  refine JT_iconst (v := 1) dX12_portLine_288 ic_1 ?_
                  refine JT_dup2 dX12_portLine_289 rfl rfl ?_
                  refine JS_iald dX12_portLine_290 BS_251 (Nat.le_of_ble_eq_true rfl) (Nat.le_of_ble_eq_true rfl) (by unfold vp_in; decide) ?_
                  refine JT_iconst (v := 1) dX12_portLine_291 ic_1 ?_
                  refine JT_iadd dX12_portLine_292 ?_
                  refine JS_iast dX12_portLine_293 BS_251 (Nat.le_of_ble_eq_true rfl) (Nat.le_of_ble_eq_true rfl) (by unfold vp_in; decide) ?_
                  refine JT_iconst (v := 1) dX12_portLine_294 ic_1 ?_
                  exact JS_iret dX12_portLine_295 rfl (n01 (Or.inr rfl)) h
                · have h := h.2 hc35
                  refine JT_aload_n (q := 1) dX12_portLine_280 rfl rfl ?_
                  refine JS_callVV (M' := MX12_next) (d' := 1) (As := []) (rest := []) dX12_portLine_281 cvX12_199 okX12_next rfl (Nat.le_of_ble_eq_true rfl) BS_248 (Nat.le_of_ble_eq_true rfl) (Nat.le_of_ble_eq_true rfl) hci_12 (Nat.le_of_ble_eq_true rfl) (Nat.le_of_ble_eq_true rfl) h (fun s33 h => ?_)
                  refine JT_aload_n (q := 1) dX12_portLine_284 rfl rfl ?_
                  refine JS_getR (x := 251) dX12_portLine_285 flX12_37 BS_248 (Nat.le_of_ble_eq_true rfl) (Nat.le_of_ble_eq_true rfl) (Or.inr ⟨_, ct_12_7⟩) RF_248_7 ?_
                  refine JT_iconst (v := 1) dX12_portLine_288 ic_1 ?_
                  refine JT_dup2 dX12_portLine_289 rfl rfl ?_
                  refine JS_iald dX12_portLine_290 BS_251 (Nat.le_of_ble_eq_true rfl) (Nat.le_of_ble_eq_true rfl) (by unfold vp_in; decide) ?_
                  refine JT_iconst (v := 1) dX12_portLine_291 ic_1 ?_
                  refine JT_iadd dX12_portLine_292 ?_
                  refine JS_iast dX12_portLine_293 BS_251 (Nat.le_of_ble_eq_true rfl) (Nat.le_of_ble_eq_true rfl) (by unfold vp_in; decide) ?_
                  refine JT_iconst (v := 1) dX12_portLine_294 ic_1 ?_
                  exact JS_iret dX12_portLine_295 rfl (n01 (Or.inr rfl)) h
            · have h := h.2 hc44
              refine JT_iconst (v := 1) dX12_portLine_220 ic_1 ?_
              refine JT_goto (tgt := 267) dX12_portLine_221 (by decide) ?_
              obtain ⟨o38, h⟩ := h
              refine JS_iast dX12_portLine_267 BS_251 (Nat.le_of_ble_eq_true rfl) (Nat.le_of_ble_eq_true rfl) o38 ?_
              obtain ⟨s39, hs39⟩ : ∃ z, z = (pI (pI s10 251 (((22 : Int32) + (gI s 251 ((1 : Int32)).toNatClampNeg))).toNatClampNeg (gI s10 248 18)) 251 (((28 : Int32) + (gI s 251 ((1 : Int32)).toNatClampNeg))).toNatClampNeg (1 : Int32)) := ⟨_, rfl⟩
              replace h := h s39 hs39
              rw [← hs39]
              refine JT_aload_n (q := 1) dX12_portLine_268 rfl rfl ?_
              refine JS_getR (x := 251) dX12_portLine_269 flX12_37 BS_248 (Nat.le_of_ble_eq_true rfl) (Nat.le_of_ble_eq_true rfl) (Or.inr ⟨_, ct_12_7⟩) RF_248_7 ?_
              refine JT_bipush (v := 28) dX12_portLine_272 bp_28 ?_
              refine JT_iload_n (q := 0) dX12_portLine_274 rfl rfl ?_
              refine JT_iadd dX12_portLine_275 ?_
              obtain ⟨o40, h⟩ := h
              refine JS_iald dX12_portLine_276 BS_251 (Nat.le_of_ble_eq_true rfl) (Nat.le_of_ble_eq_true rfl) o40 ?_
              refine JT_if_le (tgt := 284) dX12_portLine_277 (by decide) (fun hc43 => ?_) (fun hc43 => ?_)
              · have h := h.1 hc43
                refine JT_aload_n (q := 1) dX12_portLine_284 rfl rfl ?_
                refine JS_getR (x := 251) dX12_portLine_285 flX12_37 BS_248 (Nat.le_of_ble_eq_true rfl) (Nat.le_of_ble_eq_true rfl) (Or.inr ⟨_, ct_12_7⟩) RF_248_7 ?_
                refine JT_iconst (v := 1) dX12_portLine_288 ic_1 ?_
                refine JT_dup2 dX12_portLine_289 rfl rfl ?_
                refine JS_iald dX12_portLine_290 BS_251 (Nat.le_of_ble_eq_true rfl) (Nat.le_of_ble_eq_true rfl) (by unfold vp_in; decide) ?_
                refine JT_iconst (v := 1) dX12_portLine_291 ic_1 ?_
                refine JT_iadd dX12_portLine_292 ?_
                refine JS_iast dX12_portLine_293 BS_251 (Nat.le_of_ble_eq_true rfl) (Nat.le_of_ble_eq_true rfl) (by unfold vp_in; decide) ?_
                refine JT_iconst (v := 1) dX12_portLine_294 ic_1 ?_
                exact JS_iret dX12_portLine_295 rfl (n01 (Or.inr rfl)) h
              · have h := h.2 hc43
                refine JT_aload_n (q := 1) dX12_portLine_280 rfl rfl ?_
                refine JS_callVV (M' := MX12_next) (d' := 1) (As := []) (rest := []) dX12_portLine_281 cvX12_199 okX12_next rfl (Nat.le_of_ble_eq_true rfl) BS_248 (Nat.le_of_ble_eq_true rfl) (Nat.le_of_ble_eq_true rfl) hci_12 (Nat.le_of_ble_eq_true rfl) (Nat.le_of_ble_eq_true rfl) h (fun s41 h => ?_)
                refine JT_aload_n (q := 1) dX12_portLine_284 rfl rfl ?_
                refine JS_getR (x := 251) dX12_portLine_285 flX12_37 BS_248 (Nat.le_of_ble_eq_true rfl) (Nat.le_of_ble_eq_true rfl) (Or.inr ⟨_, ct_12_7⟩) RF_248_7 ?_
                refine JT_iconst (v := 1) dX12_portLine_288 ic_1 ?_
                refine JT_dup2 dX12_portLine_289 rfl rfl ?_
                refine JS_iald dX12_portLine_290 BS_251 (Nat.le_of_ble_eq_true rfl) (Nat.le_of_ble_eq_true rfl) (by unfold vp_in; decide) ?_
                refine JT_iconst (v := 1) dX12_portLine_291 ic_1 ?_
                refine JT_iadd dX12_portLine_292 ?_
                refine JS_iast dX12_portLine_293 BS_251 (Nat.le_of_ble_eq_true rfl) (Nat.le_of_ble_eq_true rfl) (by unfold vp_in; decide) ?_
                refine JT_iconst (v := 1) dX12_portLine_294 ic_1 ?_
                exact JS_iret dX12_portLine_295 rfl (n01 (Or.inr rfl)) h
          · have h := h.2 hc46
            refine JT_iconst (v := 0) dX12_portLine_187 ic_0 ?_
            exact JS_iret dX12_portLine_188 rfl (n01 (Or.inl rfl)) h
        · have h := h.2 hc47
          refine JT_iconst (v := 0) dX12_portLine_175 ic_0 ?_
          exact JS_iret dX12_portLine_176 rfl (n01 (Or.inl rfl)) h
      · have h := h.2 hc49
        refine JT_aload_n (q := 1) dX12_portLine_154 rfl rfl ?_
        refine JT_iconst (v := 4) dX12_portLine_155 ic_4 ?_
        refine JS_callVI (M' := MX12_bad) (d' := 0) (As := [.int (4 : Int32)]) (rest := []) (P := (fun zv9 wm9 => (vX12_bad s (4 : Int32)) = zv9 ∧ (mX12_bad s (4 : Int32)) = wm9)) dX12_portLine_156 cvX12_196 okX12_bad rfl (Nat.le_of_ble_eq_true rfl) BS_248 (Nat.le_of_ble_eq_true rfl) (Nat.le_of_ble_eq_true rfl) hci_12 (Nat.le_of_ble_eq_true rfl) (Nat.le_of_ble_eq_true rfl) (pX12_bad  ((4 : Int32))  ⟨rfl, rfl⟩) (fun zv9 wm9 hq9 => ?_)
        obtain ⟨rfl, rfl⟩ := hq9
        exact JS_iret dX12_portLine_159 rfl (n01 (zX12_bad s (4 : Int32))) h
  · have h := h.2 hc74
    refine JT_aload_n (q := 0) dX12_portLine_10 rfl rfl ?_
    refine JS_getR (x := 251) dX12_portLine_11 flX12_37 BS_248 (Nat.le_of_ble_eq_true rfl) (Nat.le_of_ble_eq_true rfl) (Or.inr ⟨_, ct_12_7⟩) RF_248_7 ?_
    refine JT_iconst (v := 0) dX12_portLine_14 ic_0 ?_
    refine JS_iald dX12_portLine_15 BS_251 (Nat.le_of_ble_eq_true rfl) (Nat.le_of_ble_eq_true rfl) (by unfold vp_in; decide) ?_
    refine JT_istore_n (lv' := [(1, .int (gI s 251 ((0 : Int32)).toNatClampNeg)), (0, .ref 248)]) dX12_portLine_16 rfl (Nat.le_of_ble_eq_true rfl) rfl ?_
    refine JT_iload_n (q := 0) dX12_portLine_17 rfl rfl ?_
    refine JT_bipush (v := 9) dX12_portLine_18 bp_9 ?_
    refine JT_icmp_ne (tgt := 29) dX12_portLine_20 (by decide) (fun hc73 => ?_) (fun hc73 => ?_)
    · have h := h.1 hc73
      refine JT_aload_n (q := 1) dX12_portLine_29 rfl rfl ?_
      refine JS_callVV (M' := MX12_next) (d' := 1) (As := []) (rest := []) dX12_portLine_30 cvX12_199 okX12_next rfl (Nat.le_of_ble_eq_true rfl) BS_248 (Nat.le_of_ble_eq_true rfl) (Nat.le_of_ble_eq_true rfl) hci_12 (Nat.le_of_ble_eq_true rfl) (Nat.le_of_ble_eq_true rfl) h (fun s52 h => ?_)
      refine JT_aload_n (q := 1) dX12_portLine_33 rfl rfl ?_
      refine JT_bipush (v := 15) dX12_portLine_34 bp_15 ?_
      refine JT_iload_n (q := 0) dX12_portLine_36 rfl rfl ?_
      refine JT_iadd dX12_portLine_37 ?_
      refine JS_callVI (M' := MX12_fresh) (d' := 2) (As := [.int ((15 : Int32) + (gI s 251 ((0 : Int32)).toNatClampNeg))]) (rest := []) dX12_portLine_38 cvX12_221 okX12_fresh rfl (Nat.le_of_ble_eq_true rfl) BS_248 (Nat.le_of_ble_eq_true rfl) (Nat.le_of_ble_eq_true rfl) hci_12 (Nat.le_of_ble_eq_true rfl) (Nat.le_of_ble_eq_true rfl) h (fun x55 s54 h => ?_)
      refine JT_if_ne (tgt := 46) dX12_portLine_41 (by decide) (fun hc71 => ?_) (fun hc71 => ?_)
      · have h := h.1 hc71
        refine JT_aload_n (q := 1) dX12_portLine_46 rfl rfl ?_
        refine JT_iconst (v := 1) dX12_portLine_47 ic_1 ?_
        refine JT_bipush (v := 99) dX12_portLine_48 bp_99 ?_
        refine JS_callVI (M' := MX12_takes) (d' := 2) (As := [.int (1 : Int32), .int (99 : Int32)]) (rest := []) dX12_portLine_50 cvX12_224 okX12_takes rfl (Nat.le_of_ble_eq_true rfl) BS_248 (Nat.le_of_ble_eq_true rfl) (Nat.le_of_ble_eq_true rfl) hci_12 (Nat.le_of_ble_eq_true rfl) (Nat.le_of_ble_eq_true rfl) h (fun x57 s56 h => ?_)
        refine JT_if_ne (tgt := 58) dX12_portLine_53 (by decide) (fun hc70 => ?_) (fun hc70 => ?_)
        · have h := h.1 hc70
          refine JT_aload_n (q := 1) dX12_portLine_58 rfl rfl ?_
          refine JS_getR (x := 251) dX12_portLine_59 flX12_37 BS_248 (Nat.le_of_ble_eq_true rfl) (Nat.le_of_ble_eq_true rfl) (Or.inr ⟨_, ct_12_7⟩) RF_248_7 ?_
          refine JT_iconst (v := 4) dX12_portLine_62 ic_4 ?_
          refine JT_iload_n (q := 0) dX12_portLine_63 rfl rfl ?_
          refine JT_iadd dX12_portLine_64 ?_
          refine JT_aload_n (q := 1) dX12_portLine_65 rfl rfl ?_
          refine JS_getI dX12_portLine_66 flX12_206 BS_248 (Nat.le_of_ble_eq_true rfl) (Nat.le_of_ble_eq_true rfl) (Or.inl ct_12_18) ?_
          obtain ⟨o58, h⟩ := h
          refine JS_iast dX12_portLine_69 BS_251 (Nat.le_of_ble_eq_true rfl) (Nat.le_of_ble_eq_true rfl) o58 ?_
          refine JT_aload_n (q := 1) dX12_portLine_70 rfl rfl ?_
          refine JS_getR (x := 251) dX12_portLine_71 flX12_37 BS_248 (Nat.le_of_ble_eq_true rfl) (Nat.le_of_ble_eq_true rfl) (Or.inr ⟨_, ct_12_7⟩) RF_248_7 ?_
          refine JT_bipush (v := 13) dX12_portLine_74 bp_13 ?_
          refine JT_iload_n (q := 0) dX12_portLine_76 rfl rfl ?_
          refine JT_iadd dX12_portLine_77 ?_
          refine JT_iconst (v := -1) dX12_portLine_78 ic_m1 ?_
          obtain ⟨o59, h⟩ := h
          refine JS_iast dX12_portLine_79 BS_251 (Nat.le_of_ble_eq_true rfl) (Nat.le_of_ble_eq_true rfl) o59 ?_
          obtain ⟨s60, hs60⟩ : ∃ z, z = (pI (pI s56 251 (((4 : Int32) + (gI s 251 ((0 : Int32)).toNatClampNeg))).toNatClampNeg (gI s56 248 18)) 251 (((13 : Int32) + (gI s 251 ((0 : Int32)).toNatClampNeg))).toNatClampNeg (-1 : Int32)) := ⟨_, rfl⟩
          replace h := h s60 hs60
          rw [← hs60]
          refine JT_aload_n (q := 1) dX12_portLine_80 rfl rfl ?_
          refine JT_ldc2 dX12_portLine_81 kwX12_128 ?_
          refine JS_callVI (M' := MX12_isWord) (d' := 0) (As := [.long (7039342 : Int64)]) (rest := []) (P := (fun zv9 wm9 => (vX12_isWord s60 (7039342 : Int64)) = zv9 ∧ s60 = wm9)) dX12_portLine_84 cvX12_217 okX12_isWord rfl (Nat.le_of_ble_eq_true rfl) BS_248 (Nat.le_of_ble_eq_true rfl) (Nat.le_of_ble_eq_true rfl) hci_12 (Nat.le_of_ble_eq_true rfl) (Nat.le_of_ble_eq_true rfl) (pX12_isWord  ((7039342 : Int64))  ⟨rfl, rfl⟩) (fun zv9 wm9 hq9 => ?_)
          obtain ⟨rfl, rfl⟩ := hq9
          refine JT_if_eq (tgt := 119) dX12_portLine_87 (by decide) (fun hc68 => ?_) (fun hc68 => ?_)
          · have h := h.1 hc68
            refine JT_aload_n (q := 1) dX12_portLine_119 rfl rfl ?_
            refine JS_getR (x := 251) dX12_portLine_120 flX12_37 BS_248 (Nat.le_of_ble_eq_true rfl) (Nat.le_of_ble_eq_true rfl) (Or.inr ⟨_, ct_12_7⟩) RF_248_7 ?_
            refine JT_iconst (v := 0) dX12_portLine_123 ic_0 ?_
            refine JT_dup2 dX12_portLine_124 rfl rfl ?_
            refine JS_iald dX12_portLine_125 BS_251 (Nat.le_of_ble_eq_true rfl) (Nat.le_of_ble_eq_true rfl) (by unfold vp_in; decide) ?_
            refine JT_iconst (v := 1) dX12_portLine_126 ic_1 ?_
            refine JT_iadd dX12_portLine_127 ?_
            refine JS_iast dX12_portLine_128 BS_251 (Nat.le_of_ble_eq_true rfl) (Nat.le_of_ble_eq_true rfl) (by unfold vp_in; decide) ?_
            refine JT_iconst (v := 1) dX12_portLine_129 ic_1 ?_
            exact JS_iret dX12_portLine_130 rfl (n01 (Or.inr rfl)) h
          · have h := h.2 hc68
            refine JT_aload_n (q := 1) dX12_portLine_90 rfl rfl ?_
            refine JS_callVV (M' := MX12_next) (d' := 1) (As := []) (rest := []) dX12_portLine_91 cvX12_199 okX12_next rfl (Nat.le_of_ble_eq_true rfl) BS_248 (Nat.le_of_ble_eq_true rfl) (Nat.le_of_ble_eq_true rfl) hci_12 (Nat.le_of_ble_eq_true rfl) (Nat.le_of_ble_eq_true rfl) h (fun s61 h => ?_)
            refine JT_aload_n (q := 1) dX12_portLine_94 rfl rfl ?_
            refine JT_bipush (v := 15) dX12_portLine_95 bp_15 ?_
            refine JT_iload_n (q := 0) dX12_portLine_97 rfl rfl ?_
            refine JS_callVI (M' := MX12_takesName) (d' := 2) (As := [.int (15 : Int32), .int (gI s 251 ((0 : Int32)).toNatClampNeg)]) (rest := []) dX12_portLine_98 cvX12_228 okX12_takesName rfl (Nat.le_of_ble_eq_true rfl) BS_248 (Nat.le_of_ble_eq_true rfl) (Nat.le_of_ble_eq_true rfl) hci_12 (Nat.le_of_ble_eq_true rfl) (Nat.le_of_ble_eq_true rfl) h (fun x64 s63 h => ?_)
            refine JT_if_ne (tgt := 106) dX12_portLine_101 (by decide) (fun hc67 => ?_) (fun hc67 => ?_)
            · have h := h.1 hc67
              refine JT_aload_n (q := 1) dX12_portLine_106 rfl rfl ?_
              refine JS_getR (x := 251) dX12_portLine_107 flX12_37 BS_248 (Nat.le_of_ble_eq_true rfl) (Nat.le_of_ble_eq_true rfl) (Or.inr ⟨_, ct_12_7⟩) RF_248_7 ?_
              refine JT_bipush (v := 13) dX12_portLine_110 bp_13 ?_
              refine JT_iload_n (q := 0) dX12_portLine_112 rfl rfl ?_
              refine JT_iadd dX12_portLine_113 ?_
              refine JT_aload_n (q := 1) dX12_portLine_114 rfl rfl ?_
              refine JS_getI dX12_portLine_115 flX12_206 BS_248 (Nat.le_of_ble_eq_true rfl) (Nat.le_of_ble_eq_true rfl) (Or.inl ct_12_18) ?_
              obtain ⟨o65, h⟩ := h
              refine JS_iast dX12_portLine_118 BS_251 (Nat.le_of_ble_eq_true rfl) (Nat.le_of_ble_eq_true rfl) o65 ?_
              refine JT_aload_n (q := 1) dX12_portLine_119 rfl rfl ?_
              refine JS_getR (x := 251) dX12_portLine_120 flX12_37 BS_248 (Nat.le_of_ble_eq_true rfl) (Nat.le_of_ble_eq_true rfl) (Or.inr ⟨_, ct_12_7⟩) RF_248_7 ?_
              refine JT_iconst (v := 0) dX12_portLine_123 ic_0 ?_
              refine JT_dup2 dX12_portLine_124 rfl rfl ?_
              refine JS_iald dX12_portLine_125 BS_251 (Nat.le_of_ble_eq_true rfl) (Nat.le_of_ble_eq_true rfl) (by unfold vp_in; decide) ?_
              refine JT_iconst (v := 1) dX12_portLine_126 ic_1 ?_
              refine JT_iadd dX12_portLine_127 ?_
              refine JS_iast dX12_portLine_128 BS_251 (Nat.le_of_ble_eq_true rfl) (Nat.le_of_ble_eq_true rfl) (by unfold vp_in; decide) ?_
              obtain ⟨s66, hs66⟩ : ∃ z, z = (pI (pI s63 251 (((13 : Int32) + (gI s 251 ((0 : Int32)).toNatClampNeg))).toNatClampNeg (gI s63 248 18)) 251 ((0 : Int32)).toNatClampNeg ((gI (pI s63 251 (((13 : Int32) + (gI s 251 ((0 : Int32)).toNatClampNeg))).toNatClampNeg (gI s63 248 18)) 251 ((0 : Int32)).toNatClampNeg) + (1 : Int32))) := ⟨_, rfl⟩
              replace h := h s66 hs66
              rw [← hs66]
              refine JT_iconst (v := 1) dX12_portLine_129 ic_1 ?_
              exact JS_iret dX12_portLine_130 rfl (n01 (Or.inr rfl)) h
            · have h := h.2 hc67
              refine JT_iconst (v := 0) dX12_portLine_104 ic_0 ?_
              exact JS_iret dX12_portLine_105 rfl (n01 (Or.inl rfl)) h
        · have h := h.2 hc70
          refine JT_iconst (v := 0) dX12_portLine_56 ic_0 ?_
          exact JS_iret dX12_portLine_57 rfl (n01 (Or.inl rfl)) h
      · have h := h.2 hc71
        refine JT_iconst (v := 0) dX12_portLine_44 ic_0 ?_
        exact JS_iret dX12_portLine_45 rfl (n01 (Or.inl rfl)) h
    · have h := h.2 hc73
      refine JT_aload_n (q := 1) dX12_portLine_23 rfl rfl ?_
      refine JT_iconst (v := 4) dX12_portLine_24 ic_4 ?_
      refine JS_callVI (M' := MX12_bad) (d' := 0) (As := [.int (4 : Int32)]) (rest := []) (P := (fun zv9 wm9 => (vX12_bad s (4 : Int32)) = zv9 ∧ (mX12_bad s (4 : Int32)) = wm9)) dX12_portLine_25 cvX12_196 okX12_bad rfl (Nat.le_of_ble_eq_true rfl) BS_248 (Nat.le_of_ble_eq_true rfl) (Nat.le_of_ble_eq_true rfl) hci_12 (Nat.le_of_ble_eq_true rfl) (Nat.le_of_ble_eq_true rfl) (pX12_bad  ((4 : Int32))  ⟨rfl, rfl⟩) (fun zv9 wm9 hq9 => ?_)
      obtain ⟨rfl, rfl⟩ := hq9
      exact JS_iret dX12_portLine_28 rfl (n01 (zX12_bad s (4 : Int32))) h
set_option maxRecDepth 20000 in
theorem bX12_trade_31 (a1 : Int32) (a2 : Int32) (a3 : Int32) (a4 : Int32) {s : SM} {Q : Int32 → SM → Prop} (h : (((gI s 250 ((34 : Int32)).toNatClampNeg) ≤ a4 → Q a3 s) ∧ (¬ (gI s 250 ((34 : Int32)).toNatClampNeg) ≤ a4 → rX12_of s a4 (4 : Int32) ∧ ((¬ (vX12_of s a4 (4 : Int32)) = a1 → BI MX12_trade 3 31 [(0, .ref 248), (1, .int a1), (2, .int a2), (3, .int (a3 + (0 : Int32))), (4, .int (a4 + 1))] s Q) ∧ ((vX12_of s a4 (4 : Int32)) = a1 → ((a2 = 0 → rX12_valueOf s a4 ∧ BI MX12_trade 3 31 [(0, .ref 248), (1, .int a1), (2, .int a2), (3, .int (a3 + (vX12_valueOf s a4))), (4, .int (a4 + 1))] s Q) ∧ (¬ a2 = 0 → rX12_of s a4 (5 : Int32) ∧ ((¬ (vX12_of s a4 (5 : Int32)) = (a2 - (1 : Int32)) → BI MX12_trade 3 31 [(0, .ref 248), (1, .int a1), (2, .int a2), (3, .int (a3 + (0 : Int32))), (4, .int (a4 + 1))] s Q) ∧ ((vX12_of s a4 (5 : Int32)) = (a2 - (1 : Int32)) → rX12_valueOf s a4 ∧ BI MX12_trade 3 31 [(0, .ref 248), (1, .int a1), (2, .int a2), (3, .int (a3 + (vX12_valueOf s a4))), (4, .int (a4 + 1))] s Q))))))))) : BI MX12_trade 3 31 [(0, .ref 248), (1, .int a1), (2, .int a2), (3, .int a3), (4, .int a4)] s Q := by
  refine JT_iload (q := 4) dX12_trade_31 rfl ?_
  refine JT_aload_n (q := 0) dX12_trade_33 rfl rfl ?_
  refine JS_getR (x := 250) dX12_trade_34 flX12_33 BS_248 (Nat.le_of_ble_eq_true rfl) (Nat.le_of_ble_eq_true rfl) (Or.inr ⟨_, ct_12_6⟩) RF_248_6 ?_
  refine JT_bipush (v := 34) dX12_trade_37 bp_34 ?_
  refine JS_iald dX12_trade_39 BS_250 (Nat.le_of_ble_eq_true rfl) (Nat.le_of_ble_eq_true rfl) (by unfold vp_in; decide) ?_
  refine JT_icmp_ge (tgt := 90) dX12_trade_40 (by decide) (fun hc8 => ?_) (fun hc8 => ?_)
  · have h := h.1 hc8
    refine JT_iload_n (q := 3) dX12_trade_90 rfl rfl ?_
    exact JS_iret dX12_trade_91 rfl rfl h
  · have h := h.2 hc8
    refine JT_iload_n (q := 3) dX12_trade_43 rfl rfl ?_
    refine JT_aload_n (q := 0) dX12_trade_44 rfl rfl ?_
    refine JT_iload (q := 4) dX12_trade_45 rfl ?_
    refine JT_iconst (v := 4) dX12_trade_47 ic_4 ?_
    obtain ⟨o7, h⟩ := h
    refine JS_callVI (M' := MX12_of) (d' := 0) (As := [.int a4, .int (4 : Int32)]) (rest := [.int a3]) (P := (fun zv9 wm9 => (vX12_of s a4 (4 : Int32)) = zv9 ∧ s = wm9)) dX12_trade_48 cvX12_265 okX12_of rfl (Nat.le_of_ble_eq_true rfl) BS_248 (Nat.le_of_ble_eq_true rfl) (Nat.le_of_ble_eq_true rfl) hci_12 (Nat.le_of_ble_eq_true rfl) (Nat.le_of_ble_eq_true rfl) (pX12_of  (a4) ((4 : Int32)) o7 ⟨rfl, rfl⟩) (fun zv9 wm9 hq9 => ?_)
    obtain ⟨rfl, rfl⟩ := hq9
    refine JT_iload_n (q := 1) dX12_trade_51 rfl rfl ?_
    refine JT_icmp_ne (tgt := 81) dX12_trade_52 (by decide) (fun hc6 => ?_) (fun hc6 => ?_)
    · have h := h.1 hc6
      refine JT_iconst (v := 0) dX12_trade_81 ic_0 ?_
      refine JT_iadd dX12_trade_82 ?_
      refine JT_istore_n (lv' := [(3, .int (a3 + (0 : Int32))), (0, .ref 248), (1, .int a1), (2, .int a2), (4, .int a4)]) dX12_trade_83 rfl (Nat.le_of_ble_eq_true rfl) rfl ?_
      refine JT_iinc (q := 4) (v := (a4 + 1)) (lv' := [(4, .int (a4 + 1)), (3, .int (a3 + (0 : Int32))), (0, .ref 248), (1, .int a1), (2, .int a2)]) dX12_trade_84 rfl (by rfl) (Nat.le_of_ble_eq_true rfl) rfl ?_
      refine JT_goto (tgt := 31) dX12_trade_87 (by decide) ?_
      exact JT_sub [2, 3, 4, 1, 0] rfl h
    · have h := h.2 hc6
      refine JT_iload_n (q := 2) dX12_trade_55 rfl rfl ?_
      refine JT_if_eq (tgt := 72) dX12_trade_56 (by decide) (fun hc5 => ?_) (fun hc5 => ?_)
      · have h := h.1 hc5
        refine JT_aload_n (q := 0) dX12_trade_72 rfl rfl ?_
        refine JT_iload (q := 4) dX12_trade_73 rfl ?_
        obtain ⟨o1, h⟩ := h
        refine JS_callVI (M' := MX12_valueOf) (d' := 2) (As := [.int a4]) (rest := [.int a3]) (P := (fun zv9 wm9 => (vX12_valueOf s a4) = zv9 ∧ s = wm9)) dX12_trade_75 cvX12_281 okX12_valueOf rfl (Nat.le_of_ble_eq_true rfl) BS_248 (Nat.le_of_ble_eq_true rfl) (Nat.le_of_ble_eq_true rfl) hci_12 (Nat.le_of_ble_eq_true rfl) (Nat.le_of_ble_eq_true rfl) (pX12_valueOf  (a4) o1 ⟨rfl, rfl⟩) (fun zv9 wm9 hq9 => ?_)
        obtain ⟨rfl, rfl⟩ := hq9
        refine JT_goto (tgt := 82) dX12_trade_78 (by decide) ?_
        refine JT_iadd dX12_trade_82 ?_
        refine JT_istore_n (lv' := [(3, .int (a3 + (vX12_valueOf s a4))), (0, .ref 248), (1, .int a1), (2, .int a2), (4, .int a4)]) dX12_trade_83 rfl (Nat.le_of_ble_eq_true rfl) rfl ?_
        refine JT_iinc (q := 4) (v := (a4 + 1)) (lv' := [(4, .int (a4 + 1)), (3, .int (a3 + (vX12_valueOf s a4))), (0, .ref 248), (1, .int a1), (2, .int a2)]) dX12_trade_84 rfl (by rfl) (Nat.le_of_ble_eq_true rfl) rfl ?_
        refine JT_goto (tgt := 31) dX12_trade_87 (by decide) ?_
        exact JT_sub [2, 3, 4, 1, 0] rfl h
      · have h := h.2 hc5
        refine JT_aload_n (q := 0) dX12_trade_59 rfl rfl ?_
        refine JT_iload (q := 4) dX12_trade_60 rfl ?_
        refine JT_iconst (v := 5) dX12_trade_62 ic_5 ?_
        obtain ⟨o4, h⟩ := h
        refine JS_callVI (M' := MX12_of) (d' := 0) (As := [.int a4, .int (5 : Int32)]) (rest := [.int a3]) (P := (fun zv9 wm9 => (vX12_of s a4 (5 : Int32)) = zv9 ∧ s = wm9)) dX12_trade_63 cvX12_265 okX12_of rfl (Nat.le_of_ble_eq_true rfl) BS_248 (Nat.le_of_ble_eq_true rfl) (Nat.le_of_ble_eq_true rfl) hci_12 (Nat.le_of_ble_eq_true rfl) (Nat.le_of_ble_eq_true rfl) (pX12_of  (a4) ((5 : Int32)) o4 ⟨rfl, rfl⟩) (fun zv9 wm9 hq9 => ?_)
        obtain ⟨rfl, rfl⟩ := hq9
        refine JT_iload_n (q := 2) dX12_trade_66 rfl rfl ?_
        refine JT_iconst (v := 1) dX12_trade_67 ic_1 ?_
        refine JT_isub dX12_trade_68 ?_
        refine JT_icmp_ne (tgt := 81) dX12_trade_69 (by decide) (fun hc3 => ?_) (fun hc3 => ?_)
        · have h := h.1 hc3
          refine JT_iconst (v := 0) dX12_trade_81 ic_0 ?_
          refine JT_iadd dX12_trade_82 ?_
          refine JT_istore_n (lv' := [(3, .int (a3 + (0 : Int32))), (0, .ref 248), (1, .int a1), (2, .int a2), (4, .int a4)]) dX12_trade_83 rfl (Nat.le_of_ble_eq_true rfl) rfl ?_
          refine JT_iinc (q := 4) (v := (a4 + 1)) (lv' := [(4, .int (a4 + 1)), (3, .int (a3 + (0 : Int32))), (0, .ref 248), (1, .int a1), (2, .int a2)]) dX12_trade_84 rfl (by rfl) (Nat.le_of_ble_eq_true rfl) rfl ?_
          refine JT_goto (tgt := 31) dX12_trade_87 (by decide) ?_
          exact JT_sub [2, 3, 4, 1, 0] rfl h
        · have h := h.2 hc3
          refine JT_aload_n (q := 0) dX12_trade_72 rfl rfl ?_
          refine JT_iload (q := 4) dX12_trade_73 rfl ?_
          obtain ⟨o2, h⟩ := h
          refine JS_callVI (M' := MX12_valueOf) (d' := 2) (As := [.int a4]) (rest := [.int a3]) (P := (fun zv9 wm9 => (vX12_valueOf s a4) = zv9 ∧ s = wm9)) dX12_trade_75 cvX12_281 okX12_valueOf rfl (Nat.le_of_ble_eq_true rfl) BS_248 (Nat.le_of_ble_eq_true rfl) (Nat.le_of_ble_eq_true rfl) hci_12 (Nat.le_of_ble_eq_true rfl) (Nat.le_of_ble_eq_true rfl) (pX12_valueOf  (a4) o2 ⟨rfl, rfl⟩) (fun zv9 wm9 hq9 => ?_)
          obtain ⟨rfl, rfl⟩ := hq9
          refine JT_goto (tgt := 82) dX12_trade_78 (by decide) ?_
          refine JT_iadd dX12_trade_82 ?_
          refine JT_istore_n (lv' := [(3, .int (a3 + (vX12_valueOf s a4))), (0, .ref 248), (1, .int a1), (2, .int a2), (4, .int a4)]) dX12_trade_83 rfl (Nat.le_of_ble_eq_true rfl) rfl ?_
          refine JT_iinc (q := 4) (v := (a4 + 1)) (lv' := [(4, .int (a4 + 1)), (3, .int (a3 + (vX12_valueOf s a4))), (0, .ref 248), (1, .int a1), (2, .int a2)]) dX12_trade_84 rfl (by rfl) (Nat.le_of_ble_eq_true rfl) rfl ?_
          refine JT_goto (tgt := 31) dX12_trade_87 (by decide) ?_
          exact JT_sub [2, 3, 4, 1, 0] rfl h
set_option maxRecDepth 20000 in
theorem bX12_trade (a1 : Int32) (a2 : Int32) {s : SM} {Q : Int32 → SM → Prop} (h : (((vX12_isIn (pI s 248 0 (0 : Int32)) a1 (0 : Int32) (99 : Int32)) = 0 → Q (-1 : Int32) (pI s 248 0 (0 : Int32))) ∧ (¬ (vX12_isIn (pI s 248 0 (0 : Int32)) a1 (0 : Int32) (99 : Int32)) = 0 → ((¬ (vX12_isIn (pI s 248 0 (0 : Int32)) a2 (0 : Int32) (3 : Int32)) = 0 → BI MX12_trade 3 31 [(0, .ref 248), (1, .int a1), (2, .int a2), (3, .int (0 : Int32)), (4, .int (0 : Int32))] (pI s 248 0 (0 : Int32)) Q) ∧ ((vX12_isIn (pI s 248 0 (0 : Int32)) a2 (0 : Int32) (3 : Int32)) = 0 → Q (-1 : Int32) (pI s 248 0 (0 : Int32))))))) : KI MX12_trade 3 [.ref 248, .int a1, .int a2] s Q := by
  show BI MX12_trade 3 0 [(0, .ref 248), (1, .int a1), (2, .int a2)] s Q
  refine JT_aload_n (q := 0) dX12_trade_0 rfl rfl ?_
  refine JT_iconst (v := 0) dX12_trade_1 ic_0 ?_
  refine JS_putI dX12_trade_2 flX12_1 BS_248 (Nat.le_of_ble_eq_true rfl) (Nat.le_of_ble_eq_true rfl) ct_12_0 ?_
  refine JT_iload_n (q := 1) dX12_trade_5 rfl rfl ?_
  refine JT_iconst (v := 0) dX12_trade_6 ic_0 ?_
  refine JT_bipush (v := 99) dX12_trade_7 bp_99 ?_
  refine JS_callSI (M' := MX12_isIn) (d' := 0) (As := [.int a1, .int (0 : Int32), .int (99 : Int32)]) (rest := []) (P := (fun zv9 wm9 => (vX12_isIn (pI s 248 0 (0 : Int32)) a1 (0 : Int32) (99 : Int32)) = zv9 ∧ (pI s 248 0 (0 : Int32)) = wm9)) dX12_trade_9 cvX12_202 okX12_isIn rfl (Nat.le_of_ble_eq_true rfl) (Nat.le_of_ble_eq_true rfl) (Nat.le_of_ble_eq_true rfl) (pX12_isIn  (a1) ((0 : Int32)) ((99 : Int32))  ⟨rfl, rfl⟩) (fun zv9 wm9 hq9 => ?_)
  obtain ⟨rfl, rfl⟩ := hq9
  refine JT_if_eq (tgt := 24) dX12_trade_12 (by decide) (fun hc3 => ?_) (fun hc3 => ?_)
  · have h := h.1 hc3
    refine JT_iconst (v := -1) dX12_trade_24 ic_m1 ?_
    exact JS_iret dX12_trade_25 rfl rfl h
  · have h := h.2 hc3
    refine JT_iload_n (q := 2) dX12_trade_15 rfl rfl ?_
    refine JT_iconst (v := 0) dX12_trade_16 ic_0 ?_
    refine JT_iconst (v := 3) dX12_trade_17 ic_3 ?_
    refine JS_callSI (M' := MX12_isIn) (d' := 0) (As := [.int a2, .int (0 : Int32), .int (3 : Int32)]) (rest := []) (P := (fun zv9 wm9 => (vX12_isIn (pI s 248 0 (0 : Int32)) a2 (0 : Int32) (3 : Int32)) = zv9 ∧ (pI s 248 0 (0 : Int32)) = wm9)) dX12_trade_18 cvX12_202 okX12_isIn rfl (Nat.le_of_ble_eq_true rfl) (Nat.le_of_ble_eq_true rfl) (Nat.le_of_ble_eq_true rfl) (pX12_isIn  (a2) ((0 : Int32)) ((3 : Int32))  ⟨rfl, rfl⟩) (fun zv9 wm9 hq9 => ?_)
    obtain ⟨rfl, rfl⟩ := hq9
    refine JT_if_ne (tgt := 26) dX12_trade_21 (by decide) (fun hc1 => ?_) (fun hc1 => ?_)
    · have h := h.1 hc1
      refine JT_iconst (v := 0) dX12_trade_26 ic_0 ?_
      refine JT_istore_n (lv' := [(3, .int (0 : Int32)), (0, .ref 248), (1, .int a1), (2, .int a2)]) dX12_trade_27 rfl (Nat.le_of_ble_eq_true rfl) rfl ?_
      refine JT_iconst (v := 0) dX12_trade_28 ic_0 ?_
      refine JT_istore (lv' := [(4, .int (0 : Int32)), (3, .int (0 : Int32)), (0, .ref 248), (1, .int a1), (2, .int a2)]) dX12_trade_29 (Nat.le_of_ble_eq_true rfl) rfl ?_
      exact JT_sub [2, 3, 4, 1, 0] rfl h
    · have h := h.2 hc1
      refine JT_iconst (v := -1) dX12_trade_24 ic_m1 ?_
      exact JS_iret dX12_trade_25 rfl rfl h
set_option maxRecDepth 20000 in
theorem bX12_whyScar (a1 : Int32) (a2 : Int32) {s : SM} {Q : Int32 → SM → Prop} (h : rX12_isOpen s a1 ∧ ((¬ (vX12_isOpen s a1) = 0 → rX12_of s a1 (8 : Int32) ∧ ((¬ (vX12_has s (vX12_of s a1 (8 : Int32)) a2) = 0 → Q (6 : Int32) s) ∧ ((vX12_has s (vX12_of s a1 (8 : Int32)) a2) = 0 → rX12_of s a1 ((6 : Int32) + a2) ∧ (((vX12_of s a1 ((6 : Int32) + a2)) < 0 → Q (6 : Int32) s) ∧ (¬ (vX12_of s a1 ((6 : Int32) + a2)) < 0 → rX12_of s a1 ((6 : Int32) + a2) ∧ Q (if (vX12_isLiving s (vX12_of s a1 ((6 : Int32) + a2))) = 0 then (6 : Int32) else (0 : Int32)) s))))) ∧ ((vX12_isOpen s a1) = 0 → Q (4 : Int32) s))) : KI MX12_whyScar 3 [.ref 248, .int a1, .int a2] s Q := by
  show BI MX12_whyScar 3 0 [(0, .ref 248), (1, .int a1), (2, .int a2)] s Q
  refine JT_aload_n (q := 0) dX12_whyScar_0 rfl rfl ?_
  refine JT_iload_n (q := 1) dX12_whyScar_1 rfl rfl ?_
  obtain ⟨o11, h⟩ := h
  refine JS_callVI (M' := MX12_isOpen) (d' := 2) (As := [.int a1]) (rest := []) (P := (fun zv9 wm9 => (vX12_isOpen s a1) = zv9 ∧ s = wm9)) dX12_whyScar_2 cvX12_278 okX12_isOpen rfl (Nat.le_of_ble_eq_true rfl) BS_248 (Nat.le_of_ble_eq_true rfl) (Nat.le_of_ble_eq_true rfl) hci_12 (Nat.le_of_ble_eq_true rfl) (Nat.le_of_ble_eq_true rfl) (pX12_isOpen  (a1) o11 ⟨rfl, rfl⟩) (fun zv9 wm9 hq9 => ?_)
  obtain ⟨rfl, rfl⟩ := hq9
  refine JT_if_ne (tgt := 12) dX12_whyScar_5 (by decide) (fun hc10 => ?_) (fun hc10 => ?_)
  · have h := h.1 hc10
    refine JT_aload_n (q := 0) dX12_whyScar_12 rfl rfl ?_
    refine JT_iload_n (q := 1) dX12_whyScar_13 rfl rfl ?_
    refine JT_bipush (v := 8) dX12_whyScar_14 bp_8 ?_
    obtain ⟨o9, h⟩ := h
    refine JS_callVI (M' := MX12_of) (d' := 0) (As := [.int a1, .int (8 : Int32)]) (rest := []) (P := (fun zv9 wm9 => (vX12_of s a1 (8 : Int32)) = zv9 ∧ s = wm9)) dX12_whyScar_16 cvX12_265 okX12_of rfl (Nat.le_of_ble_eq_true rfl) BS_248 (Nat.le_of_ble_eq_true rfl) (Nat.le_of_ble_eq_true rfl) hci_12 (Nat.le_of_ble_eq_true rfl) (Nat.le_of_ble_eq_true rfl) (pX12_of  (a1) ((8 : Int32)) o9 ⟨rfl, rfl⟩) (fun zv9 wm9 hq9 => ?_)
    obtain ⟨rfl, rfl⟩ := hq9
    refine JT_iload_n (q := 2) dX12_whyScar_19 rfl rfl ?_
    refine JS_callSI (M' := MX12_has) (d' := 0) (As := [.int (vX12_of s a1 (8 : Int32)), .int a2]) (rest := []) (P := (fun zv9 wm9 => (vX12_has s (vX12_of s a1 (8 : Int32)) a2) = zv9 ∧ s = wm9)) dX12_whyScar_20 cvX12_259 okX12_has rfl (Nat.le_of_ble_eq_true rfl) (Nat.le_of_ble_eq_true rfl) (Nat.le_of_ble_eq_true rfl) (pX12_has  ((vX12_of s a1 (8 : Int32))) (a2)  ⟨rfl, rfl⟩) (fun zv9 wm9 hq9 => ?_)
    obtain ⟨rfl, rfl⟩ := hq9
    refine JT_if_ne (tgt := 54) dX12_whyScar_23 (by decide) (fun hc7 => ?_) (fun hc7 => ?_)
    · have h := h.1 hc7
      refine JT_bipush (v := 6) dX12_whyScar_54 bp_6 ?_
      refine JT_goto (tgt := 60) dX12_whyScar_56 (by decide) ?_
      exact JS_iret dX12_whyScar_60 rfl rfl h
    · have h := h.2 hc7
      refine JT_aload_n (q := 0) dX12_whyScar_26 rfl rfl ?_
      refine JT_iload_n (q := 1) dX12_whyScar_27 rfl rfl ?_
      refine JT_bipush (v := 6) dX12_whyScar_28 bp_6 ?_
      refine JT_iload_n (q := 2) dX12_whyScar_30 rfl rfl ?_
      refine JT_iadd dX12_whyScar_31 ?_
      obtain ⟨o6, h⟩ := h
      refine JS_callVI (M' := MX12_of) (d' := 0) (As := [.int a1, .int ((6 : Int32) + a2)]) (rest := []) (P := (fun zv9 wm9 => (vX12_of s a1 ((6 : Int32) + a2)) = zv9 ∧ s = wm9)) dX12_whyScar_32 cvX12_265 okX12_of rfl (Nat.le_of_ble_eq_true rfl) BS_248 (Nat.le_of_ble_eq_true rfl) (Nat.le_of_ble_eq_true rfl) hci_12 (Nat.le_of_ble_eq_true rfl) (Nat.le_of_ble_eq_true rfl) (pX12_of  (a1) (((6 : Int32) + a2)) o6 ⟨rfl, rfl⟩) (fun zv9 wm9 hq9 => ?_)
      obtain ⟨rfl, rfl⟩ := hq9
      refine JT_if_lt (tgt := 54) dX12_whyScar_35 (by decide) (fun hc5 => ?_) (fun hc5 => ?_)
      · have h := h.1 hc5
        refine JT_bipush (v := 6) dX12_whyScar_54 bp_6 ?_
        refine JT_goto (tgt := 60) dX12_whyScar_56 (by decide) ?_
        exact JS_iret dX12_whyScar_60 rfl rfl h
      · have h := h.2 hc5
        refine JT_aload_n (q := 0) dX12_whyScar_38 rfl rfl ?_
        refine JT_aload_n (q := 0) dX12_whyScar_39 rfl rfl ?_
        refine JT_iload_n (q := 1) dX12_whyScar_40 rfl rfl ?_
        refine JT_bipush (v := 6) dX12_whyScar_41 bp_6 ?_
        refine JT_iload_n (q := 2) dX12_whyScar_43 rfl rfl ?_
        refine JT_iadd dX12_whyScar_44 ?_
        obtain ⟨o4, h⟩ := h
        refine JS_callVI (M' := MX12_of) (d' := 0) (As := [.int a1, .int ((6 : Int32) + a2)]) (rest := [.ref 248]) (P := (fun zv9 wm9 => (vX12_of s a1 ((6 : Int32) + a2)) = zv9 ∧ s = wm9)) dX12_whyScar_45 cvX12_265 okX12_of rfl (Nat.le_of_ble_eq_true rfl) BS_248 (Nat.le_of_ble_eq_true rfl) (Nat.le_of_ble_eq_true rfl) hci_12 (Nat.le_of_ble_eq_true rfl) (Nat.le_of_ble_eq_true rfl) (pX12_of  (a1) (((6 : Int32) + a2)) o4 ⟨rfl, rfl⟩) (fun zv9 wm9 hq9 => ?_)
        obtain ⟨rfl, rfl⟩ := hq9
        refine JS_callVI (M' := MX12_isLiving) (d' := 1) (As := [.int (vX12_of s a1 ((6 : Int32) + a2))]) (rest := []) (P := (fun zv9 wm9 => (vX12_isLiving s (vX12_of s a1 ((6 : Int32) + a2))) = zv9 ∧ s = wm9)) dX12_whyScar_48 cvX12_294 okX12_isLiving rfl (Nat.le_of_ble_eq_true rfl) BS_248 (Nat.le_of_ble_eq_true rfl) (Nat.le_of_ble_eq_true rfl) hci_12 (Nat.le_of_ble_eq_true rfl) (Nat.le_of_ble_eq_true rfl) (pX12_isLiving  ((vX12_of s a1 ((6 : Int32) + a2)))  ⟨rfl, rfl⟩) (fun zv9 wm9 hq9 => ?_)
        obtain ⟨rfl, rfl⟩ := hq9
        have hj1 : ∀ v : Int32, v = (if (vX12_isLiving s (vX12_of s a1 ((6 : Int32) + a2))) = 0 then (6 : Int32) else (0 : Int32)) → JT MX12_whyScar 3 0 0 60 [(0, .ref 248), (1, .int a1), (2, .int a2)] [.int v] (std s) (KQ Q) := by
          intro v hv
          subst hv
          exact JS_iret dX12_whyScar_60 rfl rfl h
        refine JT_if_ne (tgt := 59) dX12_whyScar_51 (by decide) (fun hc2 => ?_) (fun hc2 => ?_)
        · refine JT_iconst (v := 0) dX12_whyScar_59 ic_0 ?_
          exact hj1 _ (by rw [if_neg hc2])
        · refine JT_bipush (v := 6) dX12_whyScar_54 bp_6 ?_
          refine JT_goto (tgt := 60) dX12_whyScar_56 (by decide) ?_
          exact hj1 _ (by rw [if_pos hc2])
  · have h := h.2 hc10
    refine JT_iconst (v := 4) dX12_whyScar_8 ic_4 ?_
    refine JT_goto (tgt := 60) dX12_whyScar_9 (by decide) ?_
    exact JS_iret dX12_whyScar_60 rfl rfl h
set_option maxRecDepth 20000 in
def vX12_whyScar (s : SM) (a1 : Int32) (a2 : Int32) : Int32 := (if (vX12_isOpen s a1) = 0 then (4 : Int32) else (if (vX12_has s (vX12_of s a1 (8 : Int32)) a2) = 0 then (if (vX12_of s a1 ((6 : Int32) + a2)) < 0 then (6 : Int32) else (if (vX12_isLiving s (vX12_of s a1 ((6 : Int32) + a2))) = 0 then (6 : Int32) else (0 : Int32))) else (6 : Int32)))
set_option maxRecDepth 20000 in
def rX12_whyScar (s : SM) (a1 : Int32) (a2 : Int32) : Prop := rX12_isOpen s a1 ∧ (¬ (vX12_isOpen s a1) = 0 → rX12_of s a1 (8 : Int32) ∧ ((vX12_has s (vX12_of s a1 (8 : Int32)) a2) = 0 → rX12_of s a1 ((6 : Int32) + a2) ∧ (¬ (vX12_of s a1 ((6 : Int32) + a2)) < 0 → rX12_of s a1 ((6 : Int32) + a2))))
set_option maxRecDepth 20000 in
theorem pX12_whyScar (a1 : Int32) (a2 : Int32) {s : SM} {Q : Int32 → SM → Prop} (hr : rX12_whyScar s a1 a2) (h : Q (vX12_whyScar s a1 a2) s) : KI MX12_whyScar 3 [.ref 248, .int a1, .int a2] s Q := by
  refine bX12_whyScar a1 a2 ?_
  unfold rX12_whyScar at hr
  unfold vX12_whyScar at h
  refine ⟨hr.1, ?_⟩
  replace hr := hr.2
  refine ⟨fun c => ?_, fun c => ?_⟩
  · replace hr := hr c
    try simp only [if_neg c] at h
    refine ⟨hr.1, ?_⟩
    replace hr := hr.2
    refine ⟨fun c => ?_, fun c => ?_⟩
    · try simp only [if_neg c] at h
      first | exact h | contradiction
    · replace hr := hr c
      try simp only [if_pos c] at h
      refine ⟨hr.1, ?_⟩
      replace hr := hr.2
      refine ⟨fun c => ?_, fun c => ?_⟩
      · try simp only [if_pos c] at h
        first | exact h | contradiction
      · replace hr := hr c
        try simp only [if_neg c] at h
        refine ⟨hr, ?_⟩
        first | exact h | contradiction
  · try simp only [if_pos c] at h
    first | exact h | contradiction
set_option maxRecDepth 20000 in
theorem bX12_whyStrike_63 (a1 : Int32) (a2 : Int32) (a3 : Int32) (a4 : Int32) {s : SM} {Q : Int32 → SM → Prop} (h : (((vX12_isLiving s a3) = 0 → Q (0 : Int32) s) ∧ (¬ (vX12_isLiving s a3) = 0 → KI MX12_leftOf 2 [.ref 248, .int a3] s (fun x2 s1 => Q (if a4 ≤ x2 then (0 : Int32) else (5 : Int32)) s1)))) : BI MX12_whyStrike 3 63 [(0, .ref 248), (1, .int a1), (2, .int a2), (3, .int a3), (4, .int a4)] s Q := by
  refine JT_aload_n (q := 0) dX12_whyStrike_63 rfl rfl ?_
  refine JT_iload_n (q := 3) dX12_whyStrike_64 rfl rfl ?_
  refine JS_callVI (M' := MX12_isLiving) (d' := 1) (As := [.int a3]) (rest := []) (P := (fun zv9 wm9 => (vX12_isLiving s a3) = zv9 ∧ s = wm9)) dX12_whyStrike_65 cvX12_294 okX12_isLiving rfl (Nat.le_of_ble_eq_true rfl) BS_248 (Nat.le_of_ble_eq_true rfl) (Nat.le_of_ble_eq_true rfl) hci_12 (Nat.le_of_ble_eq_true rfl) (Nat.le_of_ble_eq_true rfl) (pX12_isLiving  (a3)  ⟨rfl, rfl⟩) (fun zv9 wm9 hq9 => ?_)
  obtain ⟨rfl, rfl⟩ := hq9
  refine JT_if_eq (tgt := 85) dX12_whyStrike_68 (by decide) (fun hc5 => ?_) (fun hc5 => ?_)
  · have h := h.1 hc5
    refine JT_iconst (v := 0) dX12_whyStrike_85 ic_0 ?_
    exact JS_iret dX12_whyStrike_86 rfl rfl h
  · have h := h.2 hc5
    refine JT_aload_n (q := 0) dX12_whyStrike_71 rfl rfl ?_
    refine JT_iload_n (q := 3) dX12_whyStrike_72 rfl rfl ?_
    refine JS_callVI (M' := MX12_leftOf) (d' := 2) (As := [.int a3]) (rest := []) dX12_whyStrike_73 cvX12_297 okX12_leftOf rfl (Nat.le_of_ble_eq_true rfl) BS_248 (Nat.le_of_ble_eq_true rfl) (Nat.le_of_ble_eq_true rfl) hci_12 (Nat.le_of_ble_eq_true rfl) (Nat.le_of_ble_eq_true rfl) h (fun x2 s1 h => ?_)
    refine JT_iload (q := 4) dX12_whyStrike_76 rfl ?_
    have hj3 : ∀ v : Int32, v = (if a4 ≤ x2 then (0 : Int32) else (5 : Int32)) → JT MX12_whyStrike 3 0 0 86 [(0, .ref 248), (1, .int a1), (2, .int a2), (3, .int a3), (4, .int a4)] [.int v] (std s1) (KQ Q) := by
      intro v hv
      subst hv
      exact JS_iret dX12_whyStrike_86 rfl rfl h
    refine JT_icmp_ge (tgt := 85) dX12_whyStrike_78 (by decide) (fun hc4 => ?_) (fun hc4 => ?_)
    · refine JT_iconst (v := 0) dX12_whyStrike_85 ic_0 ?_
      exact hj3 _ (by rw [if_pos hc4])
    · refine JT_iconst (v := 5) dX12_whyStrike_81 ic_5 ?_
      refine JT_goto (tgt := 86) dX12_whyStrike_82 (by decide) ?_
      exact hj3 _ (by rw [if_neg hc4])
set_option maxRecDepth 20000 in
theorem bX12_whyStrike (a1 : Int32) {s : SM} {Q : Int32 → SM → Prop} (h : rX12_isOpen s a1 ∧ ((¬ (vX12_isOpen s a1) = 0 → rX12_of s a1 (6 : Int32) ∧ rX12_of s a1 (7 : Int32) ∧ (((vX12_isLiving s (vX12_of s a1 (6 : Int32))) = 0 → BI MX12_whyStrike 3 63 [(0, .ref 248), (1, .int a1), (2, .int (vX12_of s a1 (6 : Int32))), (3, .int (vX12_of s a1 (7 : Int32))), (4, .int ((gI s 250 ((2 : Int32)).toNatClampNeg) * (if (vX12_of s a1 (6 : Int32)) = (vX12_of s a1 (7 : Int32)) then (2 : Int32) else (1 : Int32))))] s Q) ∧ (¬ (vX12_isLiving s (vX12_of s a1 (6 : Int32))) = 0 → KI MX12_leftOf 2 [.ref 248, .int (vX12_of s a1 (6 : Int32))] s (fun x2 s1 => ((x2 < ((gI s 250 ((2 : Int32)).toNatClampNeg) * (if (vX12_of s a1 (6 : Int32)) = (vX12_of s a1 (7 : Int32)) then (2 : Int32) else (1 : Int32))) → Q (5 : Int32) s1) ∧ (¬ x2 < ((gI s 250 ((2 : Int32)).toNatClampNeg) * (if (vX12_of s a1 (6 : Int32)) = (vX12_of s a1 (7 : Int32)) then (2 : Int32) else (1 : Int32))) → BI MX12_whyStrike 3 63 [(0, .ref 248), (1, .int a1), (2, .int (vX12_of s a1 (6 : Int32))), (3, .int (vX12_of s a1 (7 : Int32))), (4, .int ((gI s 250 ((2 : Int32)).toNatClampNeg) * (if (vX12_of s a1 (6 : Int32)) = (vX12_of s a1 (7 : Int32)) then (2 : Int32) else (1 : Int32))))] s1 Q)))))) ∧ ((vX12_isOpen s a1) = 0 → Q (4 : Int32) s))) : KI MX12_whyStrike 3 [.ref 248, .int a1] s Q := by
  show BI MX12_whyStrike 3 0 [(0, .ref 248), (1, .int a1)] s Q
  refine JT_aload_n (q := 0) dX12_whyStrike_0 rfl rfl ?_
  refine JT_iload_n (q := 1) dX12_whyStrike_1 rfl rfl ?_
  obtain ⟨o11, h⟩ := h
  refine JS_callVI (M' := MX12_isOpen) (d' := 2) (As := [.int a1]) (rest := []) (P := (fun zv9 wm9 => (vX12_isOpen s a1) = zv9 ∧ s = wm9)) dX12_whyStrike_2 cvX12_278 okX12_isOpen rfl (Nat.le_of_ble_eq_true rfl) BS_248 (Nat.le_of_ble_eq_true rfl) (Nat.le_of_ble_eq_true rfl) hci_12 (Nat.le_of_ble_eq_true rfl) (Nat.le_of_ble_eq_true rfl) (pX12_isOpen  (a1) o11 ⟨rfl, rfl⟩) (fun zv9 wm9 hq9 => ?_)
  obtain ⟨rfl, rfl⟩ := hq9
  refine JT_if_ne (tgt := 10) dX12_whyStrike_5 (by decide) (fun hc10 => ?_) (fun hc10 => ?_)
  · have h := h.1 hc10
    refine JT_aload_n (q := 0) dX12_whyStrike_10 rfl rfl ?_
    refine JT_iload_n (q := 1) dX12_whyStrike_11 rfl rfl ?_
    refine JT_bipush (v := 6) dX12_whyStrike_12 bp_6 ?_
    obtain ⟨o9, h⟩ := h
    refine JS_callVI (M' := MX12_of) (d' := 0) (As := [.int a1, .int (6 : Int32)]) (rest := []) (P := (fun zv9 wm9 => (vX12_of s a1 (6 : Int32)) = zv9 ∧ s = wm9)) dX12_whyStrike_14 cvX12_265 okX12_of rfl (Nat.le_of_ble_eq_true rfl) BS_248 (Nat.le_of_ble_eq_true rfl) (Nat.le_of_ble_eq_true rfl) hci_12 (Nat.le_of_ble_eq_true rfl) (Nat.le_of_ble_eq_true rfl) (pX12_of  (a1) ((6 : Int32)) o9 ⟨rfl, rfl⟩) (fun zv9 wm9 hq9 => ?_)
    obtain ⟨rfl, rfl⟩ := hq9
    refine JT_istore_n (lv' := [(2, .int (vX12_of s a1 (6 : Int32))), (0, .ref 248), (1, .int a1)]) dX12_whyStrike_17 rfl (Nat.le_of_ble_eq_true rfl) rfl ?_
    refine JT_aload_n (q := 1) dX12_whyStrike_18 rfl rfl ?_
    refine JT_iload_n (q := 2) dX12_whyStrike_19 rfl rfl ?_
    refine JT_bipush (v := 7) dX12_whyStrike_20 bp_7 ?_
    obtain ⟨o8, h⟩ := h
    refine JS_callVI (M' := MX12_of) (d' := 0) (As := [.int a1, .int (7 : Int32)]) (rest := []) (P := (fun zv9 wm9 => (vX12_of s a1 (7 : Int32)) = zv9 ∧ s = wm9)) dX12_whyStrike_22 cvX12_265 okX12_of rfl (Nat.le_of_ble_eq_true rfl) BS_248 (Nat.le_of_ble_eq_true rfl) (Nat.le_of_ble_eq_true rfl) hci_12 (Nat.le_of_ble_eq_true rfl) (Nat.le_of_ble_eq_true rfl) (pX12_of  (a1) ((7 : Int32)) o8 ⟨rfl, rfl⟩) (fun zv9 wm9 hq9 => ?_)
    obtain ⟨rfl, rfl⟩ := hq9
    refine JT_istore_n (lv' := [(3, .int (vX12_of s a1 (7 : Int32))), (2, .int (vX12_of s a1 (6 : Int32))), (0, .ref 248), (1, .int a1)]) dX12_whyStrike_25 rfl (Nat.le_of_ble_eq_true rfl) rfl ?_
    refine JT_aload_n (q := 2) dX12_whyStrike_26 rfl rfl ?_
    refine JS_getR (x := 250) dX12_whyStrike_27 flX12_33 BS_248 (Nat.le_of_ble_eq_true rfl) (Nat.le_of_ble_eq_true rfl) (Or.inr ⟨_, ct_12_6⟩) RF_248_6 ?_
    refine JT_iconst (v := 2) dX12_whyStrike_30 ic_2 ?_
    refine JS_iald dX12_whyStrike_31 BS_250 (Nat.le_of_ble_eq_true rfl) (Nat.le_of_ble_eq_true rfl) (by unfold vp_in; decide) ?_
    refine JT_iload_n (q := 1) dX12_whyStrike_32 rfl rfl ?_
    refine JT_iload_n (q := 0) dX12_whyStrike_33 rfl rfl ?_
    have hj6 : ∀ v : Int32, v = (if (vX12_of s a1 (6 : Int32)) = (vX12_of s a1 (7 : Int32)) then (2 : Int32) else (1 : Int32)) → JT MX12_whyStrike 3 0 0 42 [(3, .int (vX12_of s a1 (7 : Int32))), (2, .int (vX12_of s a1 (6 : Int32))), (0, .ref 248), (1, .int a1)] [.int v, .int (gI s 250 ((2 : Int32)).toNatClampNeg)] (std s) (KQ Q) := by
      intro v hv
      subst hv
      refine JT_imul dX12_whyStrike_42 ?_
      refine JT_istore (lv' := [(4, .int ((gI s 250 ((2 : Int32)).toNatClampNeg) * (if (vX12_of s a1 (6 : Int32)) = (vX12_of s a1 (7 : Int32)) then (2 : Int32) else (1 : Int32)))), (3, .int (vX12_of s a1 (7 : Int32))), (2, .int (vX12_of s a1 (6 : Int32))), (0, .ref 248), (1, .int a1)]) dX12_whyStrike_43 (Nat.le_of_ble_eq_true rfl) rfl ?_
      refine JT_aload_n (q := 3) dX12_whyStrike_45 rfl rfl ?_
      refine JT_iload_n (q := 2) dX12_whyStrike_46 rfl rfl ?_
      refine JS_callVI (M' := MX12_isLiving) (d' := 1) (As := [.int (vX12_of s a1 (6 : Int32))]) (rest := []) (P := (fun zv9 wm9 => (vX12_isLiving s (vX12_of s a1 (6 : Int32))) = zv9 ∧ s = wm9)) dX12_whyStrike_47 cvX12_294 okX12_isLiving rfl (Nat.le_of_ble_eq_true rfl) BS_248 (Nat.le_of_ble_eq_true rfl) (Nat.le_of_ble_eq_true rfl) hci_12 (Nat.le_of_ble_eq_true rfl) (Nat.le_of_ble_eq_true rfl) (pX12_isLiving  ((vX12_of s a1 (6 : Int32)))  ⟨rfl, rfl⟩) (fun zv9 wm9 hq9 => ?_)
      obtain ⟨rfl, rfl⟩ := hq9
      refine JT_if_eq (tgt := 63) dX12_whyStrike_50 (by decide) (fun hc4 => ?_) (fun hc4 => ?_)
      · have h := h.1 hc4
        exact JT_sub [3, 4, 2, 1, 0] rfl h
      · have h := h.2 hc4
        refine JT_aload_n (q := 3) dX12_whyStrike_53 rfl rfl ?_
        refine JT_iload_n (q := 2) dX12_whyStrike_54 rfl rfl ?_
        refine JS_callVI (M' := MX12_leftOf) (d' := 2) (As := [.int (vX12_of s a1 (6 : Int32))]) (rest := []) dX12_whyStrike_55 cvX12_297 okX12_leftOf rfl (Nat.le_of_ble_eq_true rfl) BS_248 (Nat.le_of_ble_eq_true rfl) (Nat.le_of_ble_eq_true rfl) hci_12 (Nat.le_of_ble_eq_true rfl) (Nat.le_of_ble_eq_true rfl) h (fun x2 s1 h => ?_)
        refine JT_iload (q := 0) dX12_whyStrike_58 rfl ?_
        refine JT_icmp_lt (tgt := 81) dX12_whyStrike_60 (by decide) (fun hc3 => ?_) (fun hc3 => ?_)
        · have h := h.1 hc3
          refine JT_iconst (v := 5) dX12_whyStrike_81 ic_5 ?_
          refine JT_goto (tgt := 86) dX12_whyStrike_82 (by decide) ?_
          exact JS_iret dX12_whyStrike_86 rfl rfl h
        · have h := h.2 hc3
          exact JT_sub [3, 4, 2, 1, 0] rfl h
    refine JT_icmp_ne (tgt := 41) dX12_whyStrike_34 (by decide) (fun hc7 => ?_) (fun hc7 => ?_)
    · refine JT_iconst (v := 1) dX12_whyStrike_41 ic_1 ?_
      exact hj6 _ (by rw [if_neg hc7])
    · refine JT_iconst (v := 2) dX12_whyStrike_37 ic_2 ?_
      refine JT_goto (tgt := 42) dX12_whyStrike_38 (by decide) ?_
      exact hj6 _ (by rw [if_pos hc7])
  · have h := h.2 hc10
    refine JT_iconst (v := 4) dX12_whyStrike_8 ic_4 ?_
    exact JS_iret dX12_whyStrike_9 rfl rfl h
set_option maxRecDepth 20000 in
theorem bX12_witness_19 (a1 : Int32) (a2 : Int32) (a3 : Int32) {s : SM} {Q : Int32 → SM → Prop} (h : ((((1 : Int32) <<< ((gI s 250 ((0 : Int32)).toNatClampNeg) &&& 31)) ≤ a3 → Q a2 s) ∧ (¬ ((1 : Int32) <<< ((gI s 250 ((0 : Int32)).toNatClampNeg) &&& 31)) ≤ a3 → ((a2 < 0 → BI MX12_witness 3 46 [(0, .ref 248), (1, .int a1), (2, .int a2), (3, .int a3)] s Q) ∧ (¬ a2 < 0 → KI MX12_bits 0 [.int a3] s (fun x2 s1 => KI MX12_bits 0 [.int a2] s1 (fun x4 s3 => ((x4 ≤ x2 → BI MX12_witness 3 19 [(0, .ref 248), (1, .int a1), (2, .int a2), (3, .int (a3 + 1))] s3 Q) ∧ (¬ x4 ≤ x2 → BI MX12_witness 3 46 [(0, .ref 248), (1, .int a1), (2, .int a2), (3, .int a3)] s3 Q))))))))) : BI MX12_witness 3 19 [(0, .ref 248), (1, .int a1), (2, .int a2), (3, .int a3)] s Q := by
  refine JT_iload_n (q := 3) dX12_witness_19 rfl rfl ?_
  refine JT_iconst (v := 1) dX12_witness_20 ic_1 ?_
  refine JT_aload_n (q := 0) dX12_witness_21 rfl rfl ?_
  refine JS_getR (x := 250) dX12_witness_22 flX12_33 BS_248 (Nat.le_of_ble_eq_true rfl) (Nat.le_of_ble_eq_true rfl) (Or.inr ⟨_, ct_12_6⟩) RF_248_6 ?_
  refine JT_iconst (v := 0) dX12_witness_25 ic_0 ?_
  refine JS_iald dX12_witness_26 BS_250 (Nat.le_of_ble_eq_true rfl) (Nat.le_of_ble_eq_true rfl) (by unfold vp_in; decide) ?_
  refine JT_ishl dX12_witness_27 ?_
  refine JT_icmp_ge (tgt := 63) dX12_witness_28 (by decide) (fun hc7 => ?_) (fun hc7 => ?_)
  · have h := h.1 hc7
    refine JT_iload_n (q := 2) dX12_witness_63 rfl rfl ?_
    exact JS_iret dX12_witness_64 rfl rfl h
  · have h := h.2 hc7
    refine JT_iload_n (q := 2) dX12_witness_31 rfl rfl ?_
    refine JT_if_lt (tgt := 46) dX12_witness_32 (by decide) (fun hc6 => ?_) (fun hc6 => ?_)
    · have h := h.1 hc6
      exact JT_sub [0, 1, 2, 3] rfl h
    · have h := h.2 hc6
      refine JT_iload_n (q := 3) dX12_witness_35 rfl rfl ?_
      refine JS_callSI (M' := MX12_bits) (d' := 0) (As := [.int a3]) (rest := []) dX12_witness_36 cvX12_452 okX12_bits rfl (Nat.le_of_ble_eq_true rfl) (Nat.le_of_ble_eq_true rfl) (Nat.le_of_ble_eq_true rfl) h (fun x2 s1 h => ?_)
      refine JT_iload_n (q := 2) dX12_witness_39 rfl rfl ?_
      refine JS_callSI (M' := MX12_bits) (d' := 0) (As := [.int a2]) (rest := [.int x2]) dX12_witness_40 cvX12_452 okX12_bits rfl (Nat.le_of_ble_eq_true rfl) (Nat.le_of_ble_eq_true rfl) (Nat.le_of_ble_eq_true rfl) h (fun x4 s3 h => ?_)
      refine JT_icmp_ge (tgt := 57) dX12_witness_43 (by decide) (fun hc5 => ?_) (fun hc5 => ?_)
      · have h := h.1 hc5
        refine JT_iinc (q := 3) (v := (a3 + 1)) (lv' := [(3, .int (a3 + 1)), (0, .ref 248), (1, .int a1), (2, .int a2)]) dX12_witness_57 rfl (by rfl) (Nat.le_of_ble_eq_true rfl) rfl ?_
        refine JT_goto (tgt := 19) dX12_witness_60 (by decide) ?_
        exact JT_sub [1, 2, 3, 0] rfl h
      · have h := h.2 hc5
        exact JT_sub [0, 1, 2, 3] rfl h
set_option maxRecDepth 20000 in
theorem bX12_witness_46 (a1 : Int32) (a2 : Int32) (a3 : Int32) {s : SM} {Q : Int32 → SM → Prop} (h : rX12_isKnown s a1 a3 ∧ (((vX12_isKnown s a1 a3) = 0 → BI MX12_witness 3 19 [(0, .ref 248), (1, .int a1), (2, .int a2), (3, .int (a3 + 1))] s Q) ∧ (¬ (vX12_isKnown s a1 a3) = 0 → BI MX12_witness 3 19 [(0, .ref 248), (1, .int a1), (2, .int a3), (3, .int (a3 + 1))] s Q))) : BI MX12_witness 3 46 [(0, .ref 248), (1, .int a1), (2, .int a2), (3, .int a3)] s Q := by
  refine JT_aload_n (q := 0) dX12_witness_46 rfl rfl ?_
  refine JT_iload_n (q := 1) dX12_witness_47 rfl rfl ?_
  refine JT_iload_n (q := 3) dX12_witness_48 rfl rfl ?_
  obtain ⟨o2, h⟩ := h
  refine JS_callVI (M' := MX12_isKnown) (d' := 2) (As := [.int a1, .int a3]) (rest := []) (P := (fun zv9 wm9 => (vX12_isKnown s a1 a3) = zv9 ∧ s = wm9)) dX12_witness_49 cvX12_312 okX12_isKnown rfl (Nat.le_of_ble_eq_true rfl) BS_248 (Nat.le_of_ble_eq_true rfl) (Nat.le_of_ble_eq_true rfl) hci_12 (Nat.le_of_ble_eq_true rfl) (Nat.le_of_ble_eq_true rfl) (pX12_isKnown  (a1) (a3) o2 ⟨rfl, rfl⟩) (fun zv9 wm9 hq9 => ?_)
  obtain ⟨rfl, rfl⟩ := hq9
  refine JT_if_eq (tgt := 57) dX12_witness_52 (by decide) (fun hc1 => ?_) (fun hc1 => ?_)
  · have h := h.1 hc1
    refine JT_iinc (q := 3) (v := (a3 + 1)) (lv' := [(3, .int (a3 + 1)), (0, .ref 248), (1, .int a1), (2, .int a2)]) dX12_witness_57 rfl (by rfl) (Nat.le_of_ble_eq_true rfl) rfl ?_
    refine JT_goto (tgt := 19) dX12_witness_60 (by decide) ?_
    exact JT_sub [1, 2, 3, 0] rfl h
  · have h := h.2 hc1
    refine JT_iload_n (q := 3) dX12_witness_55 rfl rfl ?_
    refine JT_istore_n (lv' := [(2, .int a3), (0, .ref 248), (1, .int a1), (3, .int a3)]) dX12_witness_56 rfl (Nat.le_of_ble_eq_true rfl) rfl ?_
    refine JT_iinc (q := 3) (v := (a3 + 1)) (lv' := [(3, .int (a3 + 1)), (2, .int a3), (0, .ref 248), (1, .int a1)]) dX12_witness_57 rfl (by rfl) (Nat.le_of_ble_eq_true rfl) rfl ?_
    refine JT_goto (tgt := 19) dX12_witness_60 (by decide) ?_
    exact JT_sub [2, 3, 1, 0] rfl h
set_option maxRecDepth 20000 in
theorem bX12_witness (a1 : Int32) {s : SM} {Q : Int32 → SM → Prop} (h : ((¬ (vX12_isDeal (pI s 248 0 (0 : Int32)) a1) = 0 → BI MX12_witness 3 19 [(0, .ref 248), (1, .int a1), (2, .int (-1 : Int32)), (3, .int (0 : Int32))] (pI s 248 0 (0 : Int32)) Q) ∧ ((vX12_isDeal (pI s 248 0 (0 : Int32)) a1) = 0 → Q (-1 : Int32) (pI s 248 0 (0 : Int32))))) : KI MX12_witness 3 [.ref 248, .int a1] s Q := by
  show BI MX12_witness 3 0 [(0, .ref 248), (1, .int a1)] s Q
  refine JT_aload_n (q := 0) dX12_witness_0 rfl rfl ?_
  refine JT_iconst (v := 0) dX12_witness_1 ic_0 ?_
  refine JS_putI dX12_witness_2 flX12_1 BS_248 (Nat.le_of_ble_eq_true rfl) (Nat.le_of_ble_eq_true rfl) ct_12_0 ?_
  refine JT_aload_n (q := 0) dX12_witness_5 rfl rfl ?_
  refine JT_iload_n (q := 1) dX12_witness_6 rfl rfl ?_
  refine JS_callVI (M' := MX12_isDeal) (d' := 1) (As := [.int a1]) (rest := []) (P := (fun zv9 wm9 => (vX12_isDeal (pI s 248 0 (0 : Int32)) a1) = zv9 ∧ (pI s 248 0 (0 : Int32)) = wm9)) dX12_witness_7 cvX12_262 okX12_isDeal rfl (Nat.le_of_ble_eq_true rfl) BS_248 (Nat.le_of_ble_eq_true rfl) (Nat.le_of_ble_eq_true rfl) hci_12 (Nat.le_of_ble_eq_true rfl) (Nat.le_of_ble_eq_true rfl) (pX12_isDeal  (a1)  ⟨rfl, rfl⟩) (fun zv9 wm9 hq9 => ?_)
  obtain ⟨rfl, rfl⟩ := hq9
  refine JT_if_ne (tgt := 15) dX12_witness_10 (by decide) (fun hc1 => ?_) (fun hc1 => ?_)
  · have h := h.1 hc1
    refine JT_iconst (v := -1) dX12_witness_15 ic_m1 ?_
    refine JT_istore_n (lv' := [(2, .int (-1 : Int32)), (0, .ref 248), (1, .int a1)]) dX12_witness_16 rfl (Nat.le_of_ble_eq_true rfl) rfl ?_
    refine JT_iconst (v := 0) dX12_witness_17 ic_0 ?_
    refine JT_istore_n (lv' := [(3, .int (0 : Int32)), (2, .int (-1 : Int32)), (0, .ref 248), (1, .int a1)]) dX12_witness_18 rfl (Nat.le_of_ble_eq_true rfl) rfl ?_
    exact JT_sub [2, 3, 1, 0] rfl h
  · have h := h.2 hc1
    refine JT_iconst (v := -1) dX12_witness_13 ic_m1 ?_
    exact JS_iret dX12_witness_14 rfl rfl h
set_option maxRecDepth 20000 in
theorem bX1_findNeeded_25 (a1 : Int32) (a2 : Int32) (a3 : Int32) {s : SM} {Q : SM → Prop} (h : (((gI s 233 6) ≤ a3 → vp_in a1 9 ∧ ((¬ (gI s 239 (a1).toNatClampNeg) = (-1 : Int32) → Q s) ∧ ((gI s 239 (a1).toNatClampNeg) = (-1 : Int32) → ∃ Lx2 Px2, gD s 2 = some Lx2 ∧ (Lx2, Px2) ∈ LX ∧ (((vX4_lives s Lx2 Px2 a1) = 0 → Q s) ∧ (¬ (vX4_lives s Lx2 Px2 a1) = 0 → vp_in a1 9 ∧ (((gI s 238 (a1).toNatClampNeg) = 0 → Q s) ∧ (¬ (gI s 238 (a1).toNatClampNeg) = 0 → Q (pI s 233 10 (0 : Int32))))))))) ∧ (¬ (gI s 233 6) ≤ a3 → vp_in a3 4 ∧ ∃ Lx9 Px9, gD s 2 = some Lx9 ∧ (Lx9, Px9) ∈ LX ∧ vp_in (gI s 234 (a3).toNatClampNeg) 60 ∧ (((gI s (Lx9 + 1) ((gI s 234 (a3).toNatClampNeg)).toNatClampNeg) = a1 → BV MX1_findNeeded 3 69 [(0, .ref 233), (1, .int a1), (2, .int a2), (3, .int a3), (4, .int (gI s 234 (a3).toNatClampNeg))] s Q) ∧ (¬ (gI s (Lx9 + 1) ((gI s 234 (a3).toNatClampNeg)).toNatClampNeg) = a1 → ∃ Lx11 Px11, gD s 2 = some Lx11 ∧ (Lx11, Px11) ∈ LX ∧ vp_in (gI s 234 (a3).toNatClampNeg) 60 ∧ ((¬ (gI s (Lx11 + 2) ((gI s 234 (a3).toNatClampNeg)).toNatClampNeg) = a1 → BV MX1_findNeeded 3 25 [(0, .ref 233), (1, .int a1), (2, .int a2), (3, .int (a3 + 1))] s Q) ∧ ((gI s (Lx11 + 2) ((gI s 234 (a3).toNatClampNeg)).toNatClampNeg) = a1 → BV MX1_findNeeded 3 69 [(0, .ref 233), (1, .int a1), (2, .int a2), (3, .int a3), (4, .int (gI s 234 (a3).toNatClampNeg))] s Q))))))) : BV MX1_findNeeded 3 25 [(0, .ref 233), (1, .int a1), (2, .int a2), (3, .int a3)] s Q := by
  refine JT_iload_n (q := 3) dX1_findNeeded_25 rfl rfl ?_
  refine JT_aload_n (q := 0) dX1_findNeeded_26 rfl rfl ?_
  refine JS_getI dX1_findNeeded_27 flX1_67 BS_233 (Nat.le_of_ble_eq_true rfl) (Nat.le_of_ble_eq_true rfl) (Or.inl ct_1_6) ?_
  refine JT_icmp_ge (tgt := 127) dX1_findNeeded_30 (by decide) (fun hc15 => ?_) (fun hc15 => ?_)
  · have h := h.1 hc15
    refine JT_aload_n (q := 0) dX1_findNeeded_127 rfl rfl ?_
    refine JS_getR (x := 239) dX1_findNeeded_128 flX1_27 BS_233 (Nat.le_of_ble_eq_true rfl) (Nat.le_of_ble_eq_true rfl) (Or.inr ⟨_, ct_1_5⟩) RF_233_5 ?_
    refine JT_iload_n (q := 1) dX1_findNeeded_131 rfl rfl ?_
    obtain ⟨o1, h⟩ := h
    refine JS_iald dX1_findNeeded_132 BS_239 (Nat.le_of_ble_eq_true rfl) (Nat.le_of_ble_eq_true rfl) o1 ?_
    refine JT_iconst (v := -1) dX1_findNeeded_133 ic_m1 ?_
    refine JT_icmp_ne (tgt := 162) dX1_findNeeded_134 (by decide) (fun hc7 => ?_) (fun hc7 => ?_)
    · have h := h.1 hc7
      exact JS_vret dX1_findNeeded_162 rfl h
    · have h := h.2 hc7
      refine JT_aload_n (q := 0) dX1_findNeeded_137 rfl rfl ?_
      obtain ⟨Lx2, Px2, hrx2, hLx2, h⟩ := h
      refine JS_getR dX1_findNeeded_138 flX1_30 BS_233 (Nat.le_of_ble_eq_true rfl) (Nat.le_of_ble_eq_true rfl) (Or.inl ⟨_, ct_1_11⟩) (RF_233_11.trans hrx2) ?_
      refine JT_iload_n (q := 1) dX1_findNeeded_141 rfl rfl ?_
      refine JS_callVI (M' := MX4_lives) (d' := 0) (As := [.int a1]) (rest := []) (P := (fun zv9 wm9 => (vX4_lives s Lx2 Px2 a1) = zv9 ∧ s = wm9)) dX1_findNeeded_142 cvX1_90 okX4_lives rfl (Nat.le_of_ble_eq_true rfl) (lxB hLx2) (lx2 hLx2) (lxN hLx2) hci_4 (Nat.le_of_ble_eq_true rfl) (Nat.le_of_ble_eq_true rfl) (pX4_lives hLx2 (a1)  ⟨rfl, rfl⟩) (fun zv9 wm9 hq9 => ?_)
      obtain ⟨rfl, rfl⟩ := hq9
      refine JT_if_eq (tgt := 162) dX1_findNeeded_145 (by decide) (fun hc5 => ?_) (fun hc5 => ?_)
      · have h := h.1 hc5
        exact JS_vret dX1_findNeeded_162 rfl h
      · have h := h.2 hc5
        refine JT_aload_n (q := 0) dX1_findNeeded_148 rfl rfl ?_
        refine JS_getR (x := 238) dX1_findNeeded_149 flX1_24 BS_233 (Nat.le_of_ble_eq_true rfl) (Nat.le_of_ble_eq_true rfl) (Or.inr ⟨_, ct_1_4⟩) RF_233_4 ?_
        refine JT_iload_n (q := 1) dX1_findNeeded_152 rfl rfl ?_
        obtain ⟨o3, h⟩ := h
        refine JS_iald dX1_findNeeded_153 BS_238 (Nat.le_of_ble_eq_true rfl) (Nat.le_of_ble_eq_true rfl) o3 ?_
        refine JT_if_eq (tgt := 162) dX1_findNeeded_154 (by decide) (fun hc4 => ?_) (fun hc4 => ?_)
        · have h := h.1 hc4
          exact JS_vret dX1_findNeeded_162 rfl h
        · have h := h.2 hc4
          refine JT_aload_n (q := 0) dX1_findNeeded_157 rfl rfl ?_
          refine JT_iconst (v := 0) dX1_findNeeded_158 ic_0 ?_
          refine JS_putZ dX1_findNeeded_159 flX1_55 BS_233 (Nat.le_of_ble_eq_true rfl) (Nat.le_of_ble_eq_true rfl) ct_1_10 (Or.inl rfl) ?_
          exact JS_vret dX1_findNeeded_162 rfl h
  · have h := h.2 hc15
    refine JT_aload_n (q := 0) dX1_findNeeded_33 rfl rfl ?_
    refine JS_getR (x := 234) dX1_findNeeded_34 flX1_9 BS_233 (Nat.le_of_ble_eq_true rfl) (Nat.le_of_ble_eq_true rfl) (Or.inr ⟨_, ct_1_0⟩) RF_233_0 ?_
    refine JT_iload_n (q := 3) dX1_findNeeded_37 rfl rfl ?_
    obtain ⟨o8, h⟩ := h
    refine JS_iald dX1_findNeeded_38 BS_234 (Nat.le_of_ble_eq_true rfl) (Nat.le_of_ble_eq_true rfl) o8 ?_
    refine JT_istore (lv' := [(4, .int (gI s 234 (a3).toNatClampNeg)), (0, .ref 233), (1, .int a1), (2, .int a2), (3, .int a3)]) dX1_findNeeded_39 (Nat.le_of_ble_eq_true rfl) rfl ?_
    refine JT_aload_n (q := 1) dX1_findNeeded_41 rfl rfl ?_
    obtain ⟨Lx9, Px9, hrx9, hLx9, h⟩ := h
    refine JS_getR dX1_findNeeded_42 flX1_30 BS_233 (Nat.le_of_ble_eq_true rfl) (Nat.le_of_ble_eq_true rfl) (Or.inl ⟨_, ct_1_11⟩) (RF_233_11.trans hrx9) ?_
    refine JS_getR (x := (Lx9 + 1)) dX1_findNeeded_45 flX1_81 (lxB hLx9) (lx2 hLx9) (lxN hLx9) (Or.inr ⟨_, ct_4_0⟩) (lxR0 hLx9) ?_
    refine JT_iload (q := 0) dX1_findNeeded_48 rfl ?_
    obtain ⟨o10, h⟩ := h
    refine JS_iald dX1_findNeeded_50 (lxB1 hLx9) (lx2k hLx9 _) (lxNk hLx9 (Nat.le_of_ble_eq_true rfl)) o10 ?_
    refine JT_iload_n (q := 2) dX1_findNeeded_51 rfl rfl ?_
    refine JT_icmp_eq (tgt := 69) dX1_findNeeded_52 (by decide) (fun hc14 => ?_) (fun hc14 => ?_)
    · have h := h.1 hc14
      exact JT_sub [1, 2, 3, 4, 0] rfl h
    · have h := h.2 hc14
      refine JT_aload_n (q := 1) dX1_findNeeded_55 rfl rfl ?_
      obtain ⟨Lx11, Px11, hrx11, hLx11, h⟩ := h
      refine JS_getR dX1_findNeeded_56 flX1_30 BS_233 (Nat.le_of_ble_eq_true rfl) (Nat.le_of_ble_eq_true rfl) (Or.inl ⟨_, ct_1_11⟩) (RF_233_11.trans hrx11) ?_
      refine JS_getR (x := (Lx11 + 2)) dX1_findNeeded_59 flX1_84 (lxB hLx11) (lx2 hLx11) (lxN hLx11) (Or.inr ⟨_, ct_4_1⟩) (lxR1 hLx11) ?_
      refine JT_iload (q := 0) dX1_findNeeded_62 rfl ?_
      obtain ⟨o12, h⟩ := h
      refine JS_iald dX1_findNeeded_64 (lxB2 hLx11) (lx2k hLx11 _) (lxNk hLx11 (Nat.le_of_ble_eq_true rfl)) o12 ?_
      refine JT_iload_n (q := 2) dX1_findNeeded_65 rfl rfl ?_
      refine JT_icmp_ne (tgt := 121) dX1_findNeeded_66 (by decide) (fun hc13 => ?_) (fun hc13 => ?_)
      · have h := h.1 hc13
        refine JT_iinc (q := 4) (v := (a3 + 1)) (lv' := [(3, .int (a3 + 1)), (4, .int (gI s 234 (a3).toNatClampNeg)), (0, .ref 233), (1, .int a1), (2, .int a2)]) dX1_findNeeded_121 rfl (by rfl) (Nat.le_of_ble_eq_true rfl) rfl ?_
        refine JT_goto (tgt := 25) dX1_findNeeded_124 (by decide) ?_
        exact JT_sub [2, 3, 4, 0] rfl h
      · have h := h.2 hc13
        exact JT_sub [1, 2, 3, 4, 0] rfl h
set_option maxRecDepth 20000 in
theorem bX1_findNeeded_69 (a1 : Int32) (a2 : Int32) (a3 : Int32) (a4 : Int32) {s : SM} {Q : SM → Prop} (h : vp_in a1 9 ∧ vp_in a1 9 ∧ ∃ Lx3 Px3, gD (pI s 239 (a1).toNatClampNeg a3) 2 = some Lx3 ∧ (Lx3, Px3) ∈ LX ∧ vp_in a4 60 ∧ ((¬ (gI (pI s 239 (a1).toNatClampNeg a3) (Lx3 + 1) (a4).toNatClampNeg) = a1 → ∃ Lx5 Px5, gD (pI s 239 (a1).toNatClampNeg a3) 2 = some Lx5 ∧ (Lx5, Px5) ∈ LX ∧ rX4_valueOf (pI s 239 (a1).toNatClampNeg a3) Lx5 Px5 a4 ∧ vp_in a1 9 ∧ (∀ s7, s7 = (pI (pI s 239 (a1).toNatClampNeg a3) 238 (a1).toNatClampNeg ((gI (pI s 239 (a1).toNatClampNeg a3) 238 (a1).toNatClampNeg) + (-(vX4_valueOf (pI s 239 (a1).toNatClampNeg a3) Lx5 Px5 a4)))) → BV MX1_findNeeded 3 25 [(0, .ref 233), (1, .int a1), (2, .int a2), (3, .int (a3 + 1))] s7 Q)) ∧ ((gI (pI s 239 (a1).toNatClampNeg a3) (Lx3 + 1) (a4).toNatClampNeg) = a1 → ∃ Lx9 Px9, gD (pI s 239 (a1).toNatClampNeg a3) 2 = some Lx9 ∧ (Lx9, Px9) ∈ LX ∧ rX4_valueOf (pI s 239 (a1).toNatClampNeg a3) Lx9 Px9 a4 ∧ vp_in a1 9 ∧ (∀ s11, s11 = (pI (pI s 239 (a1).toNatClampNeg a3) 238 (a1).toNatClampNeg ((gI (pI s 239 (a1).toNatClampNeg a3) 238 (a1).toNatClampNeg) + (vX4_valueOf (pI s 239 (a1).toNatClampNeg a3) Lx9 Px9 a4))) → BV MX1_findNeeded 3 25 [(0, .ref 233), (1, .int a1), (2, .int a2), (3, .int (a3 + 1))] s11 Q)))) : BV MX1_findNeeded 3 69 [(0, .ref 233), (1, .int a1), (2, .int a2), (3, .int a3), (4, .int a4)] s Q := by
  refine JT_aload_n (q := 0) dX1_findNeeded_69 rfl rfl ?_
  refine JS_getR (x := 239) dX1_findNeeded_70 flX1_27 BS_233 (Nat.le_of_ble_eq_true rfl) (Nat.le_of_ble_eq_true rfl) (Or.inr ⟨_, ct_1_5⟩) RF_233_5 ?_
  refine JT_iload_n (q := 1) dX1_findNeeded_73 rfl rfl ?_
  refine JT_iload_n (q := 3) dX1_findNeeded_74 rfl rfl ?_
  obtain ⟨o1, h⟩ := h
  refine JS_iast dX1_findNeeded_75 BS_239 (Nat.le_of_ble_eq_true rfl) (Nat.le_of_ble_eq_true rfl) o1 ?_
  refine JT_aload_n (q := 0) dX1_findNeeded_76 rfl rfl ?_
  refine JS_getR (x := 238) dX1_findNeeded_77 flX1_24 BS_233 (Nat.le_of_ble_eq_true rfl) (Nat.le_of_ble_eq_true rfl) (Or.inr ⟨_, ct_1_4⟩) RF_233_4 ?_
  refine JT_iload_n (q := 1) dX1_findNeeded_80 rfl rfl ?_
  refine JT_dup2 dX1_findNeeded_81 rfl rfl ?_
  obtain ⟨o2, h⟩ := h
  refine JS_iald dX1_findNeeded_82 BS_238 (Nat.le_of_ble_eq_true rfl) (Nat.le_of_ble_eq_true rfl) o2 ?_
  refine JT_aload_n (q := 0) dX1_findNeeded_83 rfl rfl ?_
  obtain ⟨Lx3, Px3, hrx3, hLx3, h⟩ := h
  refine JS_getR dX1_findNeeded_84 flX1_30 BS_233 (Nat.le_of_ble_eq_true rfl) (Nat.le_of_ble_eq_true rfl) (Or.inl ⟨_, ct_1_11⟩) (RF_233_11.trans hrx3) ?_
  refine JS_getR (x := (Lx3 + 1)) dX1_findNeeded_87 flX1_81 (lxB hLx3) (lx2 hLx3) (lxN hLx3) (Or.inr ⟨_, ct_4_0⟩) (lxR0 hLx3) ?_
  refine JT_iload (q := 4) dX1_findNeeded_90 rfl ?_
  obtain ⟨o4, h⟩ := h
  refine JS_iald dX1_findNeeded_92 (lxB1 hLx3) (lx2k hLx3 _) (lxNk hLx3 (Nat.le_of_ble_eq_true rfl)) o4 ?_
  refine JT_iload_n (q := 1) dX1_findNeeded_93 rfl rfl ?_
  refine JT_icmp_ne (tgt := 109) dX1_findNeeded_94 (by decide) (fun hc13 => ?_) (fun hc13 => ?_)
  · have h := h.1 hc13
    refine JT_aload_n (q := 0) dX1_findNeeded_109 rfl rfl ?_
    obtain ⟨Lx5, Px5, hrx5, hLx5, h⟩ := h
    refine JS_getR dX1_findNeeded_110 flX1_30 BS_233 (Nat.le_of_ble_eq_true rfl) (Nat.le_of_ble_eq_true rfl) (Or.inl ⟨_, ct_1_11⟩) (RF_233_11.trans hrx5) ?_
    refine JT_iload (q := 4) dX1_findNeeded_113 rfl ?_
    obtain ⟨o8, h⟩ := h
    refine JS_callVI (M' := MX4_valueOf) (d' := 1) (As := [.int a4]) (rest := [.int (gI (pI s 239 (a1).toNatClampNeg a3) 238 (a1).toNatClampNeg), .int a1, .ref 238]) (P := (fun zv9 wm9 => (vX4_valueOf (pI s 239 (a1).toNatClampNeg a3) Lx5 Px5 a4) = zv9 ∧ (pI s 239 (a1).toNatClampNeg a3) = wm9)) dX1_findNeeded_115 cvX1_87 okX4_valueOf rfl (Nat.le_of_ble_eq_true rfl) (lxB hLx5) (lx2 hLx5) (lxN hLx5) hci_4 (Nat.le_of_ble_eq_true rfl) (Nat.le_of_ble_eq_true rfl) (pX4_valueOf hLx5 (a4) o8 ⟨rfl, rfl⟩) (fun zv9 wm9 hq9 => ?_)
    obtain ⟨rfl, rfl⟩ := hq9
    refine JT_ineg dX1_findNeeded_118 ?_
    refine JT_iadd dX1_findNeeded_119 ?_
    obtain ⟨o6, h⟩ := h
    refine JS_iast dX1_findNeeded_120 BS_238 (Nat.le_of_ble_eq_true rfl) (Nat.le_of_ble_eq_true rfl) o6 ?_
    obtain ⟨s7, hs7⟩ : ∃ z, z = (pI (pI s 239 (a1).toNatClampNeg a3) 238 (a1).toNatClampNeg ((gI (pI s 239 (a1).toNatClampNeg a3) 238 (a1).toNatClampNeg) + (-(vX4_valueOf (pI s 239 (a1).toNatClampNeg a3) Lx5 Px5 a4)))) := ⟨_, rfl⟩
    replace h := h s7 hs7
    rw [← hs7]
    refine JT_iinc (q := 3) (v := (a3 + 1)) (lv' := [(3, .int (a3 + 1)), (0, .ref 233), (1, .int a1), (2, .int a2), (4, .int a4)]) dX1_findNeeded_121 rfl (by rfl) (Nat.le_of_ble_eq_true rfl) rfl ?_
    refine JT_goto (tgt := 25) dX1_findNeeded_124 (by decide) ?_
    exact JT_sub [1, 2, 3, 0] rfl h
  · have h := h.2 hc13
    refine JT_aload_n (q := 0) dX1_findNeeded_97 rfl rfl ?_
    obtain ⟨Lx9, Px9, hrx9, hLx9, h⟩ := h
    refine JS_getR dX1_findNeeded_98 flX1_30 BS_233 (Nat.le_of_ble_eq_true rfl) (Nat.le_of_ble_eq_true rfl) (Or.inl ⟨_, ct_1_11⟩) (RF_233_11.trans hrx9) ?_
    refine JT_iload (q := 4) dX1_findNeeded_101 rfl ?_
    obtain ⟨o12, h⟩ := h
    refine JS_callVI (M' := MX4_valueOf) (d' := 1) (As := [.int a4]) (rest := [.int (gI (pI s 239 (a1).toNatClampNeg a3) 238 (a1).toNatClampNeg), .int a1, .ref 238]) (P := (fun zv9 wm9 => (vX4_valueOf (pI s 239 (a1).toNatClampNeg a3) Lx9 Px9 a4) = zv9 ∧ (pI s 239 (a1).toNatClampNeg a3) = wm9)) dX1_findNeeded_103 cvX1_87 okX4_valueOf rfl (Nat.le_of_ble_eq_true rfl) (lxB hLx9) (lx2 hLx9) (lxN hLx9) hci_4 (Nat.le_of_ble_eq_true rfl) (Nat.le_of_ble_eq_true rfl) (pX4_valueOf hLx9 (a4) o12 ⟨rfl, rfl⟩) (fun zv9 wm9 hq9 => ?_)
    obtain ⟨rfl, rfl⟩ := hq9
    refine JT_goto (tgt := 119) dX1_findNeeded_106 (by decide) ?_
    refine JT_iadd dX1_findNeeded_119 ?_
    obtain ⟨o10, h⟩ := h
    refine JS_iast dX1_findNeeded_120 BS_238 (Nat.le_of_ble_eq_true rfl) (Nat.le_of_ble_eq_true rfl) o10 ?_
    obtain ⟨s11, hs11⟩ : ∃ z, z = (pI (pI s 239 (a1).toNatClampNeg a3) 238 (a1).toNatClampNeg ((gI (pI s 239 (a1).toNatClampNeg a3) 238 (a1).toNatClampNeg) + (vX4_valueOf (pI s 239 (a1).toNatClampNeg a3) Lx9 Px9 a4))) := ⟨_, rfl⟩
    replace h := h s11 hs11
    rw [← hs11]
    refine JT_iinc (q := 3) (v := (a3 + 1)) (lv' := [(3, .int (a3 + 1)), (0, .ref 233), (1, .int a1), (2, .int a2), (4, .int a4)]) dX1_findNeeded_121 rfl (by rfl) (Nat.le_of_ble_eq_true rfl) rfl ?_
    refine JT_goto (tgt := 25) dX1_findNeeded_124 (by decide) ?_
    exact JT_sub [1, 2, 3, 0] rfl h
set_option maxRecDepth 20000 in
theorem bX1_findNeeded (a1 : Int32) (a2 : Int32) {s : SM} {Q : SM → Prop} (h : ∃ Lx1 Px1, gD s 2 = some Lx1 ∧ (Lx1, Px1) ∈ LX ∧ KI MX4_netOf 2 [.ref Lx1, .int a1] s (fun x3 s2 => vp_in a1 9 ∧ vp_in a1 9 ∧ BV MX1_findNeeded 3 25 [(0, .ref 233), (1, .int a1), (2, .int a2), (3, .int (0 : Int32))] (pI (pI s2 238 (a1).toNatClampNeg (a2 - x3)) 239 (a1).toNatClampNeg (-1 : Int32)) Q)) : KV MX1_findNeeded 3 [.ref 233, .int a1, .int a2] s Q := by
  show BV MX1_findNeeded 3 0 [(0, .ref 233), (1, .int a1), (2, .int a2)] s Q
  refine JT_aload_n (q := 0) dX1_findNeeded_0 rfl rfl ?_
  refine JS_getR (x := 238) dX1_findNeeded_1 flX1_24 BS_233 (Nat.le_of_ble_eq_true rfl) (Nat.le_of_ble_eq_true rfl) (Or.inr ⟨_, ct_1_4⟩) RF_233_4 ?_
  refine JT_iload_n (q := 1) dX1_findNeeded_4 rfl rfl ?_
  refine JT_iload_n (q := 2) dX1_findNeeded_5 rfl rfl ?_
  refine JT_aload_n (q := 0) dX1_findNeeded_6 rfl rfl ?_
  obtain ⟨Lx1, Px1, hrx1, hLx1, h⟩ := h
  refine JS_getR dX1_findNeeded_7 flX1_30 BS_233 (Nat.le_of_ble_eq_true rfl) (Nat.le_of_ble_eq_true rfl) (Or.inl ⟨_, ct_1_11⟩) (RF_233_11.trans hrx1) ?_
  refine JT_iload_n (q := 1) dX1_findNeeded_10 rfl rfl ?_
  refine JS_callVI (M' := MX4_netOf) (d' := 2) (As := [.int a1]) (rest := [.int a2, .int a1, .ref 238]) dX1_findNeeded_11 cvX1_77 okX4_netOf rfl (Nat.le_of_ble_eq_true rfl) (lxB hLx1) (lx2 hLx1) (lxN hLx1) hci_4 (Nat.le_of_ble_eq_true rfl) (Nat.le_of_ble_eq_true rfl) h (fun x3 s2 h => ?_)
  refine JT_isub dX1_findNeeded_14 ?_
  obtain ⟨o4, h⟩ := h
  refine JS_iast dX1_findNeeded_15 BS_238 (Nat.le_of_ble_eq_true rfl) (Nat.le_of_ble_eq_true rfl) o4 ?_
  refine JT_aload_n (q := 0) dX1_findNeeded_16 rfl rfl ?_
  refine JS_getR (x := 239) dX1_findNeeded_17 flX1_27 BS_233 (Nat.le_of_ble_eq_true rfl) (Nat.le_of_ble_eq_true rfl) (Or.inr ⟨_, ct_1_5⟩) RF_233_5 ?_
  refine JT_iload_n (q := 1) dX1_findNeeded_20 rfl rfl ?_
  refine JT_iconst (v := -1) dX1_findNeeded_21 ic_m1 ?_
  obtain ⟨o5, h⟩ := h
  refine JS_iast dX1_findNeeded_22 BS_239 (Nat.le_of_ble_eq_true rfl) (Nat.le_of_ble_eq_true rfl) o5 ?_
  refine JT_iconst (v := 0) dX1_findNeeded_23 ic_0 ?_
  refine JT_istore_n (lv' := [(3, .int (0 : Int32)), (0, .ref 233), (1, .int a1), (2, .int a2)]) dX1_findNeeded_24 rfl (Nat.le_of_ble_eq_true rfl) rfl ?_
  exact JT_sub [1, 2, 3, 0] rfl h
set_option maxRecDepth 20000 in
theorem bX4_isKnown {L0 P0 : Nat} (hL0 : (L0, P0) ∈ LX) (a1 : Int32) {s : SM} {Q : Int32 → SM → Prop} (h : rX4_isReadable s L0 P0 a1 (0 : Int32) ∧ rX4_isReadable s L0 P0 a1 (1 : Int32) ∧ vp_in a1 60 ∧ vp_in (gI s (L0 + 4) (a1).toNatClampNeg) 6 ∧ Q (if (gI s (P0 + 6) ((gI s (L0 + 4) (a1).toNatClampNeg)).toNatClampNeg) = (4 : Int32) then (if (vX4_isReadable s L0 P0 a1 (0 : Int32)) = 0 then (0 : Int32) else (if (vX4_isReadable s L0 P0 a1 (1 : Int32)) = 0 then (0 : Int32) else (1 : Int32))) else (if (vX4_isReadable s L0 P0 a1 (0 : Int32)) = 0 then (if (vX4_isReadable s L0 P0 a1 (1 : Int32)) = 0 then (0 : Int32) else (1 : Int32)) else (1 : Int32))) s) : KI MX4_isKnown 3 [.ref L0, .int a1] s Q := by
  show BI MX4_isKnown 3 0 [(0, .ref L0), (1, .int a1)] s Q
  refine JT_aload_n (q := 0) dX4_isKnown_0 rfl rfl ?_
  refine JT_iload_n (q := 1) dX4_isKnown_1 rfl rfl ?_
  refine JT_iconst (v := 0) dX4_isKnown_2 ic_0 ?_
  obtain ⟨o10, h⟩ := h
  refine JS_callVI (M' := MX4_isReadable) (d' := 2) (As := [.int a1, .int (0 : Int32)]) (rest := []) (P := (fun zv9 wm9 => (vX4_isReadable s L0 P0 a1 (0 : Int32)) = zv9 ∧ s = wm9)) dX4_isKnown_3 cvX4_88 okX4_isReadable rfl (Nat.le_of_ble_eq_true rfl) (lxB hL0) (lx2 hL0) (lxN hL0) hci_4 (Nat.le_of_ble_eq_true rfl) (Nat.le_of_ble_eq_true rfl) (pX4_isReadable hL0 (a1) ((0 : Int32)) o10 ⟨rfl, rfl⟩) (fun zv9 wm9 hq9 => ?_)
  obtain ⟨rfl, rfl⟩ := hq9
  refine JT_istore_n (lv' := [(2, .int (vX4_isReadable s L0 P0 a1 (0 : Int32))), (0, .ref L0), (1, .int a1)]) dX4_isKnown_6 rfl (Nat.le_of_ble_eq_true rfl) rfl ?_
  refine JT_aload_n (q := 1) dX4_isKnown_7 rfl rfl ?_
  refine JT_iload_n (q := 2) dX4_isKnown_8 rfl rfl ?_
  refine JT_iconst (v := 1) dX4_isKnown_9 ic_1 ?_
  obtain ⟨o9, h⟩ := h
  refine JS_callVI (M' := MX4_isReadable) (d' := 2) (As := [.int a1, .int (1 : Int32)]) (rest := []) (P := (fun zv9 wm9 => (vX4_isReadable s L0 P0 a1 (1 : Int32)) = zv9 ∧ s = wm9)) dX4_isKnown_10 cvX4_88 okX4_isReadable rfl (Nat.le_of_ble_eq_true rfl) (lxB hL0) (lx2 hL0) (lxN hL0) hci_4 (Nat.le_of_ble_eq_true rfl) (Nat.le_of_ble_eq_true rfl) (pX4_isReadable hL0 (a1) ((1 : Int32)) o9 ⟨rfl, rfl⟩) (fun zv9 wm9 hq9 => ?_)
  obtain ⟨rfl, rfl⟩ := hq9
  refine JT_istore_n (lv' := [(3, .int (vX4_isReadable s L0 P0 a1 (1 : Int32))), (2, .int (vX4_isReadable s L0 P0 a1 (0 : Int32))), (0, .ref L0), (1, .int a1)]) dX4_isKnown_13 rfl (Nat.le_of_ble_eq_true rfl) rfl ?_
  refine JT_aload_n (q := 2) dX4_isKnown_14 rfl rfl ?_
  refine JS_getR (x := P0) dX4_isKnown_15 flX4_45 (lxB hL0) (lx2 hL0) (lxN hL0) (Or.inl ⟨_, ct_4_8⟩) (lxR8 hL0) ?_
  refine JS_getR (x := (P0 + 6)) dX4_isKnown_18 flX4_91 (pxB (lxP hL0)) (px2 (lxP hL0)) (pxN (lxP hL0)) (Or.inr ⟨_, ct_6_5⟩) (pxR5 (lxP hL0)) ?_
  refine JT_aload_n (q := 2) dX4_isKnown_21 rfl rfl ?_
  refine JS_getR (x := (L0 + 4)) dX4_isKnown_22 flX4_21 (lxB hL0) (lx2 hL0) (lxN hL0) (Or.inr ⟨_, ct_4_3⟩) (lxR3 hL0) ?_
  refine JT_iload_n (q := 3) dX4_isKnown_25 rfl rfl ?_
  obtain ⟨o1, h⟩ := h
  refine JS_iald dX4_isKnown_26 (lxB4 hL0) (lx2k hL0 _) (lxNk hL0 (Nat.le_of_ble_eq_true rfl)) o1 ?_
  obtain ⟨o2, h⟩ := h
  refine JS_iald dX4_isKnown_27 (pxB6 (lxP hL0)) (px2k (lxP hL0) _) (pxNk (lxP hL0) (Nat.le_of_ble_eq_true rfl)) o2 ?_
  refine JT_iconst (v := 4) dX4_isKnown_28 ic_4 ?_
  have hj3 : ∀ v : Int32, v = (if (gI s (P0 + 6) ((gI s (L0 + 4) (a1).toNatClampNeg)).toNatClampNeg) = (4 : Int32) then (if (vX4_isReadable s L0 P0 a1 (0 : Int32)) = 0 then (0 : Int32) else (if (vX4_isReadable s L0 P0 a1 (1 : Int32)) = 0 then (0 : Int32) else (1 : Int32))) else (if (vX4_isReadable s L0 P0 a1 (0 : Int32)) = 0 then (if (vX4_isReadable s L0 P0 a1 (1 : Int32)) = 0 then (0 : Int32) else (1 : Int32)) else (1 : Int32))) → JT MX4_isKnown 3 0 0 61 [(3, .int (vX4_isReadable s L0 P0 a1 (1 : Int32))), (2, .int (vX4_isReadable s L0 P0 a1 (0 : Int32))), (0, .ref L0), (1, .int a1)] [.int v] (std s) (KQ Q) := by
    intro v hv
    subst hv
    exact JS_iret dX4_isKnown_61 rfl (n01 (i01 (i01 (Or.inl rfl) (i01 (Or.inl rfl) (Or.inr rfl))) (i01 (i01 (Or.inl rfl) (Or.inr rfl)) (Or.inr rfl)))) h
  refine JT_icmp_ne (tgt := 48) dX4_isKnown_29 (by decide) (fun hc4 => ?_) (fun hc4 => ?_)
  · refine JT_iload_n (q := 1) dX4_isKnown_48 rfl rfl ?_
    refine JT_if_ne (tgt := 56) dX4_isKnown_49 (by decide) (fun hc5 => ?_) (fun hc5 => ?_)
    · refine JT_iconst (v := 1) dX4_isKnown_56 ic_1 ?_
      refine JT_goto (tgt := 61) dX4_isKnown_57 (by decide) ?_
      exact hj3 _ (by rw [if_neg hc4, if_neg hc5])
    · refine JT_iload_n (q := 0) dX4_isKnown_52 rfl rfl ?_
      refine JT_if_eq (tgt := 60) dX4_isKnown_53 (by decide) (fun hc6 => ?_) (fun hc6 => ?_)
      · refine JT_iconst (v := 0) dX4_isKnown_60 ic_0 ?_
        exact hj3 _ (by rw [if_neg hc4, if_pos hc5, if_pos hc6])
      · refine JT_iconst (v := 1) dX4_isKnown_56 ic_1 ?_
        refine JT_goto (tgt := 61) dX4_isKnown_57 (by decide) ?_
        exact hj3 _ (by rw [if_neg hc4, if_pos hc5, if_neg hc6])
  · refine JT_iload_n (q := 1) dX4_isKnown_32 rfl rfl ?_
    refine JT_if_eq (tgt := 44) dX4_isKnown_33 (by decide) (fun hc7 => ?_) (fun hc7 => ?_)
    · refine JT_iconst (v := 0) dX4_isKnown_44 ic_0 ?_
      refine JT_goto (tgt := 61) dX4_isKnown_45 (by decide) ?_
      exact hj3 _ (by rw [if_pos hc4, if_pos hc7])
    · refine JT_iload_n (q := 0) dX4_isKnown_36 rfl rfl ?_
      refine JT_if_eq (tgt := 44) dX4_isKnown_37 (by decide) (fun hc8 => ?_) (fun hc8 => ?_)
      · refine JT_iconst (v := 0) dX4_isKnown_44 ic_0 ?_
        refine JT_goto (tgt := 61) dX4_isKnown_45 (by decide) ?_
        exact hj3 _ (by rw [if_pos hc4, if_neg hc7, if_pos hc8])
      · refine JT_iconst (v := 1) dX4_isKnown_40 ic_1 ?_
        refine JT_goto (tgt := 61) dX4_isKnown_41 (by decide) ?_
        exact hj3 _ (by rw [if_pos hc4, if_neg hc7, if_neg hc8])
set_option maxRecDepth 20000 in
def vX4_isKnown (s : SM) (L0 P0 : Nat) (a1 : Int32) : Int32 := (if (gI s (P0 + 6) ((gI s (L0 + 4) (a1).toNatClampNeg)).toNatClampNeg) = (4 : Int32) then (if (vX4_isReadable s L0 P0 a1 (0 : Int32)) = 0 then (0 : Int32) else (if (vX4_isReadable s L0 P0 a1 (1 : Int32)) = 0 then (0 : Int32) else (1 : Int32))) else (if (vX4_isReadable s L0 P0 a1 (0 : Int32)) = 0 then (if (vX4_isReadable s L0 P0 a1 (1 : Int32)) = 0 then (0 : Int32) else (1 : Int32)) else (1 : Int32)))
set_option maxRecDepth 20000 in
def rX4_isKnown (s : SM) (L0 P0 : Nat) (a1 : Int32) : Prop := rX4_isReadable s L0 P0 a1 (0 : Int32) ∧ rX4_isReadable s L0 P0 a1 (1 : Int32) ∧ vp_in a1 60 ∧ vp_in (gI s (L0 + 4) (a1).toNatClampNeg) 6
set_option maxRecDepth 20000 in
theorem zX4_isKnown (s : SM) (L0 P0 : Nat) (a1 : Int32) : vX4_isKnown s L0 P0 a1 = 0 ∨ vX4_isKnown s L0 P0 a1 = 1 := (i01 (i01 (Or.inl rfl) (i01 (Or.inl rfl) (Or.inr rfl))) (i01 (i01 (Or.inl rfl) (Or.inr rfl)) (Or.inr rfl)))
set_option maxRecDepth 20000 in
theorem pX4_isKnown {L0 P0 : Nat} (hL0 : (L0, P0) ∈ LX) (a1 : Int32) {s : SM} {Q : Int32 → SM → Prop} (hr : rX4_isKnown s L0 P0 a1) (h : Q (vX4_isKnown s L0 P0 a1) s) : KI MX4_isKnown 3 [.ref L0, .int a1] s Q := by
  refine bX4_isKnown hL0 a1 ?_
  unfold rX4_isKnown at hr
  unfold vX4_isKnown at h
  refine ⟨hr.1, ?_⟩
  replace hr := hr.2
  refine ⟨hr.1, ?_⟩
  replace hr := hr.2
  refine ⟨hr.1, ?_⟩
  replace hr := hr.2
  refine ⟨hr, ?_⟩
  first | exact h | contradiction
set_option maxRecDepth 20000 in
theorem bX4_isKnownBy {L0 P0 : Nat} (hL0 : (L0, P0) ∈ LX) (a1 : Int32) (a2 : Int32) {s : SM} {Q : Int32 → SM → Prop} (h : rX4_isToldBy s L0 P0 a1 (0 : Int32) a2 ∧ rX4_isToldBy s L0 P0 a1 (1 : Int32) a2 ∧ vp_in a1 60 ∧ vp_in (gI s (L0 + 4) (a1).toNatClampNeg) 6 ∧ Q (if (gI s (P0 + 6) ((gI s (L0 + 4) (a1).toNatClampNeg)).toNatClampNeg) = (4 : Int32) then (if (vX4_isToldBy s L0 P0 a1 (0 : Int32) a2) = 0 then (0 : Int32) else (if (vX4_isToldBy s L0 P0 a1 (1 : Int32) a2) = 0 then (0 : Int32) else (1 : Int32))) else (if (vX4_isToldBy s L0 P0 a1 (0 : Int32) a2) = 0 then (if (vX4_isToldBy s L0 P0 a1 (1 : Int32) a2) = 0 then (0 : Int32) else (1 : Int32)) else (1 : Int32))) s) : KI MX4_isKnownBy 3 [.ref L0, .int a1, .int a2] s Q := by
  show BI MX4_isKnownBy 3 0 [(0, .ref L0), (1, .int a1), (2, .int a2)] s Q
  refine JT_aload_n (q := 0) dX4_isKnownBy_0 rfl rfl ?_
  refine JT_iload_n (q := 1) dX4_isKnownBy_1 rfl rfl ?_
  refine JT_iconst (v := 0) dX4_isKnownBy_2 ic_0 ?_
  refine JT_iload_n (q := 2) dX4_isKnownBy_3 rfl rfl ?_
  obtain ⟨o10, h⟩ := h
  refine JS_callVI (M' := MX4_isToldBy) (d' := 2) (As := [.int a1, .int (0 : Int32), .int a2]) (rest := []) (P := (fun zv9 wm9 => (vX4_isToldBy s L0 P0 a1 (0 : Int32) a2) = zv9 ∧ s = wm9)) dX4_isKnownBy_4 cvX4_109 okX4_isToldBy rfl (Nat.le_of_ble_eq_true rfl) (lxB hL0) (lx2 hL0) (lxN hL0) hci_4 (Nat.le_of_ble_eq_true rfl) (Nat.le_of_ble_eq_true rfl) (pX4_isToldBy hL0 (a1) ((0 : Int32)) (a2) o10 ⟨rfl, rfl⟩) (fun zv9 wm9 hq9 => ?_)
  obtain ⟨rfl, rfl⟩ := hq9
  refine JT_istore_n (lv' := [(3, .int (vX4_isToldBy s L0 P0 a1 (0 : Int32) a2)), (0, .ref L0), (1, .int a1), (2, .int a2)]) dX4_isKnownBy_7 rfl (Nat.le_of_ble_eq_true rfl) rfl ?_
  refine JT_aload_n (q := 1) dX4_isKnownBy_8 rfl rfl ?_
  refine JT_iload_n (q := 2) dX4_isKnownBy_9 rfl rfl ?_
  refine JT_iconst (v := 1) dX4_isKnownBy_10 ic_1 ?_
  refine JT_iload_n (q := 3) dX4_isKnownBy_11 rfl rfl ?_
  obtain ⟨o9, h⟩ := h
  refine JS_callVI (M' := MX4_isToldBy) (d' := 2) (As := [.int a1, .int (1 : Int32), .int a2]) (rest := []) (P := (fun zv9 wm9 => (vX4_isToldBy s L0 P0 a1 (1 : Int32) a2) = zv9 ∧ s = wm9)) dX4_isKnownBy_12 cvX4_109 okX4_isToldBy rfl (Nat.le_of_ble_eq_true rfl) (lxB hL0) (lx2 hL0) (lxN hL0) hci_4 (Nat.le_of_ble_eq_true rfl) (Nat.le_of_ble_eq_true rfl) (pX4_isToldBy hL0 (a1) ((1 : Int32)) (a2) o9 ⟨rfl, rfl⟩) (fun zv9 wm9 hq9 => ?_)
  obtain ⟨rfl, rfl⟩ := hq9
  refine JT_istore (lv' := [(4, .int (vX4_isToldBy s L0 P0 a1 (1 : Int32) a2)), (3, .int (vX4_isToldBy s L0 P0 a1 (0 : Int32) a2)), (0, .ref L0), (1, .int a1), (2, .int a2)]) dX4_isKnownBy_15 (Nat.le_of_ble_eq_true rfl) rfl ?_
  refine JT_aload_n (q := 2) dX4_isKnownBy_17 rfl rfl ?_
  refine JS_getR (x := P0) dX4_isKnownBy_18 flX4_45 (lxB hL0) (lx2 hL0) (lxN hL0) (Or.inl ⟨_, ct_4_8⟩) (lxR8 hL0) ?_
  refine JS_getR (x := (P0 + 6)) dX4_isKnownBy_21 flX4_91 (pxB (lxP hL0)) (px2 (lxP hL0)) (pxN (lxP hL0)) (Or.inr ⟨_, ct_6_5⟩) (pxR5 (lxP hL0)) ?_
  refine JT_aload_n (q := 2) dX4_isKnownBy_24 rfl rfl ?_
  refine JS_getR (x := (L0 + 4)) dX4_isKnownBy_25 flX4_21 (lxB hL0) (lx2 hL0) (lxN hL0) (Or.inr ⟨_, ct_4_3⟩) (lxR3 hL0) ?_
  refine JT_iload_n (q := 3) dX4_isKnownBy_28 rfl rfl ?_
  obtain ⟨o1, h⟩ := h
  refine JS_iald dX4_isKnownBy_29 (lxB4 hL0) (lx2k hL0 _) (lxNk hL0 (Nat.le_of_ble_eq_true rfl)) o1 ?_
  obtain ⟨o2, h⟩ := h
  refine JS_iald dX4_isKnownBy_30 (pxB6 (lxP hL0)) (px2k (lxP hL0) _) (pxNk (lxP hL0) (Nat.le_of_ble_eq_true rfl)) o2 ?_
  refine JT_iconst (v := 4) dX4_isKnownBy_31 ic_4 ?_
  have hj3 : ∀ v : Int32, v = (if (gI s (P0 + 6) ((gI s (L0 + 4) (a1).toNatClampNeg)).toNatClampNeg) = (4 : Int32) then (if (vX4_isToldBy s L0 P0 a1 (0 : Int32) a2) = 0 then (0 : Int32) else (if (vX4_isToldBy s L0 P0 a1 (1 : Int32) a2) = 0 then (0 : Int32) else (1 : Int32))) else (if (vX4_isToldBy s L0 P0 a1 (0 : Int32) a2) = 0 then (if (vX4_isToldBy s L0 P0 a1 (1 : Int32) a2) = 0 then (0 : Int32) else (1 : Int32)) else (1 : Int32))) → JT MX4_isKnownBy 3 0 0 66 [(4, .int (vX4_isToldBy s L0 P0 a1 (1 : Int32) a2)), (3, .int (vX4_isToldBy s L0 P0 a1 (0 : Int32) a2)), (0, .ref L0), (1, .int a1), (2, .int a2)] [.int v] (std s) (KQ Q) := by
    intro v hv
    subst hv
    exact JS_iret dX4_isKnownBy_66 rfl (n01 (i01 (i01 (Or.inl rfl) (i01 (Or.inl rfl) (Or.inr rfl))) (i01 (i01 (Or.inl rfl) (Or.inr rfl)) (Or.inr rfl)))) h
  refine JT_icmp_ne (tgt := 52) dX4_isKnownBy_32 (by decide) (fun hc4 => ?_) (fun hc4 => ?_)
  · refine JT_iload_n (q := 1) dX4_isKnownBy_52 rfl rfl ?_
    refine JT_if_ne (tgt := 61) dX4_isKnownBy_53 (by decide) (fun hc5 => ?_) (fun hc5 => ?_)
    · refine JT_iconst (v := 1) dX4_isKnownBy_61 ic_1 ?_
      refine JT_goto (tgt := 66) dX4_isKnownBy_62 (by decide) ?_
      exact hj3 _ (by rw [if_neg hc4, if_neg hc5])
    · refine JT_iload (q := 0) dX4_isKnownBy_56 rfl ?_
      refine JT_if_eq (tgt := 65) dX4_isKnownBy_58 (by decide) (fun hc6 => ?_) (fun hc6 => ?_)
      · refine JT_iconst (v := 0) dX4_isKnownBy_65 ic_0 ?_
        exact hj3 _ (by rw [if_neg hc4, if_pos hc5, if_pos hc6])
      · refine JT_iconst (v := 1) dX4_isKnownBy_61 ic_1 ?_
        refine JT_goto (tgt := 66) dX4_isKnownBy_62 (by decide) ?_
        exact hj3 _ (by rw [if_neg hc4, if_pos hc5, if_neg hc6])
  · refine JT_iload_n (q := 1) dX4_isKnownBy_35 rfl rfl ?_
    refine JT_if_eq (tgt := 48) dX4_isKnownBy_36 (by decide) (fun hc7 => ?_) (fun hc7 => ?_)
    · refine JT_iconst (v := 0) dX4_isKnownBy_48 ic_0 ?_
      refine JT_goto (tgt := 66) dX4_isKnownBy_49 (by decide) ?_
      exact hj3 _ (by rw [if_pos hc4, if_pos hc7])
    · refine JT_iload (q := 0) dX4_isKnownBy_39 rfl ?_
      refine JT_if_eq (tgt := 48) dX4_isKnownBy_41 (by decide) (fun hc8 => ?_) (fun hc8 => ?_)
      · refine JT_iconst (v := 0) dX4_isKnownBy_48 ic_0 ?_
        refine JT_goto (tgt := 66) dX4_isKnownBy_49 (by decide) ?_
        exact hj3 _ (by rw [if_pos hc4, if_neg hc7, if_pos hc8])
      · refine JT_iconst (v := 1) dX4_isKnownBy_44 ic_1 ?_
        refine JT_goto (tgt := 66) dX4_isKnownBy_45 (by decide) ?_
        exact hj3 _ (by rw [if_pos hc4, if_neg hc7, if_neg hc8])
set_option maxRecDepth 20000 in
def vX4_isKnownBy (s : SM) (L0 P0 : Nat) (a1 : Int32) (a2 : Int32) : Int32 := (if (gI s (P0 + 6) ((gI s (L0 + 4) (a1).toNatClampNeg)).toNatClampNeg) = (4 : Int32) then (if (vX4_isToldBy s L0 P0 a1 (0 : Int32) a2) = 0 then (0 : Int32) else (if (vX4_isToldBy s L0 P0 a1 (1 : Int32) a2) = 0 then (0 : Int32) else (1 : Int32))) else (if (vX4_isToldBy s L0 P0 a1 (0 : Int32) a2) = 0 then (if (vX4_isToldBy s L0 P0 a1 (1 : Int32) a2) = 0 then (0 : Int32) else (1 : Int32)) else (1 : Int32)))
set_option maxRecDepth 20000 in
def rX4_isKnownBy (s : SM) (L0 P0 : Nat) (a1 : Int32) (a2 : Int32) : Prop := rX4_isToldBy s L0 P0 a1 (0 : Int32) a2 ∧ rX4_isToldBy s L0 P0 a1 (1 : Int32) a2 ∧ vp_in a1 60 ∧ vp_in (gI s (L0 + 4) (a1).toNatClampNeg) 6
set_option maxRecDepth 20000 in
theorem zX4_isKnownBy (s : SM) (L0 P0 : Nat) (a1 : Int32) (a2 : Int32) : vX4_isKnownBy s L0 P0 a1 a2 = 0 ∨ vX4_isKnownBy s L0 P0 a1 a2 = 1 := (i01 (i01 (Or.inl rfl) (i01 (Or.inl rfl) (Or.inr rfl))) (i01 (i01 (Or.inl rfl) (Or.inr rfl)) (Or.inr rfl)))
set_option maxRecDepth 20000 in
theorem pX4_isKnownBy {L0 P0 : Nat} (hL0 : (L0, P0) ∈ LX) (a1 : Int32) (a2 : Int32) {s : SM} {Q : Int32 → SM → Prop} (hr : rX4_isKnownBy s L0 P0 a1 a2) (h : Q (vX4_isKnownBy s L0 P0 a1 a2) s) : KI MX4_isKnownBy 3 [.ref L0, .int a1, .int a2] s Q := by
  refine bX4_isKnownBy hL0 a1 a2 ?_
  unfold rX4_isKnownBy at hr
  unfold vX4_isKnownBy at h
  refine ⟨hr.1, ?_⟩
  replace hr := hr.2
  refine ⟨hr.1, ?_⟩
  replace hr := hr.2
  refine ⟨hr.1, ?_⟩
  replace hr := hr.2
  refine ⟨hr, ?_⟩
  first | exact h | contradiction
set_option maxRecDepth 20000 in
theorem bX4_lessen {L0 P0 : Nat} (hL0 : (L0, P0) ∈ LX) (a1 : Int32) (a2 : Int32) {s : SM} {Q : SM → Prop} (h : vp_in a1 60 ∧ vp_in a1 60 ∧ vp_in a1 60 ∧ ((¬ (gI (pI s (L0 + 3) (a1).toNatClampNeg ((gI s (L0 + 3) (a1).toNatClampNeg) - a2)) (L0 + 3) (a1).toNatClampNeg) = 0 → Q (pI s (L0 + 3) (a1).toNatClampNeg ((gI s (L0 + 3) (a1).toNatClampNeg) - a2))) ∧ ((gI (pI s (L0 + 3) (a1).toNatClampNeg ((gI s (L0 + 3) (a1).toNatClampNeg) - a2)) (L0 + 3) (a1).toNatClampNeg) = 0 → vp_in a1 60 ∧ (∀ s5, s5 = (pI (pI s (L0 + 3) (a1).toNatClampNeg ((gI s (L0 + 3) (a1).toNatClampNeg) - a2)) (L0 + 6) (a1).toNatClampNeg (2 : Int32)) → vp_in a1 60 ∧ rX4_takeOff s5 L0 P0 a1 (gI s5 (L0 + 9) (a1).toNatClampNeg) ∧ vp_in a1 60 ∧ rX4_takeOff (mX4_takeOff s5 L0 P0 a1 (gI s5 (L0 + 9) (a1).toNatClampNeg)) L0 P0 a1 (gI (mX4_takeOff s5 L0 P0 a1 (gI s5 (L0 + 9) (a1).toNatClampNeg)) (L0 + 10) (a1).toNatClampNeg) ∧ (∀ s8, s8 = (mX4_takeOff (mX4_takeOff s5 L0 P0 a1 (gI s5 (L0 + 9) (a1).toNatClampNeg)) L0 P0 a1 (gI (mX4_takeOff s5 L0 P0 a1 (gI s5 (L0 + 9) (a1).toNatClampNeg)) (L0 + 10) (a1).toNatClampNeg)) → vp_in a1 60 ∧ vp_in a1 60 ∧ Q (pI (pI s8 (L0 + 9) (a1).toNatClampNeg (-1 : Int32)) (L0 + 10) (a1).toNatClampNeg (-1 : Int32))))))) : KV MX4_lessen 3 [.ref L0, .int a1, .int a2] s Q := by
  show BV MX4_lessen 3 0 [(0, .ref L0), (1, .int a1), (2, .int a2)] s Q
  refine JT_aload_n (q := 0) dX4_lessen_0 rfl rfl ?_
  refine JS_getR (x := (L0 + 3)) dX4_lessen_1 flX4_18 (lxB hL0) (lx2 hL0) (lxN hL0) (Or.inr ⟨_, ct_4_2⟩) (lxR2 hL0) ?_
  refine JT_iload_n (q := 1) dX4_lessen_4 rfl rfl ?_
  refine JT_dup2 dX4_lessen_5 rfl rfl ?_
  obtain ⟨o1, h⟩ := h
  refine JS_iald dX4_lessen_6 (lxB3 hL0) (lx2k hL0 _) (lxNk hL0 (Nat.le_of_ble_eq_true rfl)) o1 ?_
  refine JT_iload_n (q := 2) dX4_lessen_7 rfl rfl ?_
  refine JT_isub dX4_lessen_8 ?_
  obtain ⟨o2, h⟩ := h
  refine JS_iast dX4_lessen_9 (lxB3 hL0) (lx2k hL0 _) (lxNk hL0 (Nat.le_of_ble_eq_true rfl)) o2 ?_
  refine JT_aload_n (q := 0) dX4_lessen_10 rfl rfl ?_
  refine JS_getR (x := (L0 + 3)) dX4_lessen_11 flX4_18 (lxB hL0) (lx2 hL0) (lxN hL0) (Or.inr ⟨_, ct_4_2⟩) (lxR2 hL0) ?_
  refine JT_iload_n (q := 1) dX4_lessen_14 rfl rfl ?_
  obtain ⟨o3, h⟩ := h
  refine JS_iald dX4_lessen_15 (lxB3 hL0) (lx2k hL0 _) (lxNk hL0 (Nat.le_of_ble_eq_true rfl)) o3 ?_
  refine JT_if_ne (tgt := 62) dX4_lessen_16 (by decide) (fun hc13 => ?_) (fun hc13 => ?_)
  · have h := h.1 hc13
    exact JS_vret dX4_lessen_62 rfl h
  · have h := h.2 hc13
    refine JT_aload_n (q := 0) dX4_lessen_19 rfl rfl ?_
    refine JS_getR (x := (L0 + 6)) dX4_lessen_20 flX4_27 (lxB hL0) (lx2 hL0) (lxN hL0) (Or.inr ⟨_, ct_4_5⟩) (lxR5 hL0) ?_
    refine JT_iload_n (q := 1) dX4_lessen_23 rfl rfl ?_
    refine JT_iconst (v := 2) dX4_lessen_24 ic_2 ?_
    obtain ⟨o4, h⟩ := h
    refine JS_iast dX4_lessen_25 (lxB6 hL0) (lx2k hL0 _) (lxNk hL0 (Nat.le_of_ble_eq_true rfl)) o4 ?_
    obtain ⟨s5, hs5⟩ : ∃ z, z = (pI (pI s (L0 + 3) (a1).toNatClampNeg ((gI s (L0 + 3) (a1).toNatClampNeg) - a2)) (L0 + 6) (a1).toNatClampNeg (2 : Int32)) := ⟨_, rfl⟩
    replace h := h s5 hs5
    rw [← hs5]
    refine JT_aload_n (q := 0) dX4_lessen_26 rfl rfl ?_
    refine JT_iload_n (q := 1) dX4_lessen_27 rfl rfl ?_
    refine JT_aload_n (q := 0) dX4_lessen_28 rfl rfl ?_
    refine JS_getR (x := (L0 + 9)) dX4_lessen_29 flX4_36 (lxB hL0) (lx2 hL0) (lxN hL0) (Or.inr ⟨_, ct_4_11⟩) (lxR11 hL0) ?_
    refine JT_iload_n (q := 1) dX4_lessen_32 rfl rfl ?_
    obtain ⟨o6, h⟩ := h
    refine JS_iald dX4_lessen_33 (lxB9 hL0) (lx2k hL0 _) (lxNk hL0 (Nat.le_of_ble_eq_true rfl)) o6 ?_
    obtain ⟨o12, h⟩ := h
    refine JS_callVV (M' := MX4_takeOff) (d' := 2) (As := [.int a1, .int (gI s5 (L0 + 9) (a1).toNatClampNeg)]) (rest := []) (P := (fun wm9 => (mX4_takeOff s5 L0 P0 a1 (gI s5 (L0 + 9) (a1).toNatClampNeg)) = wm9)) dX4_lessen_34 cvX4_172 okX4_takeOff rfl (Nat.le_of_ble_eq_true rfl) (lxB hL0) (lx2 hL0) (lxN hL0) hci_4 (Nat.le_of_ble_eq_true rfl) (Nat.le_of_ble_eq_true rfl) (pX4_takeOff hL0 (a1) ((gI s5 (L0 + 9) (a1).toNatClampNeg)) o12 rfl) (fun wm9 hq9 => ?_)
    subst hq9
    refine JT_aload_n (q := 0) dX4_lessen_37 rfl rfl ?_
    refine JT_iload_n (q := 1) dX4_lessen_38 rfl rfl ?_
    refine JT_aload_n (q := 0) dX4_lessen_39 rfl rfl ?_
    refine JS_getR (x := (L0 + 10)) dX4_lessen_40 flX4_39 (lxB hL0) (lx2 hL0) (lxN hL0) (Or.inr ⟨_, ct_4_12⟩) (lxR12 hL0) ?_
    refine JT_iload_n (q := 1) dX4_lessen_43 rfl rfl ?_
    obtain ⟨o7, h⟩ := h
    refine JS_iald dX4_lessen_44 (lxB10 hL0) (lx2k hL0 _) (lxNk hL0 (Nat.le_of_ble_eq_true rfl)) o7 ?_
    obtain ⟨o11, h⟩ := h
    refine JS_callVV (M' := MX4_takeOff) (d' := 2) (As := [.int a1, .int (gI (mX4_takeOff s5 L0 P0 a1 (gI s5 (L0 + 9) (a1).toNatClampNeg)) (L0 + 10) (a1).toNatClampNeg)]) (rest := []) (P := (fun wm9 => (mX4_takeOff (mX4_takeOff s5 L0 P0 a1 (gI s5 (L0 + 9) (a1).toNatClampNeg)) L0 P0 a1 (gI (mX4_takeOff s5 L0 P0 a1 (gI s5 (L0 + 9) (a1).toNatClampNeg)) (L0 + 10) (a1).toNatClampNeg)) = wm9)) dX4_lessen_45 cvX4_172 okX4_takeOff rfl (Nat.le_of_ble_eq_true rfl) (lxB hL0) (lx2 hL0) (lxN hL0) hci_4 (Nat.le_of_ble_eq_true rfl) (Nat.le_of_ble_eq_true rfl) (pX4_takeOff hL0 (a1) ((gI (mX4_takeOff s5 L0 P0 a1 (gI s5 (L0 + 9) (a1).toNatClampNeg)) (L0 + 10) (a1).toNatClampNeg)) o11 rfl) (fun wm9 hq9 => ?_)
    subst hq9
    obtain ⟨s8, hs8⟩ : ∃ z, z = (mX4_takeOff (mX4_takeOff s5 L0 P0 a1 (gI s5 (L0 + 9) (a1).toNatClampNeg)) L0 P0 a1 (gI (mX4_takeOff s5 L0 P0 a1 (gI s5 (L0 + 9) (a1).toNatClampNeg)) (L0 + 10) (a1).toNatClampNeg)) := ⟨_, rfl⟩
    replace h := h s8 hs8
    rw [← hs8]
    refine JT_aload_n (q := 0) dX4_lessen_48 rfl rfl ?_
    refine JS_getR (x := (L0 + 9)) dX4_lessen_49 flX4_36 (lxB hL0) (lx2 hL0) (lxN hL0) (Or.inr ⟨_, ct_4_11⟩) (lxR11 hL0) ?_
    refine JT_iload_n (q := 1) dX4_lessen_52 rfl rfl ?_
    refine JT_iconst (v := -1) dX4_lessen_53 ic_m1 ?_
    obtain ⟨o9, h⟩ := h
    refine JS_iast dX4_lessen_54 (lxB9 hL0) (lx2k hL0 _) (lxNk hL0 (Nat.le_of_ble_eq_true rfl)) o9 ?_
    refine JT_aload_n (q := 0) dX4_lessen_55 rfl rfl ?_
    refine JS_getR (x := (L0 + 10)) dX4_lessen_56 flX4_39 (lxB hL0) (lx2 hL0) (lxN hL0) (Or.inr ⟨_, ct_4_12⟩) (lxR12 hL0) ?_
    refine JT_iload_n (q := 1) dX4_lessen_59 rfl rfl ?_
    refine JT_iconst (v := -1) dX4_lessen_60 ic_m1 ?_
    obtain ⟨o10, h⟩ := h
    refine JS_iast dX4_lessen_61 (lxB10 hL0) (lx2k hL0 _) (lxNk hL0 (Nat.le_of_ble_eq_true rfl)) o10 ?_
    exact JS_vret dX4_lessen_62 rfl h
set_option maxRecDepth 20000 in
def mX4_lessen (s : SM) (L0 P0 : Nat) (a1 : Int32) (a2 : Int32) : SM := (if (gI (pI s (L0 + 3) (a1).toNatClampNeg ((gI s (L0 + 3) (a1).toNatClampNeg) - a2)) (L0 + 3) (a1).toNatClampNeg) = 0 then ((fun (s5 : SM) => ((fun (s8 : SM) => (pI (pI s8 (L0 + 9) (a1).toNatClampNeg (-1 : Int32)) (L0 + 10) (a1).toNatClampNeg (-1 : Int32))) (mX4_takeOff (mX4_takeOff s5 L0 P0 a1 (gI s5 (L0 + 9) (a1).toNatClampNeg)) L0 P0 a1 (gI (mX4_takeOff s5 L0 P0 a1 (gI s5 (L0 + 9) (a1).toNatClampNeg)) (L0 + 10) (a1).toNatClampNeg)))) (pI (pI s (L0 + 3) (a1).toNatClampNeg ((gI s (L0 + 3) (a1).toNatClampNeg) - a2)) (L0 + 6) (a1).toNatClampNeg (2 : Int32))) else (pI s (L0 + 3) (a1).toNatClampNeg ((gI s (L0 + 3) (a1).toNatClampNeg) - a2)))
set_option maxRecDepth 20000 in
def rX4_lessen (s : SM) (L0 P0 : Nat) (a1 : Int32) (a2 : Int32) : Prop := vp_in a1 60 ∧ vp_in a1 60 ∧ vp_in a1 60 ∧ ((gI (pI s (L0 + 3) (a1).toNatClampNeg ((gI s (L0 + 3) (a1).toNatClampNeg) - a2)) (L0 + 3) (a1).toNatClampNeg) = 0 → vp_in a1 60 ∧ (∀ s5, s5 = (pI (pI s (L0 + 3) (a1).toNatClampNeg ((gI s (L0 + 3) (a1).toNatClampNeg) - a2)) (L0 + 6) (a1).toNatClampNeg (2 : Int32)) → vp_in a1 60 ∧ rX4_takeOff s5 L0 P0 a1 (gI s5 (L0 + 9) (a1).toNatClampNeg) ∧ vp_in a1 60 ∧ rX4_takeOff (mX4_takeOff s5 L0 P0 a1 (gI s5 (L0 + 9) (a1).toNatClampNeg)) L0 P0 a1 (gI (mX4_takeOff s5 L0 P0 a1 (gI s5 (L0 + 9) (a1).toNatClampNeg)) (L0 + 10) (a1).toNatClampNeg) ∧ (∀ s8, s8 = (mX4_takeOff (mX4_takeOff s5 L0 P0 a1 (gI s5 (L0 + 9) (a1).toNatClampNeg)) L0 P0 a1 (gI (mX4_takeOff s5 L0 P0 a1 (gI s5 (L0 + 9) (a1).toNatClampNeg)) (L0 + 10) (a1).toNatClampNeg)) → vp_in a1 60 ∧ vp_in a1 60)))
set_option maxRecDepth 20000 in
theorem pX4_lessen {L0 P0 : Nat} (hL0 : (L0, P0) ∈ LX) (a1 : Int32) (a2 : Int32) {s : SM} {Q : SM → Prop} (hr : rX4_lessen s L0 P0 a1 a2) (h : Q (mX4_lessen s L0 P0 a1 a2)) : KV MX4_lessen 3 [.ref L0, .int a1, .int a2] s Q := by
  refine bX4_lessen hL0 a1 a2 ?_
  unfold rX4_lessen at hr
  unfold mX4_lessen at h
  refine ⟨hr.1, ?_⟩
  replace hr := hr.2
  refine ⟨hr.1, ?_⟩
  replace hr := hr.2
  refine ⟨hr.1, ?_⟩
  replace hr := hr.2
  refine ⟨fun c => ?_, fun c => ?_⟩
  · try simp only [if_neg c] at h
    first | exact h | contradiction
  · replace hr := hr c
    try simp only [if_pos c] at h
    refine ⟨hr.1, ?_⟩
    replace hr := hr.2
    intro s5 e9
    replace hr := hr s5 e9
    subst e9
    refine ⟨hr.1, ?_⟩
    replace hr := hr.2
    refine ⟨hr.1, ?_⟩
    replace hr := hr.2
    refine ⟨hr.1, ?_⟩
    replace hr := hr.2
    refine ⟨hr.1, ?_⟩
    replace hr := hr.2
    intro s8 e9
    replace hr := hr s8 e9
    subst e9
    refine ⟨hr.1, ?_⟩
    replace hr := hr.2
    refine ⟨hr, ?_⟩
    first | exact h | contradiction
set_option maxRecDepth 20000 in
theorem bX4_tryScar {L0 P0 : Nat} (hL0 : (L0, P0) ∈ LX) (a1 : Int32) (a2 : Int32) {s : SM} {Q : Int32 → SM → Prop} (h : rX4_isOpen s L0 P0 a1 ∧ ((¬ (vX4_isOpen s L0 P0 a1) = 0 → rX4_isReadable s L0 P0 a1 a2 ∧ ((¬ (vX4_isReadable s L0 P0 a1 a2) = 0 → vp_in a1 60 ∧ vp_in a1 60 ∧ Q (0 : Int32) (pI s (L0 + 11) (a1).toNatClampNeg ((gI s (L0 + 11) (a1).toNatClampNeg) ||| ((1 : Int32) <<< (a2 &&& 31))))) ∧ ((vX4_isReadable s L0 P0 a1 a2) = 0 → Q (6 : Int32) s))) ∧ ((vX4_isOpen s L0 P0 a1) = 0 → Q (4 : Int32) s))) : KI MX4_tryScar 3 [.ref L0, .int a1, .int a2] s Q := by
  show BI MX4_tryScar 3 0 [(0, .ref L0), (1, .int a1), (2, .int a2)] s Q
  refine JT_aload_n (q := 0) dX4_tryScar_0 rfl rfl ?_
  refine JT_iload_n (q := 1) dX4_tryScar_1 rfl rfl ?_
  obtain ⟨o6, h⟩ := h
  refine JS_callVI (M' := MX4_isOpen) (d' := 1) (As := [.int a1]) (rest := []) (P := (fun zv9 wm9 => (vX4_isOpen s L0 P0 a1) = zv9 ∧ s = wm9)) dX4_tryScar_2 cvX4_94 okX4_isOpen rfl (Nat.le_of_ble_eq_true rfl) (lxB hL0) (lx2 hL0) (lxN hL0) hci_4 (Nat.le_of_ble_eq_true rfl) (Nat.le_of_ble_eq_true rfl) (pX4_isOpen hL0 (a1) o6 ⟨rfl, rfl⟩) (fun zv9 wm9 hq9 => ?_)
  obtain ⟨rfl, rfl⟩ := hq9
  refine JT_if_ne (tgt := 10) dX4_tryScar_5 (by decide) (fun hc5 => ?_) (fun hc5 => ?_)
  · have h := h.1 hc5
    refine JT_aload_n (q := 0) dX4_tryScar_10 rfl rfl ?_
    refine JT_iload_n (q := 1) dX4_tryScar_11 rfl rfl ?_
    refine JT_iload_n (q := 2) dX4_tryScar_12 rfl rfl ?_
    obtain ⟨o4, h⟩ := h
    refine JS_callVI (M' := MX4_isReadable) (d' := 2) (As := [.int a1, .int a2]) (rest := []) (P := (fun zv9 wm9 => (vX4_isReadable s L0 P0 a1 a2) = zv9 ∧ s = wm9)) dX4_tryScar_13 cvX4_88 okX4_isReadable rfl (Nat.le_of_ble_eq_true rfl) (lxB hL0) (lx2 hL0) (lxN hL0) hci_4 (Nat.le_of_ble_eq_true rfl) (Nat.le_of_ble_eq_true rfl) (pX4_isReadable hL0 (a1) (a2) o4 ⟨rfl, rfl⟩) (fun zv9 wm9 hq9 => ?_)
    obtain ⟨rfl, rfl⟩ := hq9
    refine JT_if_ne (tgt := 22) dX4_tryScar_16 (by decide) (fun hc3 => ?_) (fun hc3 => ?_)
    · have h := h.1 hc3
      refine JT_aload_n (q := 0) dX4_tryScar_22 rfl rfl ?_
      refine JS_getR (x := (L0 + 11)) dX4_tryScar_23 flX4_42 (lxB hL0) (lx2 hL0) (lxN hL0) (Or.inr ⟨_, ct_4_13⟩) (lxR13 hL0) ?_
      refine JT_iload_n (q := 1) dX4_tryScar_26 rfl rfl ?_
      refine JT_dup2 dX4_tryScar_27 rfl rfl ?_
      obtain ⟨o1, h⟩ := h
      refine JS_iald dX4_tryScar_28 (lxB11 hL0) (lx2k hL0 _) (lxNk hL0 (Nat.le_of_ble_eq_true rfl)) o1 ?_
      refine JT_iconst (v := 1) dX4_tryScar_29 ic_1 ?_
      refine JT_iload_n (q := 2) dX4_tryScar_30 rfl rfl ?_
      refine JT_ishl dX4_tryScar_31 ?_
      refine JT_ior dX4_tryScar_32 ?_
      obtain ⟨o2, h⟩ := h
      refine JS_iast dX4_tryScar_33 (lxB11 hL0) (lx2k hL0 _) (lxNk hL0 (Nat.le_of_ble_eq_true rfl)) o2 ?_
      refine JT_iconst (v := 0) dX4_tryScar_34 ic_0 ?_
      exact JS_iret dX4_tryScar_35 rfl rfl h
    · have h := h.2 hc3
      refine JT_bipush (v := 6) dX4_tryScar_19 bp_6 ?_
      exact JS_iret dX4_tryScar_21 rfl rfl h
  · have h := h.2 hc5
    refine JT_iconst (v := 4) dX4_tryScar_8 ic_4 ?_
    exact JS_iret dX4_tryScar_9 rfl rfl h
set_option maxRecDepth 20000 in
def vX4_tryScar (s : SM) (L0 P0 : Nat) (a1 : Int32) (a2 : Int32) : Int32 := (if (vX4_isOpen s L0 P0 a1) = 0 then (4 : Int32) else (if (vX4_isReadable s L0 P0 a1 a2) = 0 then (6 : Int32) else (0 : Int32)))
set_option maxRecDepth 20000 in
def mX4_tryScar (s : SM) (L0 P0 : Nat) (a1 : Int32) (a2 : Int32) : SM := (if (vX4_isOpen s L0 P0 a1) = 0 then s else (if (vX4_isReadable s L0 P0 a1 a2) = 0 then s else (pI s (L0 + 11) (a1).toNatClampNeg ((gI s (L0 + 11) (a1).toNatClampNeg) ||| ((1 : Int32) <<< (a2 &&& 31))))))
set_option maxRecDepth 20000 in
def rX4_tryScar (s : SM) (L0 P0 : Nat) (a1 : Int32) (a2 : Int32) : Prop := rX4_isOpen s L0 P0 a1 ∧ (¬ (vX4_isOpen s L0 P0 a1) = 0 → rX4_isReadable s L0 P0 a1 a2 ∧ (¬ (vX4_isReadable s L0 P0 a1 a2) = 0 → vp_in a1 60 ∧ vp_in a1 60))
set_option maxRecDepth 20000 in
theorem pX4_tryScar {L0 P0 : Nat} (hL0 : (L0, P0) ∈ LX) (a1 : Int32) (a2 : Int32) {s : SM} {Q : Int32 → SM → Prop} (hr : rX4_tryScar s L0 P0 a1 a2) (h : Q (vX4_tryScar s L0 P0 a1 a2) (mX4_tryScar s L0 P0 a1 a2)) : KI MX4_tryScar 3 [.ref L0, .int a1, .int a2] s Q := by
  refine bX4_tryScar hL0 a1 a2 ?_
  unfold rX4_tryScar at hr
  unfold vX4_tryScar mX4_tryScar at h
  refine ⟨hr.1, ?_⟩
  replace hr := hr.2
  refine ⟨fun c => ?_, fun c => ?_⟩
  · replace hr := hr c
    try simp only [if_neg c] at h
    refine ⟨hr.1, ?_⟩
    replace hr := hr.2
    refine ⟨fun c => ?_, fun c => ?_⟩
    · replace hr := hr c
      try simp only [if_neg c] at h
      refine ⟨hr.1, ?_⟩
      replace hr := hr.2
      refine ⟨hr, ?_⟩
      first | exact h | contradiction
    · try simp only [if_pos c] at h
      first | exact h | contradiction
  · try simp only [if_pos c] at h
    first | exact h | contradiction
set_option maxRecDepth 20000 in
theorem bX4_tryStrike_40 {L0 P0 : Nat} (hL0 : (L0, P0) ∈ LX) (a1 : Int32) (a2 : Int32) {s : SM} {Q : Int32 → SM → Prop} (h : (((1 : Int32) < a2 → Q (0 : Int32) s) ∧ (¬ (1 : Int32) < a2 → rX4_bearer s L0 P0 a1 a2 ∧ ((¬ (vX4_isBuried s L0 P0 (vX4_bearer s L0 P0 a1 a2)) = 0 → BI MX4_tryStrike 3 40 [(0, .ref L0), (1, .int a1), (2, .int (a2 + 1))] s Q) ∧ ((vX4_isBuried s L0 P0 (vX4_bearer s L0 P0 a1 a2)) = 0 → rX4_bearer s L0 P0 a1 a2 ∧ rX4_scratch s L0 P0 (vX4_bearer s L0 P0 a1 a2) (gI s P0 8) ∧ BI MX4_tryStrike 3 40 [(0, .ref L0), (1, .int a1), (2, .int (a2 + 1))] (mX4_scratch s L0 P0 (vX4_bearer s L0 P0 a1 a2) (gI s P0 8)) Q))))) : BI MX4_tryStrike 3 40 [(0, .ref L0), (1, .int a1), (2, .int a2)] s Q := by
  refine JT_iload_n (q := 2) dX4_tryStrike_40 rfl rfl ?_
  refine JT_iconst (v := 1) dX4_tryStrike_41 ic_1 ?_
  refine JT_icmp_gt (tgt := 81) dX4_tryStrike_42 (by decide) (fun hc6 => ?_) (fun hc6 => ?_)
  · have h := h.1 hc6
    refine JT_iconst (v := 0) dX4_tryStrike_81 ic_0 ?_
    exact JS_iret dX4_tryStrike_82 rfl rfl h
  · have h := h.2 hc6
    refine JT_aload_n (q := 0) dX4_tryStrike_45 rfl rfl ?_
    refine JT_aload_n (q := 0) dX4_tryStrike_46 rfl rfl ?_
    refine JT_iload_n (q := 1) dX4_tryStrike_47 rfl rfl ?_
    refine JT_iload_n (q := 2) dX4_tryStrike_48 rfl rfl ?_
    obtain ⟨o5, h⟩ := h
    refine JS_callVI (M' := MX4_bearer) (d' := 0) (As := [.int a1, .int a2]) (rest := [.ref L0]) (P := (fun zv9 wm9 => (vX4_bearer s L0 P0 a1 a2) = zv9 ∧ s = wm9)) dX4_tryStrike_49 cvX4_78 okX4_bearer rfl (Nat.le_of_ble_eq_true rfl) (lxB hL0) (lx2 hL0) (lxN hL0) hci_4 (Nat.le_of_ble_eq_true rfl) (Nat.le_of_ble_eq_true rfl) (pX4_bearer hL0 (a1) (a2) o5 ⟨rfl, rfl⟩) (fun zv9 wm9 hq9 => ?_)
    obtain ⟨rfl, rfl⟩ := hq9
    refine JS_callVI (M' := MX4_isBuried) (d' := 1) (As := [.int (vX4_bearer s L0 P0 a1 a2)]) (rest := []) (P := (fun zv9 wm9 => (vX4_isBuried s L0 P0 (vX4_bearer s L0 P0 a1 a2)) = zv9 ∧ s = wm9)) dX4_tryStrike_52 cvX4_141 okX4_isBuried rfl (Nat.le_of_ble_eq_true rfl) (lxB hL0) (lx2 hL0) (lxN hL0) hci_4 (Nat.le_of_ble_eq_true rfl) (Nat.le_of_ble_eq_true rfl) (pX4_isBuried hL0 ((vX4_bearer s L0 P0 a1 a2))  ⟨rfl, rfl⟩) (fun zv9 wm9 hq9 => ?_)
    obtain ⟨rfl, rfl⟩ := hq9
    refine JT_if_ne (tgt := 75) dX4_tryStrike_55 (by decide) (fun hc3 => ?_) (fun hc3 => ?_)
    · have h := h.1 hc3
      refine JT_iinc (q := 2) (v := (a2 + 1)) (lv' := [(2, .int (a2 + 1)), (0, .ref L0), (1, .int a1)]) dX4_tryStrike_75 rfl (by rfl) (Nat.le_of_ble_eq_true rfl) rfl ?_
      refine JT_goto (tgt := 40) dX4_tryStrike_78 (by decide) ?_
      exact JT_sub [1, 2, 0] rfl h
    · have h := h.2 hc3
      refine JT_aload_n (q := 0) dX4_tryStrike_58 rfl rfl ?_
      refine JT_aload_n (q := 0) dX4_tryStrike_59 rfl rfl ?_
      refine JT_iload_n (q := 1) dX4_tryStrike_60 rfl rfl ?_
      refine JT_iload_n (q := 2) dX4_tryStrike_61 rfl rfl ?_
      obtain ⟨o2, h⟩ := h
      refine JS_callVI (M' := MX4_bearer) (d' := 0) (As := [.int a1, .int a2]) (rest := [.ref L0]) (P := (fun zv9 wm9 => (vX4_bearer s L0 P0 a1 a2) = zv9 ∧ s = wm9)) dX4_tryStrike_62 cvX4_78 okX4_bearer rfl (Nat.le_of_ble_eq_true rfl) (lxB hL0) (lx2 hL0) (lxN hL0) hci_4 (Nat.le_of_ble_eq_true rfl) (Nat.le_of_ble_eq_true rfl) (pX4_bearer hL0 (a1) (a2) o2 ⟨rfl, rfl⟩) (fun zv9 wm9 hq9 => ?_)
      obtain ⟨rfl, rfl⟩ := hq9
      refine JT_aload_n (q := 0) dX4_tryStrike_65 rfl rfl ?_
      refine JS_getR (x := P0) dX4_tryStrike_66 flX4_45 (lxB hL0) (lx2 hL0) (lxN hL0) (Or.inl ⟨_, ct_4_8⟩) (lxR8 hL0) ?_
      refine JS_getI dX4_tryStrike_69 flX4_138 (pxB (lxP hL0)) (px2 (lxP hL0)) (pxN (lxP hL0)) (Or.inl ct_6_8) ?_
      obtain ⟨o1, h⟩ := h
      refine JS_callVV (M' := MX4_scratch) (d' := 0) (As := [.int (vX4_bearer s L0 P0 a1 a2), .int (gI s P0 8)]) (rest := []) (P := (fun wm9 => (mX4_scratch s L0 P0 (vX4_bearer s L0 P0 a1 a2) (gI s P0 8)) = wm9)) dX4_tryStrike_72 cvX4_147 okX4_scratch rfl (Nat.le_of_ble_eq_true rfl) (lxB hL0) (lx2 hL0) (lxN hL0) hci_4 (Nat.le_of_ble_eq_true rfl) (Nat.le_of_ble_eq_true rfl) (pX4_scratch hL0 ((vX4_bearer s L0 P0 a1 a2)) ((gI s P0 8)) o1 rfl) (fun wm9 hq9 => ?_)
      subst hq9
      refine JT_iinc (q := 2) (v := (a2 + 1)) (lv' := [(2, .int (a2 + 1)), (0, .ref L0), (1, .int a1)]) dX4_tryStrike_75 rfl (by rfl) (Nat.le_of_ble_eq_true rfl) rfl ?_
      refine JT_goto (tgt := 40) dX4_tryStrike_78 (by decide) ?_
      exact JT_sub [1, 2, 0] rfl h
set_option maxRecDepth 20000 in
theorem bX4_tryStrike {L0 P0 : Nat} (hL0 : (L0, P0) ∈ LX) (a1 : Int32) {s : SM} {Q : Int32 → SM → Prop} (h : rX4_isOpen s L0 P0 a1 ∧ ((¬ (vX4_isOpen s L0 P0 a1) = 0 → vp_in a1 60 ∧ vp_in a1 60 ∧ KI MX4_hasRoomForLines 2 [.ref L0, .int (gI s (L0 + 9) (a1).toNatClampNeg), .int (gI s (L0 + 10) (a1).toNatClampNeg)] s (fun x4 s3 => ((¬ x4 = 0 → vp_in a1 60 ∧ BI MX4_tryStrike 3 40 [(0, .ref L0), (1, .int a1), (2, .int (0 : Int32))] (pI s3 (L0 + 6) (a1).toNatClampNeg (1 : Int32)) Q) ∧ (x4 = 0 → Q (5 : Int32) s3)))) ∧ ((vX4_isOpen s L0 P0 a1) = 0 → Q (4 : Int32) s))) : KI MX4_tryStrike 3 [.ref L0, .int a1] s Q := by
  show BI MX4_tryStrike 3 0 [(0, .ref L0), (1, .int a1)] s Q
  refine JT_aload_n (q := 0) dX4_tryStrike_0 rfl rfl ?_
  refine JT_iload_n (q := 1) dX4_tryStrike_1 rfl rfl ?_
  obtain ⟨o8, h⟩ := h
  refine JS_callVI (M' := MX4_isOpen) (d' := 1) (As := [.int a1]) (rest := []) (P := (fun zv9 wm9 => (vX4_isOpen s L0 P0 a1) = zv9 ∧ s = wm9)) dX4_tryStrike_2 cvX4_94 okX4_isOpen rfl (Nat.le_of_ble_eq_true rfl) (lxB hL0) (lx2 hL0) (lxN hL0) hci_4 (Nat.le_of_ble_eq_true rfl) (Nat.le_of_ble_eq_true rfl) (pX4_isOpen hL0 (a1) o8 ⟨rfl, rfl⟩) (fun zv9 wm9 hq9 => ?_)
  obtain ⟨rfl, rfl⟩ := hq9
  refine JT_if_ne (tgt := 10) dX4_tryStrike_5 (by decide) (fun hc7 => ?_) (fun hc7 => ?_)
  · have h := h.1 hc7
    refine JT_aload_n (q := 0) dX4_tryStrike_10 rfl rfl ?_
    refine JT_aload_n (q := 0) dX4_tryStrike_11 rfl rfl ?_
    refine JS_getR (x := (L0 + 9)) dX4_tryStrike_12 flX4_36 (lxB hL0) (lx2 hL0) (lxN hL0) (Or.inr ⟨_, ct_4_11⟩) (lxR11 hL0) ?_
    refine JT_iload_n (q := 1) dX4_tryStrike_15 rfl rfl ?_
    obtain ⟨o1, h⟩ := h
    refine JS_iald dX4_tryStrike_16 (lxB9 hL0) (lx2k hL0 _) (lxNk hL0 (Nat.le_of_ble_eq_true rfl)) o1 ?_
    refine JT_aload_n (q := 0) dX4_tryStrike_17 rfl rfl ?_
    refine JS_getR (x := (L0 + 10)) dX4_tryStrike_18 flX4_39 (lxB hL0) (lx2 hL0) (lxN hL0) (Or.inr ⟨_, ct_4_12⟩) (lxR12 hL0) ?_
    refine JT_iload_n (q := 1) dX4_tryStrike_21 rfl rfl ?_
    obtain ⟨o2, h⟩ := h
    refine JS_iald dX4_tryStrike_22 (lxB10 hL0) (lx2k hL0 _) (lxNk hL0 (Nat.le_of_ble_eq_true rfl)) o2 ?_
    refine JS_callVI (M' := MX4_hasRoomForLines) (d' := 2) (As := [.int (gI s (L0 + 9) (a1).toNatClampNeg), .int (gI s (L0 + 10) (a1).toNatClampNeg)]) (rest := []) dX4_tryStrike_23 cvX4_144 okX4_hasRoomForLines rfl (Nat.le_of_ble_eq_true rfl) (lxB hL0) (lx2 hL0) (lxN hL0) hci_4 (Nat.le_of_ble_eq_true rfl) (Nat.le_of_ble_eq_true rfl) h (fun x4 s3 h => ?_)
    refine JT_if_ne (tgt := 31) dX4_tryStrike_26 (by decide) (fun hc6 => ?_) (fun hc6 => ?_)
    · have h := h.1 hc6
      refine JT_aload_n (q := 0) dX4_tryStrike_31 rfl rfl ?_
      refine JS_getR (x := (L0 + 6)) dX4_tryStrike_32 flX4_27 (lxB hL0) (lx2 hL0) (lxN hL0) (Or.inr ⟨_, ct_4_5⟩) (lxR5 hL0) ?_
      refine JT_iload_n (q := 1) dX4_tryStrike_35 rfl rfl ?_
      refine JT_iconst (v := 1) dX4_tryStrike_36 ic_1 ?_
      obtain ⟨o5, h⟩ := h
      refine JS_iast dX4_tryStrike_37 (lxB6 hL0) (lx2k hL0 _) (lxNk hL0 (Nat.le_of_ble_eq_true rfl)) o5 ?_
      refine JT_iconst (v := 0) dX4_tryStrike_38 ic_0 ?_
      refine JT_istore_n (lv' := [(2, .int (0 : Int32)), (0, .ref L0), (1, .int a1)]) dX4_tryStrike_39 rfl (Nat.le_of_ble_eq_true rfl) rfl ?_
      exact JT_sub [1, 2, 0] rfl h
    · have h := h.2 hc6
      refine JT_iconst (v := 5) dX4_tryStrike_29 ic_5 ?_
      exact JS_iret dX4_tryStrike_30 rfl rfl h
  · have h := h.2 hc7
    refine JT_iconst (v := 4) dX4_tryStrike_8 ic_4 ?_
    exact JS_iret dX4_tryStrike_9 rfl rfl h
set_option maxRecDepth 20000 in
theorem bX4_wrongToWrite {L0 P0 : Nat} (hL0 : (L0, P0) ∈ LX) (a1 : Int32) (a2 : Int32) (a3 : Int32) {s : SM} {Q : Int32 → SM → Prop} (h : ((a1 = a2 → Q (1 : Int32) s) ∧ (¬ a1 = a2 → (((vX4_lives s L0 P0 a1) = 0 → Q (1 : Int32) s) ∧ (¬ (vX4_lives s L0 P0 a1) = 0 → ((¬ (vX4_lives s L0 P0 a2) = 0 → vp_in a3 6 ∧ rX4_bearerFor s L0 P0 a1 (gI s (P0 + 5) (a3).toNatClampNeg) ∧ ((¬ (vX4_bearerFor s L0 P0 a1 (gI s (P0 + 5) (a3).toNatClampNeg)) = (-1 : Int32) → vp_in a3 6 ∧ rX4_debtBearerFor s L0 P0 a2 (gI s (P0 + 5) (a3).toNatClampNeg) (vX4_bearerFor s L0 P0 a1 (gI s (P0 + 5) (a3).toNatClampNeg)) ∧ (∀ s3, s3 = (mX4_debtBearerFor s L0 P0 a2 (gI s (P0 + 5) (a3).toNatClampNeg) (vX4_bearerFor s L0 P0 a1 (gI s (P0 + 5) (a3).toNatClampNeg))) → ((¬ (vX4_debtBearerFor s L0 P0 a2 (gI s (P0 + 5) (a3).toNatClampNeg) (vX4_bearerFor s L0 P0 a1 (gI s (P0 + 5) (a3).toNatClampNeg))) = (-1 : Int32) → Q (if (gI s3 L0 9) < (60 : Int32) then (0 : Int32) else (7 : Int32)) s3) ∧ ((vX4_debtBearerFor s L0 P0 a2 (gI s (P0 + 5) (a3).toNatClampNeg) (vX4_bearerFor s L0 P0 a1 (gI s (P0 + 5) (a3).toNatClampNeg))) = (-1 : Int32) → Q (3 : Int32) s3)))) ∧ ((vX4_bearerFor s L0 P0 a1 (gI s (P0 + 5) (a3).toNatClampNeg)) = (-1 : Int32) → Q (2 : Int32) s))) ∧ ((vX4_lives s L0 P0 a2) = 0 → Q (1 : Int32) s))))))) : KI MX4_wrongToWrite 3 [.ref L0, .int a1, .int a2, .int a3] s Q := by
  show BI MX4_wrongToWrite 3 0 [(0, .ref L0), (1, .int a1), (2, .int a2), (3, .int a3)] s Q
  refine JT_iload_n (q := 1) dX4_wrongToWrite_0 rfl rfl ?_
  refine JT_iload_n (q := 2) dX4_wrongToWrite_1 rfl rfl ?_
  refine JT_icmp_eq (tgt := 21) dX4_wrongToWrite_2 (by decide) (fun hc14 => ?_) (fun hc14 => ?_)
  · have h := h.1 hc14
    refine JT_iconst (v := 1) dX4_wrongToWrite_21 ic_1 ?_
    exact JS_iret dX4_wrongToWrite_22 rfl rfl h
  · have h := h.2 hc14
    refine JT_aload_n (q := 0) dX4_wrongToWrite_5 rfl rfl ?_
    refine JT_iload_n (q := 1) dX4_wrongToWrite_6 rfl rfl ?_
    refine JS_callVI (M' := MX4_lives) (d' := 0) (As := [.int a1]) (rest := []) (P := (fun zv9 wm9 => (vX4_lives s L0 P0 a1) = zv9 ∧ s = wm9)) dX4_wrongToWrite_7 cvX4_85 okX4_lives rfl (Nat.le_of_ble_eq_true rfl) (lxB hL0) (lx2 hL0) (lxN hL0) hci_4 (Nat.le_of_ble_eq_true rfl) (Nat.le_of_ble_eq_true rfl) (pX4_lives hL0 (a1)  ⟨rfl, rfl⟩) (fun zv9 wm9 hq9 => ?_)
    obtain ⟨rfl, rfl⟩ := hq9
    refine JT_if_eq (tgt := 21) dX4_wrongToWrite_10 (by decide) (fun hc12 => ?_) (fun hc12 => ?_)
    · have h := h.1 hc12
      refine JT_iconst (v := 1) dX4_wrongToWrite_21 ic_1 ?_
      exact JS_iret dX4_wrongToWrite_22 rfl rfl h
    · have h := h.2 hc12
      refine JT_aload_n (q := 0) dX4_wrongToWrite_13 rfl rfl ?_
      refine JT_iload_n (q := 2) dX4_wrongToWrite_14 rfl rfl ?_
      refine JS_callVI (M' := MX4_lives) (d' := 0) (As := [.int a2]) (rest := []) (P := (fun zv9 wm9 => (vX4_lives s L0 P0 a2) = zv9 ∧ s = wm9)) dX4_wrongToWrite_15 cvX4_85 okX4_lives rfl (Nat.le_of_ble_eq_true rfl) (lxB hL0) (lx2 hL0) (lxN hL0) hci_4 (Nat.le_of_ble_eq_true rfl) (Nat.le_of_ble_eq_true rfl) (pX4_lives hL0 (a2)  ⟨rfl, rfl⟩) (fun zv9 wm9 hq9 => ?_)
      obtain ⟨rfl, rfl⟩ := hq9
      refine JT_if_ne (tgt := 23) dX4_wrongToWrite_18 (by decide) (fun hc10 => ?_) (fun hc10 => ?_)
      · have h := h.1 hc10
        refine JT_aload_n (q := 0) dX4_wrongToWrite_23 rfl rfl ?_
        refine JT_iload_n (q := 1) dX4_wrongToWrite_24 rfl rfl ?_
        refine JT_aload_n (q := 0) dX4_wrongToWrite_25 rfl rfl ?_
        refine JS_getR (x := P0) dX4_wrongToWrite_26 flX4_45 (lxB hL0) (lx2 hL0) (lxN hL0) (Or.inl ⟨_, ct_4_8⟩) (lxR8 hL0) ?_
        refine JS_getR (x := (P0 + 5)) dX4_wrongToWrite_29 flX4_128 (pxB (lxP hL0)) (px2 (lxP hL0)) (pxN (lxP hL0)) (Or.inr ⟨_, ct_6_4⟩) (pxR4 (lxP hL0)) ?_
        refine JT_iload_n (q := 3) dX4_wrongToWrite_32 rfl rfl ?_
        obtain ⟨o1, h⟩ := h
        refine JS_iald dX4_wrongToWrite_33 (pxB5 (lxP hL0)) (px2k (lxP hL0) _) (pxNk (lxP hL0) (Nat.le_of_ble_eq_true rfl)) o1 ?_
        obtain ⟨o9, h⟩ := h
        refine JS_callVI (M' := MX4_bearerFor) (d' := 1) (As := [.int a1, .int (gI s (P0 + 5) (a3).toNatClampNeg)]) (rest := []) (P := (fun zv9 wm9 => (vX4_bearerFor s L0 P0 a1 (gI s (P0 + 5) (a3).toNatClampNeg)) = zv9 ∧ s = wm9)) dX4_wrongToWrite_34 cvX4_125 okX4_bearerFor rfl (Nat.le_of_ble_eq_true rfl) (lxB hL0) (lx2 hL0) (lxN hL0) hci_4 (Nat.le_of_ble_eq_true rfl) (Nat.le_of_ble_eq_true rfl) (pX4_bearerFor hL0 (a1) ((gI s (P0 + 5) (a3).toNatClampNeg)) o9 ⟨rfl, rfl⟩) (fun zv9 wm9 hq9 => ?_)
        obtain ⟨rfl, rfl⟩ := hq9
        refine JT_istore (lv' := [(4, .int (vX4_bearerFor s L0 P0 a1 (gI s (P0 + 5) (a3).toNatClampNeg))), (0, .ref L0), (1, .int a1), (2, .int a2), (3, .int a3)]) dX4_wrongToWrite_37 (Nat.le_of_ble_eq_true rfl) rfl ?_
        refine JT_iload (q := 0) dX4_wrongToWrite_39 rfl ?_
        refine JT_iconst (v := -1) dX4_wrongToWrite_41 ic_m1 ?_
        refine JT_icmp_ne (tgt := 47) dX4_wrongToWrite_42 (by decide) (fun hc8 => ?_) (fun hc8 => ?_)
        · have h := h.1 hc8
          refine JT_aload_n (q := 1) dX4_wrongToWrite_47 rfl rfl ?_
          refine JT_iload_n (q := 3) dX4_wrongToWrite_48 rfl rfl ?_
          refine JT_aload_n (q := 1) dX4_wrongToWrite_49 rfl rfl ?_
          refine JS_getR (x := P0) dX4_wrongToWrite_50 flX4_45 (lxB hL0) (lx2 hL0) (lxN hL0) (Or.inl ⟨_, ct_4_8⟩) (lxR8 hL0) ?_
          refine JS_getR (x := (P0 + 5)) dX4_wrongToWrite_53 flX4_128 (pxB (lxP hL0)) (px2 (lxP hL0)) (pxN (lxP hL0)) (Or.inr ⟨_, ct_6_4⟩) (pxR4 (lxP hL0)) ?_
          refine JT_iload_n (q := 4) dX4_wrongToWrite_56 rfl rfl ?_
          obtain ⟨o2, h⟩ := h
          refine JS_iald dX4_wrongToWrite_57 (pxB5 (lxP hL0)) (px2k (lxP hL0) _) (pxNk (lxP hL0) (Nat.le_of_ble_eq_true rfl)) o2 ?_
          refine JT_iload (q := 0) dX4_wrongToWrite_58 rfl ?_
          obtain ⟨o7, h⟩ := h
          refine JS_callVI (M' := MX4_debtBearerFor) (d' := 2) (As := [.int a2, .int (gI s (P0 + 5) (a3).toNatClampNeg), .int (vX4_bearerFor s L0 P0 a1 (gI s (P0 + 5) (a3).toNatClampNeg))]) (rest := []) (P := (fun zv9 wm9 => (vX4_debtBearerFor s L0 P0 a2 (gI s (P0 + 5) (a3).toNatClampNeg) (vX4_bearerFor s L0 P0 a1 (gI s (P0 + 5) (a3).toNatClampNeg))) = zv9 ∧ (mX4_debtBearerFor s L0 P0 a2 (gI s (P0 + 5) (a3).toNatClampNeg) (vX4_bearerFor s L0 P0 a1 (gI s (P0 + 5) (a3).toNatClampNeg))) = wm9)) dX4_wrongToWrite_60 cvX4_131 okX4_debtBearerFor rfl (Nat.le_of_ble_eq_true rfl) (lxB hL0) (lx2 hL0) (lxN hL0) hci_4 (Nat.le_of_ble_eq_true rfl) (Nat.le_of_ble_eq_true rfl) (pX4_debtBearerFor hL0 (a2) ((gI s (P0 + 5) (a3).toNatClampNeg)) ((vX4_bearerFor s L0 P0 a1 (gI s (P0 + 5) (a3).toNatClampNeg))) o7 ⟨rfl, rfl⟩) (fun zv9 wm9 hq9 => ?_)
          obtain ⟨rfl, rfl⟩ := hq9
          obtain ⟨s3, hs3⟩ : ∃ z, z = (mX4_debtBearerFor s L0 P0 a2 (gI s (P0 + 5) (a3).toNatClampNeg) (vX4_bearerFor s L0 P0 a1 (gI s (P0 + 5) (a3).toNatClampNeg))) := ⟨_, rfl⟩
          replace h := h s3 hs3
          rw [← hs3]
          refine JT_iconst (v := -1) dX4_wrongToWrite_63 ic_m1 ?_
          refine JT_icmp_ne (tgt := 69) dX4_wrongToWrite_64 (by decide) (fun hc6 => ?_) (fun hc6 => ?_)
          · have h := h.1 hc6
            refine JT_aload_n (q := 1) dX4_wrongToWrite_69 rfl rfl ?_
            refine JS_getI dX4_wrongToWrite_70 flX4_49 (lxB hL0) (lx2 hL0) (lxN hL0) (Or.inl ct_4_9) ?_
            refine JT_bipush (v := 60) dX4_wrongToWrite_73 bp_60 ?_
            have hj4 : ∀ v : Int32, v = (if (gI s3 L0 9) < (60 : Int32) then (0 : Int32) else (7 : Int32)) → JT MX4_wrongToWrite 3 0 0 84 [(4, .int (vX4_bearerFor s L0 P0 a1 (gI s (P0 + 5) (a3).toNatClampNeg))), (0, .ref L0), (1, .int a1), (2, .int a2), (3, .int a3)] [.int v] (std s3) (KQ Q) := by
              intro v hv
              subst hv
              exact JS_iret dX4_wrongToWrite_84 rfl rfl h
            refine JT_icmp_lt (tgt := 83) dX4_wrongToWrite_75 (by decide) (fun hc5 => ?_) (fun hc5 => ?_)
            · refine JT_iconst (v := 0) dX4_wrongToWrite_83 ic_0 ?_
              exact hj4 _ (by rw [if_pos hc5])
            · refine JT_bipush (v := 7) dX4_wrongToWrite_78 bp_7 ?_
              refine JT_goto (tgt := 84) dX4_wrongToWrite_80 (by decide) ?_
              exact hj4 _ (by rw [if_neg hc5])
          · have h := h.2 hc6
            refine JT_iconst (v := 3) dX4_wrongToWrite_67 ic_3 ?_
            exact JS_iret dX4_wrongToWrite_68 rfl rfl h
        · have h := h.2 hc8
          refine JT_iconst (v := 2) dX4_wrongToWrite_45 ic_2 ?_
          exact JS_iret dX4_wrongToWrite_46 rfl rfl h
      · have h := h.2 hc10
        refine JT_iconst (v := 1) dX4_wrongToWrite_21 ic_1 ?_
        exact JS_iret dX4_wrongToWrite_22 rfl rfl h
set_option maxRecDepth 20000 in
def vX4_wrongToWrite (s : SM) (L0 P0 : Nat) (a1 : Int32) (a2 : Int32) (a3 : Int32) : Int32 := (if a1 = a2 then (1 : Int32) else (if (vX4_lives s L0 P0 a1) = 0 then (1 : Int32) else (if (vX4_lives s L0 P0 a2) = 0 then (1 : Int32) else (if (vX4_bearerFor s L0 P0 a1 (gI s (P0 + 5) (a3).toNatClampNeg)) = (-1 : Int32) then (2 : Int32) else ((fun (s3 : SM) => (if (vX4_debtBearerFor s L0 P0 a2 (gI s (P0 + 5) (a3).toNatClampNeg) (vX4_bearerFor s L0 P0 a1 (gI s (P0 + 5) (a3).toNatClampNeg))) = (-1 : Int32) then (3 : Int32) else (if (gI s3 L0 9) < (60 : Int32) then (0 : Int32) else (7 : Int32)))) (mX4_debtBearerFor s L0 P0 a2 (gI s (P0 + 5) (a3).toNatClampNeg) (vX4_bearerFor s L0 P0 a1 (gI s (P0 + 5) (a3).toNatClampNeg))))))))
set_option maxRecDepth 20000 in
def mX4_wrongToWrite (s : SM) (L0 P0 : Nat) (a1 : Int32) (a2 : Int32) (a3 : Int32) : SM := (if a1 = a2 then s else (if (vX4_lives s L0 P0 a1) = 0 then s else (if (vX4_lives s L0 P0 a2) = 0 then s else (if (vX4_bearerFor s L0 P0 a1 (gI s (P0 + 5) (a3).toNatClampNeg)) = (-1 : Int32) then s else ((fun (s3 : SM) => s3) (mX4_debtBearerFor s L0 P0 a2 (gI s (P0 + 5) (a3).toNatClampNeg) (vX4_bearerFor s L0 P0 a1 (gI s (P0 + 5) (a3).toNatClampNeg))))))))
set_option maxRecDepth 20000 in
def rX4_wrongToWrite (s : SM) (L0 P0 : Nat) (a1 : Int32) (a2 : Int32) (a3 : Int32) : Prop := (¬ a1 = a2 → (¬ (vX4_lives s L0 P0 a1) = 0 → (¬ (vX4_lives s L0 P0 a2) = 0 → vp_in a3 6 ∧ rX4_bearerFor s L0 P0 a1 (gI s (P0 + 5) (a3).toNatClampNeg) ∧ (¬ (vX4_bearerFor s L0 P0 a1 (gI s (P0 + 5) (a3).toNatClampNeg)) = (-1 : Int32) → vp_in a3 6 ∧ rX4_debtBearerFor s L0 P0 a2 (gI s (P0 + 5) (a3).toNatClampNeg) (vX4_bearerFor s L0 P0 a1 (gI s (P0 + 5) (a3).toNatClampNeg))))))
set_option maxRecDepth 20000 in
theorem pX4_wrongToWrite {L0 P0 : Nat} (hL0 : (L0, P0) ∈ LX) (a1 : Int32) (a2 : Int32) (a3 : Int32) {s : SM} {Q : Int32 → SM → Prop} (hr : rX4_wrongToWrite s L0 P0 a1 a2 a3) (h : Q (vX4_wrongToWrite s L0 P0 a1 a2 a3) (mX4_wrongToWrite s L0 P0 a1 a2 a3)) : KI MX4_wrongToWrite 3 [.ref L0, .int a1, .int a2, .int a3] s Q := by
  refine bX4_wrongToWrite hL0 a1 a2 a3 ?_
  unfold rX4_wrongToWrite at hr
  unfold vX4_wrongToWrite mX4_wrongToWrite at h
  refine ⟨fun c => ?_, fun c => ?_⟩
  · try simp only [if_pos c] at h
    first | exact h | contradiction
  · replace hr := hr c
    try simp only [if_neg c] at h
    refine ⟨fun c => ?_, fun c => ?_⟩
    · try simp only [if_pos c] at h
      first | exact h | contradiction
    · replace hr := hr c
      try simp only [if_neg c] at h
      refine ⟨fun c => ?_, fun c => ?_⟩
      · replace hr := hr c
        try simp only [if_neg c] at h
        refine ⟨hr.1, ?_⟩
        replace hr := hr.2
        refine ⟨hr.1, ?_⟩
        replace hr := hr.2
        refine ⟨fun c => ?_, fun c => ?_⟩
        · replace hr := hr c
          try simp only [if_neg c] at h
          refine ⟨hr.1, ?_⟩
          replace hr := hr.2
          refine ⟨hr, ?_⟩
          intro s3 e9
          subst e9
          refine ⟨fun c => ?_, fun c => ?_⟩
          · try simp only [if_neg c] at h
            first | exact h | contradiction
          · try simp only [if_pos c] at h
            first | exact h | contradiction
        · try simp only [if_pos c] at h
          first | exact h | contradiction
      · try simp only [if_pos c] at h
        first | exact h | contradiction
set_option maxRecDepth 20000 in
theorem bX5_take_35 {p2 : Nat} (hp2 : p2 ∈ PX) (a3 : Int32) {s : SM} {Q : Int32 → SM → Prop} (h : (((gI s 225 0) ≤ a3 → Q (1 : Int32) s) ∧ (¬ (gI s 225 0) ≤ a3 → rX9_byteOr s ((3 : Int32) * a3) (0 : Int32) ∧ vp_in a3 6 ∧ rX9_byteOr (pI s 226 (a3).toNatClampNeg (vX9_byteOr s ((3 : Int32) * a3) (0 : Int32))) (((3 : Int32) * a3) + (1 : Int32)) (0 : Int32) ∧ vp_in a3 6 ∧ (∀ s3, s3 = (pI (pI s 226 (a3).toNatClampNeg (vX9_byteOr s ((3 : Int32) * a3) (0 : Int32))) 227 (a3).toNatClampNeg (vX9_byteOr (pI s 226 (a3).toNatClampNeg (vX9_byteOr s ((3 : Int32) * a3) (0 : Int32))) (((3 : Int32) * a3) + (1 : Int32)) (0 : Int32))) → rX9_byteOr s3 (((3 : Int32) * a3) + (2 : Int32)) (0 : Int32) ∧ vp_in a3 6 ∧ BI MX5_take 3 35 [(0, .ref 225), (1, .ref 3), (2, .ref p2), (3, .int (a3 + 1))] (pI s3 228 (a3).toNatClampNeg (vX9_byteOr s3 (((3 : Int32) * a3) + (2 : Int32)) (0 : Int32))) Q)))) : BI MX5_take 3 35 [(0, .ref 225), (1, .ref 3), (2, .ref p2), (3, .int a3)] s Q := by
  refine JT_iload_n (q := 3) dX5_take_35 rfl rfl ?_
  refine JT_aload_n (q := 0) dX5_take_36 rfl rfl ?_
  refine JS_getI dX5_take_37 flX5_58 BS_225 (Nat.le_of_ble_eq_true rfl) (Nat.le_of_ble_eq_true rfl) (Or.inl ct_5_0) ?_
  refine JT_icmp_ge (tgt := 95) dX5_take_40 (by decide) (fun hc8 => ?_) (fun hc8 => ?_)
  · have h := h.1 hc8
    refine JT_iconst (v := 1) dX5_take_95 ic_1 ?_
    exact JS_iret dX5_take_96 rfl (n01 (Or.inr rfl)) h
  · have h := h.2 hc8
    refine JT_aload_n (q := 0) dX5_take_43 rfl rfl ?_
    refine JS_getR (x := 226) dX5_take_44 flX5_9 BS_225 (Nat.le_of_ble_eq_true rfl) (Nat.le_of_ble_eq_true rfl) (Or.inr ⟨_, ct_5_2⟩) RF_225_2 ?_
    refine JT_iload_n (q := 3) dX5_take_47 rfl rfl ?_
    refine JT_aload_n (q := 1) dX5_take_48 rfl rfl ?_
    refine JT_iconst (v := 3) dX5_take_49 ic_3 ?_
    refine JT_iload_n (q := 3) dX5_take_50 rfl rfl ?_
    refine JT_imul dX5_take_51 ?_
    refine JT_iconst (v := 0) dX5_take_52 ic_0 ?_
    obtain ⟨o7, h⟩ := h
    refine JS_callVI (M' := MX9_byteOr) (d' := 0) (As := [.int ((3 : Int32) * a3), .int (0 : Int32)]) (rest := [.int a3, .ref 226]) (P := (fun zv9 wm9 => (vX9_byteOr s ((3 : Int32) * a3) (0 : Int32)) = zv9 ∧ s = wm9)) dX5_take_53 cvX5_39 okX9_byteOr rfl (Nat.le_of_ble_eq_true rfl) BS_3 (Nat.le_of_ble_eq_true rfl) (Nat.le_of_ble_eq_true rfl) hci_9 (Nat.le_of_ble_eq_true rfl) (Nat.le_of_ble_eq_true rfl) (pX9_byteOr  (((3 : Int32) * a3)) ((0 : Int32)) o7 ⟨rfl, rfl⟩) (fun zv9 wm9 hq9 => ?_)
    obtain ⟨rfl, rfl⟩ := hq9
    obtain ⟨o1, h⟩ := h
    refine JS_iast dX5_take_56 BS_226 (Nat.le_of_ble_eq_true rfl) (Nat.le_of_ble_eq_true rfl) o1 ?_
    refine JT_aload_n (q := 0) dX5_take_57 rfl rfl ?_
    refine JS_getR (x := 227) dX5_take_58 flX5_15 BS_225 (Nat.le_of_ble_eq_true rfl) (Nat.le_of_ble_eq_true rfl) (Or.inr ⟨_, ct_5_3⟩) RF_225_3 ?_
    refine JT_iload_n (q := 3) dX5_take_61 rfl rfl ?_
    refine JT_aload_n (q := 1) dX5_take_62 rfl rfl ?_
    refine JT_iconst (v := 3) dX5_take_63 ic_3 ?_
    refine JT_iload_n (q := 3) dX5_take_64 rfl rfl ?_
    refine JT_imul dX5_take_65 ?_
    refine JT_iconst (v := 1) dX5_take_66 ic_1 ?_
    refine JT_iadd dX5_take_67 ?_
    refine JT_iconst (v := 0) dX5_take_68 ic_0 ?_
    obtain ⟨o6, h⟩ := h
    refine JS_callVI (M' := MX9_byteOr) (d' := 0) (As := [.int (((3 : Int32) * a3) + (1 : Int32)), .int (0 : Int32)]) (rest := [.int a3, .ref 227]) (P := (fun zv9 wm9 => (vX9_byteOr (pI s 226 (a3).toNatClampNeg (vX9_byteOr s ((3 : Int32) * a3) (0 : Int32))) (((3 : Int32) * a3) + (1 : Int32)) (0 : Int32)) = zv9 ∧ (pI s 226 (a3).toNatClampNeg (vX9_byteOr s ((3 : Int32) * a3) (0 : Int32))) = wm9)) dX5_take_69 cvX5_39 okX9_byteOr rfl (Nat.le_of_ble_eq_true rfl) BS_3 (Nat.le_of_ble_eq_true rfl) (Nat.le_of_ble_eq_true rfl) hci_9 (Nat.le_of_ble_eq_true rfl) (Nat.le_of_ble_eq_true rfl) (pX9_byteOr  ((((3 : Int32) * a3) + (1 : Int32))) ((0 : Int32)) o6 ⟨rfl, rfl⟩) (fun zv9 wm9 hq9 => ?_)
    obtain ⟨rfl, rfl⟩ := hq9
    obtain ⟨o2, h⟩ := h
    refine JS_iast dX5_take_72 BS_227 (Nat.le_of_ble_eq_true rfl) (Nat.le_of_ble_eq_true rfl) o2 ?_
    obtain ⟨s3, hs3⟩ : ∃ z, z = (pI (pI s 226 (a3).toNatClampNeg (vX9_byteOr s ((3 : Int32) * a3) (0 : Int32))) 227 (a3).toNatClampNeg (vX9_byteOr (pI s 226 (a3).toNatClampNeg (vX9_byteOr s ((3 : Int32) * a3) (0 : Int32))) (((3 : Int32) * a3) + (1 : Int32)) (0 : Int32))) := ⟨_, rfl⟩
    replace h := h s3 hs3
    rw [← hs3]
    refine JT_aload_n (q := 0) dX5_take_73 rfl rfl ?_
    refine JS_getR (x := 228) dX5_take_74 flX5_18 BS_225 (Nat.le_of_ble_eq_true rfl) (Nat.le_of_ble_eq_true rfl) (Or.inr ⟨_, ct_5_4⟩) RF_225_4 ?_
    refine JT_iload_n (q := 3) dX5_take_77 rfl rfl ?_
    refine JT_aload_n (q := 1) dX5_take_78 rfl rfl ?_
    refine JT_iconst (v := 3) dX5_take_79 ic_3 ?_
    refine JT_iload_n (q := 3) dX5_take_80 rfl rfl ?_
    refine JT_imul dX5_take_81 ?_
    refine JT_iconst (v := 2) dX5_take_82 ic_2 ?_
    refine JT_iadd dX5_take_83 ?_
    refine JT_iconst (v := 0) dX5_take_84 ic_0 ?_
    obtain ⟨o5, h⟩ := h
    refine JS_callVI (M' := MX9_byteOr) (d' := 0) (As := [.int (((3 : Int32) * a3) + (2 : Int32)), .int (0 : Int32)]) (rest := [.int a3, .ref 228]) (P := (fun zv9 wm9 => (vX9_byteOr s3 (((3 : Int32) * a3) + (2 : Int32)) (0 : Int32)) = zv9 ∧ s3 = wm9)) dX5_take_85 cvX5_39 okX9_byteOr rfl (Nat.le_of_ble_eq_true rfl) BS_3 (Nat.le_of_ble_eq_true rfl) (Nat.le_of_ble_eq_true rfl) hci_9 (Nat.le_of_ble_eq_true rfl) (Nat.le_of_ble_eq_true rfl) (pX9_byteOr  ((((3 : Int32) * a3) + (2 : Int32))) ((0 : Int32)) o5 ⟨rfl, rfl⟩) (fun zv9 wm9 hq9 => ?_)
    obtain ⟨rfl, rfl⟩ := hq9
    obtain ⟨o4, h⟩ := h
    refine JS_iast dX5_take_88 BS_228 (Nat.le_of_ble_eq_true rfl) (Nat.le_of_ble_eq_true rfl) o4 ?_
    refine JT_iinc (q := 3) (v := (a3 + 1)) (lv' := [(3, .int (a3 + 1)), (0, .ref 225), (1, .ref 3), (2, .ref p2)]) dX5_take_89 rfl (by rfl) (Nat.le_of_ble_eq_true rfl) rfl ?_
    refine JT_goto (tgt := 35) dX5_take_92 (by decide) ?_
    exact JT_sub [1, 2, 3, 0] rfl h
set_option maxRecDepth 20000 in
theorem bX5_take {p2 : Nat} (hp2 : p2 ∈ PX) {s : SM} {Q : Int32 → SM → Prop} (h : KI MX5_isTold 2 [.ref 3, .ref p2] s (fun x2 s1 => ((¬ x2 = 0 → (∀ s3, s3 = (pI (pI s1 225 0 (if (6 : Int32) < ((gI s1 3 1) / (3 : Int32)) then (6 : Int32) else ((gI s1 3 1) / (3 : Int32)))) 225 1 (gI (pI s1 225 0 (if (6 : Int32) < ((gI s1 3 1) / (3 : Int32)) then (6 : Int32) else ((gI s1 3 1) / (3 : Int32)))) p2 11)) → BI MX5_take 3 35 [(0, .ref 225), (1, .ref 3), (2, .ref p2), (3, .int (0 : Int32))] s3 Q)) ∧ (x2 = 0 → Q (0 : Int32) s1)))) : KI MX5_take 3 [.ref 225, .ref 3, .ref p2] s Q := by
  show BI MX5_take 3 0 [(0, .ref 225), (1, .ref 3), (2, .ref p2)] s Q
  refine JT_aload_n (q := 1) dX5_take_0 rfl rfl ?_
  refine JT_aload_n (q := 2) dX5_take_1 rfl rfl ?_
  refine JS_callSI (M' := MX5_isTold) (d' := 2) (As := [.ref 3, .ref p2]) (rest := []) dX5_take_2 cvX5_49 okX5_isTold rfl (Nat.le_of_ble_eq_true rfl) (Nat.le_of_ble_eq_true rfl) (Nat.le_of_ble_eq_true rfl) h (fun x2 s1 h => ?_)
  refine JT_if_ne (tgt := 10) dX5_take_5 (by decide) (fun hc4 => ?_) (fun hc4 => ?_)
  · have h := h.1 hc4
    refine JT_aload_n (q := 0) dX5_take_10 rfl rfl ?_
    refine JT_aload_n (q := 1) dX5_take_11 rfl rfl ?_
    refine JS_getI dX5_take_12 flX5_33 BS_3 (Nat.le_of_ble_eq_true rfl) (Nat.le_of_ble_eq_true rfl) (Or.inl ct_9_1) ?_
    refine JT_iconst (v := 3) dX5_take_15 ic_3 ?_
    refine JT_idiv dX5_take_16 (by decide) ?_
    refine JT_bipush (v := 6) dX5_take_17 bp_6 ?_
    refine JT_mmin (d2 := 2) dX5_take_19 mlX5_53 (Nat.le_of_ble_eq_true rfl) rfl ?_
    refine JS_putI dX5_take_22 flX5_58 BS_225 (Nat.le_of_ble_eq_true rfl) (Nat.le_of_ble_eq_true rfl) ct_5_0 ?_
    refine JT_aload_n (q := 0) dX5_take_25 rfl rfl ?_
    refine JT_aload_n (q := 2) dX5_take_26 rfl rfl ?_
    refine JS_getI dX5_take_27 flX5_61 (pxB hp2) (px2 hp2) (pxN hp2) (Or.inl ct_6_11) ?_
    refine JS_putI dX5_take_30 flX5_64 BS_225 (Nat.le_of_ble_eq_true rfl) (Nat.le_of_ble_eq_true rfl) ct_5_1 ?_
    obtain ⟨s3, hs3⟩ : ∃ z, z = (pI (pI s1 225 0 (if (6 : Int32) < ((gI s1 3 1) / (3 : Int32)) then (6 : Int32) else ((gI s1 3 1) / (3 : Int32)))) 225 1 (gI (pI s1 225 0 (if (6 : Int32) < ((gI s1 3 1) / (3 : Int32)) then (6 : Int32) else ((gI s1 3 1) / (3 : Int32)))) p2 11)) := ⟨_, rfl⟩
    replace h := h s3 hs3
    rw [← hs3]
    refine JT_iconst (v := 0) dX5_take_33 ic_0 ?_
    refine JT_istore_n (lv' := [(3, .int (0 : Int32)), (0, .ref 225), (1, .ref 3), (2, .ref p2)]) dX5_take_34 rfl (Nat.le_of_ble_eq_true rfl) rfl ?_
    exact JT_sub [1, 2, 3, 0] rfl h
  · have h := h.2 hc4
    refine JT_iconst (v := 0) dX5_take_8 ic_0 ?_
    exact JS_iret dX5_take_9 rfl (n01 (Or.inl rfl)) h
set_option maxRecDepth 20000 in
theorem bX7_prepare_29 {L1 P1 : Nat} (hL1 : (L1, P1) ∈ LX) (a2 : Int32) (a3 : Int32) {s : SM} {Q : SM → Prop} (h : (((9 : Int32) ≤ a3 → Q s) ∧ (¬ (9 : Int32) ≤ a3 → vp_in a3 9 ∧ BV MX7_prepare 3 45 [(0, .ref 218), (1, .ref L1), (2, .int a2), (3, .int a3), (4, .int (0 : Int32))] (pI s 223 (a3).toNatClampNeg a2) Q))) : BV MX7_prepare 3 29 [(0, .ref 218), (1, .ref L1), (2, .int a2), (3, .int a3)] s Q := by
  refine JT_iload_n (q := 3) dX7_prepare_29 rfl rfl ?_
  refine JT_bipush (v := 9) dX7_prepare_30 bp_9 ?_
  refine JT_icmp_ge (tgt := 144) dX7_prepare_32 (by decide) (fun hc2 => ?_) (fun hc2 => ?_)
  · have h := h.1 hc2
    exact JS_vret dX7_prepare_144 rfl h
  · have h := h.2 hc2
    refine JT_aload_n (q := 0) dX7_prepare_35 rfl rfl ?_
    refine JS_getR (x := 223) dX7_prepare_36 flX7_24 BS_218 (Nat.le_of_ble_eq_true rfl) (Nat.le_of_ble_eq_true rfl) (Or.inr ⟨_, ct_7_9⟩) RF_218_9 ?_
    refine JT_iload_n (q := 3) dX7_prepare_39 rfl rfl ?_
    refine JT_iload_n (q := 2) dX7_prepare_40 rfl rfl ?_
    obtain ⟨o1, h⟩ := h
    refine JS_iast dX7_prepare_41 BS_223 (Nat.le_of_ble_eq_true rfl) (Nat.le_of_ble_eq_true rfl) o1 ?_
    refine JT_iconst (v := 0) dX7_prepare_42 ic_0 ?_
    refine JT_istore (lv' := [(4, .int (0 : Int32)), (0, .ref 218), (1, .ref L1), (2, .int a2), (3, .int a3)]) dX7_prepare_43 (Nat.le_of_ble_eq_true rfl) rfl ?_
    exact JT_sub [1, 2, 3, 4, 0] rfl h
set_option maxRecDepth 20000 in
theorem bX7_prepare_45 {L1 P1 : Nat} (hL1 : (L1, P1) ∈ LX) (a2 : Int32) (a3 : Int32) (a4 : Int32) {s : SM} {Q : SM → Prop} (h : ∃ Lx1 Px1, gD s 0 = some Lx1 ∧ (Lx1, Px1) ∈ LX ∧ (((gI s Lx1 9) ≤ a4 → vp_in a3 9 ∧ BV MX7_prepare 3 29 [(0, .ref 218), (1, .ref L1), (2, .int a2), (3, .int (a3 + 1))] (pI s 224 (a3).toNatClampNeg a2) Q) ∧ (¬ (gI s Lx1 9) ≤ a4 → ∃ Lx3 Px3, gD s 0 = some Lx3 ∧ (Lx3, Px3) ∈ LX ∧ vp_in a4 60 ∧ ((¬ (gI s (Lx3 + 1) (a4).toNatClampNeg) = a3 → BV MX7_prepare 3 45 [(0, .ref 218), (1, .ref L1), (2, .int a2), (3, .int a3), (4, .int (a4 + 1))] s Q) ∧ ((gI s (Lx3 + 1) (a4).toNatClampNeg) = a3 → KI MX7_mayBeIn 2 [.ref 218, .int a4] s (fun x6 s5 => ((x6 = 0 → BV MX7_prepare 3 45 [(0, .ref 218), (1, .ref L1), (2, .int a2), (3, .int a3), (4, .int (a4 + 1))] s5 Q) ∧ (¬ x6 = 0 → vp_in a2 60 ∧ ∃ Lx8 Px8, gD (pI s5 222 (a2).toNatClampNeg a4) 0 = some Lx8 ∧ (Lx8, Px8) ∈ LX ∧ KI MX4_freedBy 2 [.ref Lx8, .int a4] (pI s5 222 (a2).toNatClampNeg a4) (fun x10 s9 => vp_in a4 60 ∧ vp_in a4 60 ∧ (∀ s13, s13 = (pI (pI s9 221 (a4).toNatClampNeg x10) 218 7 (if (gI (pI s9 221 (a4).toNatClampNeg x10) 218 7) < (gI (pI s9 221 (a4).toNatClampNeg x10) 221 (a4).toNatClampNeg) then (gI (pI s9 221 (a4).toNatClampNeg x10) 221 (a4).toNatClampNeg) else (gI (pI s9 221 (a4).toNatClampNeg x10) 218 7))) → BV MX7_prepare 3 45 [(0, .ref 218), (1, .ref L1), (2, .int (a2 + 1)), (3, .int a3), (4, .int (a4 + 1))] s13 Q)))))))))) : BV MX7_prepare 3 45 [(0, .ref 218), (1, .ref L1), (2, .int a2), (3, .int a3), (4, .int a4)] s Q := by
  refine JT_iload (q := 4) dX7_prepare_45 rfl ?_
  refine JT_aload_n (q := 0) dX7_prepare_47 rfl rfl ?_
  obtain ⟨Lx1, Px1, hrx1, hLx1, h⟩ := h
  refine JS_getR dX7_prepare_48 flX7_40 BS_218 (Nat.le_of_ble_eq_true rfl) (Nat.le_of_ble_eq_true rfl) (Or.inl ⟨_, ct_7_4⟩) (RF_218_4.trans hrx1) ?_
  refine JS_getI dX7_prepare_51 flX7_44 (lxB hLx1) (lx2 hLx1) (lxN hLx1) (Or.inl ct_4_9) ?_
  refine JT_icmp_ge (tgt := 131) dX7_prepare_54 (by decide) (fun hc16 => ?_) (fun hc16 => ?_)
  · have h := h.1 hc16
    refine JT_aload_n (q := 0) dX7_prepare_131 rfl rfl ?_
    refine JS_getR (x := 224) dX7_prepare_132 flX7_27 BS_218 (Nat.le_of_ble_eq_true rfl) (Nat.le_of_ble_eq_true rfl) (Or.inr ⟨_, ct_7_10⟩) RF_218_10 ?_
    refine JT_iload_n (q := 3) dX7_prepare_135 rfl rfl ?_
    refine JT_iload_n (q := 2) dX7_prepare_136 rfl rfl ?_
    obtain ⟨o2, h⟩ := h
    refine JS_iast dX7_prepare_137 BS_224 (Nat.le_of_ble_eq_true rfl) (Nat.le_of_ble_eq_true rfl) o2 ?_
    refine JT_iinc (q := 3) (v := (a3 + 1)) (lv' := [(3, .int (a3 + 1)), (0, .ref 218), (1, .ref L1), (2, .int a2), (4, .int a4)]) dX7_prepare_138 rfl (by rfl) (Nat.le_of_ble_eq_true rfl) rfl ?_
    refine JT_goto (tgt := 29) dX7_prepare_141 (by decide) ?_
    exact JT_sub [1, 2, 3, 0] rfl h
  · have h := h.2 hc16
    refine JT_aload_n (q := 0) dX7_prepare_57 rfl rfl ?_
    obtain ⟨Lx3, Px3, hrx3, hLx3, h⟩ := h
    refine JS_getR dX7_prepare_58 flX7_40 BS_218 (Nat.le_of_ble_eq_true rfl) (Nat.le_of_ble_eq_true rfl) (Or.inl ⟨_, ct_7_4⟩) (RF_218_4.trans hrx3) ?_
    refine JS_getR (x := (Lx3 + 1)) dX7_prepare_61 flX7_58 (lxB hLx3) (lx2 hLx3) (lxN hLx3) (Or.inr ⟨_, ct_4_0⟩) (lxR0 hLx3) ?_
    refine JT_iload (q := 4) dX7_prepare_64 rfl ?_
    obtain ⟨o4, h⟩ := h
    refine JS_iald dX7_prepare_66 (lxB1 hLx3) (lx2k hLx3 _) (lxNk hLx3 (Nat.le_of_ble_eq_true rfl)) o4 ?_
    refine JT_iload_n (q := 3) dX7_prepare_67 rfl rfl ?_
    refine JT_icmp_ne (tgt := 125) dX7_prepare_68 (by decide) (fun hc15 => ?_) (fun hc15 => ?_)
    · have h := h.1 hc15
      refine JT_iinc (q := 4) (v := (a4 + 1)) (lv' := [(4, .int (a4 + 1)), (0, .ref 218), (1, .ref L1), (2, .int a2), (3, .int a3)]) dX7_prepare_125 rfl (by rfl) (Nat.le_of_ble_eq_true rfl) rfl ?_
      refine JT_goto (tgt := 45) dX7_prepare_128 (by decide) ?_
      exact JT_sub [1, 2, 3, 4, 0] rfl h
    · have h := h.2 hc15
      refine JT_aload_n (q := 0) dX7_prepare_71 rfl rfl ?_
      refine JT_iload (q := 4) dX7_prepare_72 rfl ?_
      refine JS_callVI (M' := MX7_mayBeIn) (d' := 2) (As := [.int a4]) (rest := []) dX7_prepare_74 cvX7_50 okX7_mayBeIn rfl (Nat.le_of_ble_eq_true rfl) BS_218 (Nat.le_of_ble_eq_true rfl) (Nat.le_of_ble_eq_true rfl) hci_7 (Nat.le_of_ble_eq_true rfl) (Nat.le_of_ble_eq_true rfl) h (fun x6 s5 h => ?_)
      refine JT_if_eq (tgt := 125) dX7_prepare_77 (by decide) (fun hc14 => ?_) (fun hc14 => ?_)
      · have h := h.1 hc14
        refine JT_iinc (q := 4) (v := (a4 + 1)) (lv' := [(4, .int (a4 + 1)), (0, .ref 218), (1, .ref L1), (2, .int a2), (3, .int a3)]) dX7_prepare_125 rfl (by rfl) (Nat.le_of_ble_eq_true rfl) rfl ?_
        refine JT_goto (tgt := 45) dX7_prepare_128 (by decide) ?_
        exact JT_sub [1, 2, 3, 4, 0] rfl h
      · have h := h.2 hc14
        refine JT_aload_n (q := 0) dX7_prepare_80 rfl rfl ?_
        refine JS_getR (x := 222) dX7_prepare_81 flX7_21 BS_218 (Nat.le_of_ble_eq_true rfl) (Nat.le_of_ble_eq_true rfl) (Or.inr ⟨_, ct_7_8⟩) RF_218_8 ?_
        refine JT_iload_n (q := 2) dX7_prepare_84 rfl rfl ?_
        refine JT_iload (q := 4) dX7_prepare_85 rfl ?_
        obtain ⟨o7, h⟩ := h
        refine JS_iast dX7_prepare_87 BS_222 (Nat.le_of_ble_eq_true rfl) (Nat.le_of_ble_eq_true rfl) o7 ?_
        refine JT_iinc (q := 2) (v := (a2 + 1)) (lv' := [(2, .int (a2 + 1)), (0, .ref 218), (1, .ref L1), (3, .int a3), (4, .int a4)]) dX7_prepare_88 rfl (by rfl) (Nat.le_of_ble_eq_true rfl) rfl ?_
        refine JT_aload_n (q := 1) dX7_prepare_91 rfl rfl ?_
        refine JS_getR (x := 221) dX7_prepare_92 flX7_18 BS_218 (Nat.le_of_ble_eq_true rfl) (Nat.le_of_ble_eq_true rfl) (Or.inr ⟨_, ct_7_6⟩) RF_218_6 ?_
        refine JT_iload (q := 4) dX7_prepare_95 rfl ?_
        refine JT_aload_n (q := 1) dX7_prepare_97 rfl rfl ?_
        obtain ⟨Lx8, Px8, hrx8, hLx8, h⟩ := h
        refine JS_getR dX7_prepare_98 flX7_40 BS_218 (Nat.le_of_ble_eq_true rfl) (Nat.le_of_ble_eq_true rfl) (Or.inl ⟨_, ct_7_4⟩) (RF_218_4.trans hrx8) ?_
        refine JT_iload (q := 4) dX7_prepare_101 rfl ?_
        refine JS_callVI (M' := MX4_freedBy) (d' := 2) (As := [.int a4]) (rest := [.int a4, .ref 221]) dX7_prepare_103 cvX7_88 okX4_freedBy rfl (Nat.le_of_ble_eq_true rfl) (lxB hLx8) (lx2 hLx8) (lxN hLx8) hci_4 (Nat.le_of_ble_eq_true rfl) (Nat.le_of_ble_eq_true rfl) h (fun x10 s9 h => ?_)
        obtain ⟨o11, h⟩ := h
        refine JS_iast dX7_prepare_106 BS_221 (Nat.le_of_ble_eq_true rfl) (Nat.le_of_ble_eq_true rfl) o11 ?_
        refine JT_aload_n (q := 1) dX7_prepare_107 rfl rfl ?_
        refine JT_aload_n (q := 1) dX7_prepare_108 rfl rfl ?_
        refine JS_getI dX7_prepare_109 flX7_85 BS_218 (Nat.le_of_ble_eq_true rfl) (Nat.le_of_ble_eq_true rfl) (Or.inl ct_7_7) ?_
        refine JT_aload_n (q := 1) dX7_prepare_112 rfl rfl ?_
        refine JS_getR (x := 221) dX7_prepare_113 flX7_18 BS_218 (Nat.le_of_ble_eq_true rfl) (Nat.le_of_ble_eq_true rfl) (Or.inr ⟨_, ct_7_6⟩) RF_218_6 ?_
        refine JT_iload (q := 4) dX7_prepare_116 rfl ?_
        obtain ⟨o12, h⟩ := h
        refine JS_iald dX7_prepare_118 BS_221 (Nat.le_of_ble_eq_true rfl) (Nat.le_of_ble_eq_true rfl) o12 ?_
        refine JT_mmax (d2 := 2) dX7_prepare_119 mlX7_92 (Nat.le_of_ble_eq_true rfl) rfl ?_
        refine JS_putI dX7_prepare_122 flX7_85 BS_218 (Nat.le_of_ble_eq_true rfl) (Nat.le_of_ble_eq_true rfl) ct_7_7 ?_
        obtain ⟨s13, hs13⟩ : ∃ z, z = (pI (pI s9 221 (a4).toNatClampNeg x10) 218 7 (if (gI (pI s9 221 (a4).toNatClampNeg x10) 218 7) < (gI (pI s9 221 (a4).toNatClampNeg x10) 221 (a4).toNatClampNeg) then (gI (pI s9 221 (a4).toNatClampNeg x10) 221 (a4).toNatClampNeg) else (gI (pI s9 221 (a4).toNatClampNeg x10) 218 7))) := ⟨_, rfl⟩
        replace h := h s13 hs13
        rw [← hs13]
        refine JT_iinc (q := 4) (v := (a4 + 1)) (lv' := [(4, .int (a4 + 1)), (2, .int (a2 + 1)), (0, .ref 218), (1, .ref L1), (3, .int a3)]) dX7_prepare_125 rfl (by rfl) (Nat.le_of_ble_eq_true rfl) rfl ?_
        refine JT_goto (tgt := 45) dX7_prepare_128 (by decide) ?_
        exact JT_sub [2, 3, 1, 4, 0] rfl h
set_option maxRecDepth 20000 in
theorem bX7_prepare {L1 P1 : Nat} (hL1 : (L1, P1) ∈ LX) {s : SM} {Q : SM → Prop} (h : BV MX7_prepare 3 29 [(0, .ref 218), (1, .ref L1), (2, .int (0 : Int32)), (3, .int (0 : Int32))] (pI (pI (pI (pI (pD s 0 L1) 218 1 (0 : Int32)) 218 2 (-1 : Int32)) 218 3 (0 : Int32)) 218 7 (0 : Int32)) Q) : KV MX7_prepare 3 [.ref 218, .ref L1] s Q := by
  show BV MX7_prepare 3 0 [(0, .ref 218), (1, .ref L1)] s Q
  refine JT_aload_n (q := 0) dX7_prepare_0 rfl rfl ?_
  refine JT_aload_n (q := 1) dX7_prepare_1 rfl rfl ?_
  refine JS_putD (kk := 0) dX7_prepare_2 flX7_40 BS_218 (Nat.le_of_ble_eq_true rfl) (Nat.le_of_ble_eq_true rfl) (Or.inl ⟨_, ct_7_4⟩) rfl ?_
  refine JT_aload_n (q := 0) dX7_prepare_5 rfl rfl ?_
  refine JT_iconst (v := 0) dX7_prepare_6 ic_0 ?_
  refine JS_putI dX7_prepare_7 flX7_61 BS_218 (Nat.le_of_ble_eq_true rfl) (Nat.le_of_ble_eq_true rfl) ct_7_1 ?_
  refine JT_aload_n (q := 0) dX7_prepare_10 rfl rfl ?_
  refine JT_iconst (v := -1) dX7_prepare_11 ic_m1 ?_
  refine JS_putI dX7_prepare_12 flX7_79 BS_218 (Nat.le_of_ble_eq_true rfl) (Nat.le_of_ble_eq_true rfl) ct_7_2 ?_
  refine JT_aload_n (q := 0) dX7_prepare_15 rfl rfl ?_
  refine JT_iconst (v := 0) dX7_prepare_16 ic_0 ?_
  refine JS_putI dX7_prepare_17 flX7_82 BS_218 (Nat.le_of_ble_eq_true rfl) (Nat.le_of_ble_eq_true rfl) ct_7_3 ?_
  refine JT_aload_n (q := 0) dX7_prepare_20 rfl rfl ?_
  refine JT_iconst (v := 0) dX7_prepare_21 ic_0 ?_
  refine JS_putI dX7_prepare_22 flX7_85 BS_218 (Nat.le_of_ble_eq_true rfl) (Nat.le_of_ble_eq_true rfl) ct_7_7 ?_
  refine JT_iconst (v := 0) dX7_prepare_25 ic_0 ?_
  refine JT_istore_n (lv' := [(2, .int (0 : Int32)), (0, .ref 218), (1, .ref L1)]) dX7_prepare_26 rfl (Nat.le_of_ble_eq_true rfl) rfl ?_
  refine JT_iconst (v := 0) dX7_prepare_27 ic_0 ?_
  refine JT_istore_n (lv' := [(3, .int (0 : Int32)), (2, .int (0 : Int32)), (0, .ref 218), (1, .ref L1)]) dX7_prepare_28 rfl (Nat.le_of_ble_eq_true rfl) rfl ?_
  exact JT_sub [2, 3, 1, 0] rfl h
set_option maxRecDepth 20000 in
theorem bX8_payments_4 {L1 P1 : Nat} (hL1 : (L1, P1) ∈ LX) (a2 : Int32) (a3 : Int32) {s : SM} {Q : Int32 → SM → Prop} (h : (((gI s P1 6) ≤ a3 → BI MX8_payments 3 46 [(0, .ref 240), (1, .ref L1), (2, .int a2), (3, .int (1 : Int32))] s Q) ∧ (¬ (gI s P1 6) ≤ a3 → KI MX4_netOf 2 [.ref L1, .int a3] s (fun x2 s1 => ((x2 = 0 → BI MX8_payments 3 4 [(0, .ref 240), (1, .ref L1), (2, .int a2), (3, .int (a3 + 1))] s1 Q) ∧ (¬ x2 = 0 → vp_in a2 9 ∧ BI MX8_payments 3 4 [(0, .ref 240), (1, .ref L1), (2, .int (a2 + 1)), (3, .int (a3 + 1))] (pI s1 241 (a2).toNatClampNeg x2) Q)))))) : BI MX8_payments 3 4 [(0, .ref 240), (1, .ref L1), (2, .int a2), (3, .int a3)] s Q := by
  refine JT_iload_n (q := 3) dX8_payments_4 rfl rfl ?_
  refine JT_aload_n (q := 1) dX8_payments_5 rfl rfl ?_
  refine JS_getR (x := P1) dX8_payments_6 flX8_21 (lxB hL1) (lx2 hL1) (lxN hL1) (Or.inl ⟨_, ct_4_8⟩) (lxR8 hL1) ?_
  refine JS_getI dX8_payments_9 flX8_27 (pxB (lxP hL1)) (px2 (lxP hL1)) (pxN (lxP hL1)) (Or.inl ct_6_6) ?_
  refine JT_icmp_ge (tgt := 44) dX8_payments_12 (by decide) (fun hc5 => ?_) (fun hc5 => ?_)
  · have h := h.1 hc5
    refine JT_iconst (v := 1) dX8_payments_44 ic_1 ?_
    refine JT_istore_n (lv' := [(3, .int (1 : Int32)), (0, .ref 240), (1, .ref L1), (2, .int a2)]) dX8_payments_45 rfl (Nat.le_of_ble_eq_true rfl) rfl ?_
    exact JT_sub [1, 2, 3, 0] rfl h
  · have h := h.2 hc5
    refine JT_aload_n (q := 1) dX8_payments_15 rfl rfl ?_
    refine JT_iload_n (q := 3) dX8_payments_16 rfl rfl ?_
    refine JS_callVI (M' := MX4_netOf) (d' := 2) (As := [.int a3]) (rest := []) dX8_payments_17 cvX8_33 okX4_netOf rfl (Nat.le_of_ble_eq_true rfl) (lxB hL1) (lx2 hL1) (lxN hL1) hci_4 (Nat.le_of_ble_eq_true rfl) (Nat.le_of_ble_eq_true rfl) h (fun x2 s1 h => ?_)
    refine JT_istore (lv' := [(4, .int x2), (0, .ref 240), (1, .ref L1), (2, .int a2), (3, .int a3)]) dX8_payments_20 (Nat.le_of_ble_eq_true rfl) rfl ?_
    refine JT_iload (q := 0) dX8_payments_22 rfl ?_
    refine JT_if_eq (tgt := 38) dX8_payments_24 (by decide) (fun hc4 => ?_) (fun hc4 => ?_)
    · have h := h.1 hc4
      refine JT_iinc (q := 4) (v := (a3 + 1)) (lv' := [(3, .int (a3 + 1)), (4, .int x2), (0, .ref 240), (1, .ref L1), (2, .int a2)]) dX8_payments_38 rfl (by rfl) (Nat.le_of_ble_eq_true rfl) rfl ?_
      refine JT_goto (tgt := 4) dX8_payments_41 (by decide) ?_
      exact JT_sub [2, 3, 4, 0] rfl h
    · have h := h.2 hc4
      refine JT_aload_n (q := 1) dX8_payments_27 rfl rfl ?_
      refine JS_getR (x := 241) dX8_payments_28 flX8_9 BS_240 (Nat.le_of_ble_eq_true rfl) (Nat.le_of_ble_eq_true rfl) (Or.inr ⟨_, ct_8_0⟩) RF_240_0 ?_
      refine JT_iload_n (q := 3) dX8_payments_31 rfl rfl ?_
      refine JT_iload (q := 0) dX8_payments_32 rfl ?_
      obtain ⟨o3, h⟩ := h
      refine JS_iast dX8_payments_34 BS_241 (Nat.le_of_ble_eq_true rfl) (Nat.le_of_ble_eq_true rfl) o3 ?_
      refine JT_iinc (q := 3) (v := (a2 + 1)) (lv' := [(2, .int (a2 + 1)), (4, .int x2), (0, .ref 240), (1, .ref L1), (3, .int a3)]) dX8_payments_35 rfl (by rfl) (Nat.le_of_ble_eq_true rfl) rfl ?_
      refine JT_iinc (q := 4) (v := (a3 + 1)) (lv' := [(3, .int (a3 + 1)), (2, .int (a2 + 1)), (4, .int x2), (0, .ref 240), (1, .ref L1)]) dX8_payments_38 rfl (by rfl) (Nat.le_of_ble_eq_true rfl) rfl ?_
      refine JT_goto (tgt := 4) dX8_payments_41 (by decide) ?_
      exact JT_sub [3, 4, 1, 0] rfl h
set_option maxRecDepth 20000 in
theorem bX8_payments_46 {L1 P1 : Nat} (hL1 : (L1, P1) ∈ LX) (a2 : Int32) (a3 : Int32) {s : SM} {Q : Int32 → SM → Prop} (h : ((((1 : Int32) <<< (a2 &&& 31)) ≤ a3 → vp_in (((1 : Int32) <<< (a2 &&& 31)) - (1 : Int32)) 512 ∧ Q (a2 - (gI s 243 ((((1 : Int32) <<< (a2 &&& 31)) - (1 : Int32))).toNatClampNeg)) s) ∧ (¬ ((1 : Int32) <<< (a2 &&& 31)) ≤ a3 → (((512 : Int32) ≤ a3 → vp_in (((1 : Int32) <<< (a2 &&& 31)) - (1 : Int32)) 512 ∧ Q (a2 - (gI s 243 ((((1 : Int32) <<< (a2 &&& 31)) - (1 : Int32))).toNatClampNeg)) s) ∧ (¬ (512 : Int32) ≤ a3 → vp_in a3 512 ∧ vp_in a3 512 ∧ BI MX8_payments 3 77 [(0, .ref 240), (1, .ref L1), (2, .int a2), (3, .int a3), (4, .int (0 : Int32))] (pI (pI s 242 (a3).toNatClampNeg (0 : Int32)) 243 (a3).toNatClampNeg (0 : Int32)) Q))))) : BI MX8_payments 3 46 [(0, .ref 240), (1, .ref L1), (2, .int a2), (3, .int a3)] s Q := by
  refine JT_iload_n (q := 3) dX8_payments_46 rfl rfl ?_
  refine JT_iconst (v := 1) dX8_payments_47 ic_1 ?_
  refine JT_iload_n (q := 2) dX8_payments_48 rfl rfl ?_
  refine JT_ishl dX8_payments_49 ?_
  refine JT_icmp_ge (tgt := 178) dX8_payments_50 (by decide) (fun hc6 => ?_) (fun hc6 => ?_)
  · have h := h.1 hc6
    refine JT_iload_n (q := 2) dX8_payments_178 rfl rfl ?_
    refine JT_aload_n (q := 0) dX8_payments_179 rfl rfl ?_
    refine JS_getR (x := 243) dX8_payments_180 flX8_18 BS_240 (Nat.le_of_ble_eq_true rfl) (Nat.le_of_ble_eq_true rfl) (Or.inr ⟨_, ct_8_2⟩) RF_240_2 ?_
    refine JT_iconst (v := 1) dX8_payments_183 ic_1 ?_
    refine JT_iload_n (q := 2) dX8_payments_184 rfl rfl ?_
    refine JT_ishl dX8_payments_185 ?_
    refine JT_iconst (v := 1) dX8_payments_186 ic_1 ?_
    refine JT_isub dX8_payments_187 ?_
    obtain ⟨o1, h⟩ := h
    refine JS_iald dX8_payments_188 BS_243 (Nat.le_of_ble_eq_true rfl) (Nat.le_of_ble_eq_true rfl) o1 ?_
    refine JT_isub dX8_payments_189 ?_
    exact JS_iret dX8_payments_190 rfl rfl h
  · have h := h.2 hc6
    refine JT_iload_n (q := 3) dX8_payments_53 rfl rfl ?_
    refine JT_sipush (v := 512) dX8_payments_54 sp_512 ?_
    refine JT_icmp_ge (tgt := 178) dX8_payments_57 (by decide) (fun hc5 => ?_) (fun hc5 => ?_)
    · have h := h.1 hc5
      refine JT_iload_n (q := 2) dX8_payments_178 rfl rfl ?_
      refine JT_aload_n (q := 0) dX8_payments_179 rfl rfl ?_
      refine JS_getR (x := 243) dX8_payments_180 flX8_18 BS_240 (Nat.le_of_ble_eq_true rfl) (Nat.le_of_ble_eq_true rfl) (Or.inr ⟨_, ct_8_2⟩) RF_240_2 ?_
      refine JT_iconst (v := 1) dX8_payments_183 ic_1 ?_
      refine JT_iload_n (q := 2) dX8_payments_184 rfl rfl ?_
      refine JT_ishl dX8_payments_185 ?_
      refine JT_iconst (v := 1) dX8_payments_186 ic_1 ?_
      refine JT_isub dX8_payments_187 ?_
      obtain ⟨o2, h⟩ := h
      refine JS_iald dX8_payments_188 BS_243 (Nat.le_of_ble_eq_true rfl) (Nat.le_of_ble_eq_true rfl) o2 ?_
      refine JT_isub dX8_payments_189 ?_
      exact JS_iret dX8_payments_190 rfl rfl h
    · have h := h.2 hc5
      refine JT_aload_n (q := 0) dX8_payments_60 rfl rfl ?_
      refine JS_getR (x := 242) dX8_payments_61 flX8_15 BS_240 (Nat.le_of_ble_eq_true rfl) (Nat.le_of_ble_eq_true rfl) (Or.inr ⟨_, ct_8_1⟩) RF_240_1 ?_
      refine JT_iload_n (q := 3) dX8_payments_64 rfl rfl ?_
      refine JT_iconst (v := 0) dX8_payments_65 ic_0 ?_
      obtain ⟨o3, h⟩ := h
      refine JS_iast dX8_payments_66 BS_242 (Nat.le_of_ble_eq_true rfl) (Nat.le_of_ble_eq_true rfl) o3 ?_
      refine JT_aload_n (q := 0) dX8_payments_67 rfl rfl ?_
      refine JS_getR (x := 243) dX8_payments_68 flX8_18 BS_240 (Nat.le_of_ble_eq_true rfl) (Nat.le_of_ble_eq_true rfl) (Or.inr ⟨_, ct_8_2⟩) RF_240_2 ?_
      refine JT_iload_n (q := 3) dX8_payments_71 rfl rfl ?_
      refine JT_iconst (v := 0) dX8_payments_72 ic_0 ?_
      obtain ⟨o4, h⟩ := h
      refine JS_iast dX8_payments_73 BS_243 (Nat.le_of_ble_eq_true rfl) (Nat.le_of_ble_eq_true rfl) o4 ?_
      refine JT_iconst (v := 0) dX8_payments_74 ic_0 ?_
      refine JT_istore (lv' := [(4, .int (0 : Int32)), (0, .ref 240), (1, .ref L1), (2, .int a2), (3, .int a3)]) dX8_payments_75 (Nat.le_of_ble_eq_true rfl) rfl ?_
      exact JT_sub [1, 2, 3, 4, 0] rfl h
set_option maxRecDepth 20000 in
theorem bX8_payments_77 {L1 P1 : Nat} (hL1 : (L1, P1) ∈ LX) (a2 : Int32) (a3 : Int32) (a4 : Int32) {s : SM} {Q : Int32 → SM → Prop} (h : ((a2 ≤ a4 → vp_in a3 512 ∧ vp_in a3 512 ∧ vp_in a3 512 ∧ (∀ s4, s4 = (pI s 243 (a3).toNatClampNeg ((gI s 243 (a3).toNatClampNeg) + (if (gI s 242 (a3).toNatClampNeg) = 0 then (1 : Int32) else (0 : Int32)))) → BI MX8_payments 3 46 [(0, .ref 240), (1, .ref L1), (2, .int a2), (3, .int (a3 + 1))] s4 Q)) ∧ (¬ a2 ≤ a4 → (((vX11_isIn s a4 a3) = 0 → BI MX8_payments 3 77 [(0, .ref 240), (1, .ref L1), (2, .int a2), (3, .int a3), (4, .int (a4 + 1))] s Q) ∧ (¬ (vX11_isIn s a4 a3) = 0 → vp_in (a3 ^^^ ((1 : Int32) <<< (a4 &&& 31))) 512 ∧ vp_in a4 9 ∧ vp_in a3 512 ∧ (∀ s10, s10 = (pI s 242 (a3).toNatClampNeg ((gI s 242 ((a3 ^^^ ((1 : Int32) <<< (a4 &&& 31)))).toNatClampNeg) + (gI s 241 (a4).toNatClampNeg))) → vp_in a3 512 ∧ vp_in (a3 ^^^ ((1 : Int32) <<< (a4 &&& 31))) 512 ∧ vp_in a3 512 ∧ (∀ s14, s14 = (pI s10 243 (a3).toNatClampNeg (if (gI s10 243 (a3).toNatClampNeg) < (gI s10 243 ((a3 ^^^ ((1 : Int32) <<< (a4 &&& 31)))).toNatClampNeg) then (gI s10 243 ((a3 ^^^ ((1 : Int32) <<< (a4 &&& 31)))).toNatClampNeg) else (gI s10 243 (a3).toNatClampNeg))) → BI MX8_payments 3 77 [(0, .ref 240), (1, .ref L1), (2, .int a2), (3, .int a3), (4, .int (a4 + 1))] s14 Q))))))) : BI MX8_payments 3 77 [(0, .ref 240), (1, .ref L1), (2, .int a2), (3, .int a3), (4, .int a4)] s Q := by
  refine JT_iload (q := 4) dX8_payments_77 rfl ?_
  refine JT_iload_n (q := 2) dX8_payments_79 rfl rfl ?_
  refine JT_icmp_ge (tgt := 149) dX8_payments_80 (by decide) (fun hc17 => ?_) (fun hc17 => ?_)
  · have h := h.1 hc17
    refine JT_aload_n (q := 0) dX8_payments_149 rfl rfl ?_
    refine JS_getR (x := 243) dX8_payments_150 flX8_18 BS_240 (Nat.le_of_ble_eq_true rfl) (Nat.le_of_ble_eq_true rfl) (Or.inr ⟨_, ct_8_2⟩) RF_240_2 ?_
    refine JT_iload_n (q := 3) dX8_payments_153 rfl rfl ?_
    refine JT_dup2 dX8_payments_154 rfl rfl ?_
    obtain ⟨o1, h⟩ := h
    refine JS_iald dX8_payments_155 BS_243 (Nat.le_of_ble_eq_true rfl) (Nat.le_of_ble_eq_true rfl) o1 ?_
    refine JT_aload_n (q := 0) dX8_payments_156 rfl rfl ?_
    refine JS_getR (x := 242) dX8_payments_157 flX8_15 BS_240 (Nat.le_of_ble_eq_true rfl) (Nat.le_of_ble_eq_true rfl) (Or.inr ⟨_, ct_8_1⟩) RF_240_1 ?_
    refine JT_iload_n (q := 3) dX8_payments_160 rfl rfl ?_
    obtain ⟨o2, h⟩ := h
    refine JS_iald dX8_payments_161 BS_242 (Nat.le_of_ble_eq_true rfl) (Nat.le_of_ble_eq_true rfl) o2 ?_
    have hj5 : ∀ v : Int32, v = (if (gI s 242 (a3).toNatClampNeg) = 0 then (1 : Int32) else (0 : Int32)) → JT MX8_payments 3 0 0 170 [(0, .ref 240), (1, .ref L1), (2, .int a2), (3, .int a3), (4, .int a4)] [.int v, .int (gI s 243 (a3).toNatClampNeg), .int a3, .ref 243] (std s) (KQ Q) := by
      intro v hv
      subst hv
      refine JT_iadd dX8_payments_170 ?_
      obtain ⟨o3, h⟩ := h
      refine JS_iast dX8_payments_171 BS_243 (Nat.le_of_ble_eq_true rfl) (Nat.le_of_ble_eq_true rfl) o3 ?_
      obtain ⟨s4, hs4⟩ : ∃ z, z = (pI s 243 (a3).toNatClampNeg ((gI s 243 (a3).toNatClampNeg) + (if (gI s 242 (a3).toNatClampNeg) = 0 then (1 : Int32) else (0 : Int32)))) := ⟨_, rfl⟩
      replace h := h s4 hs4
      rw [← hs4]
      refine JT_iinc (q := 3) (v := (a3 + 1)) (lv' := [(3, .int (a3 + 1)), (0, .ref 240), (1, .ref L1), (2, .int a2), (4, .int a4)]) dX8_payments_172 rfl (by rfl) (Nat.le_of_ble_eq_true rfl) rfl ?_
      refine JT_goto (tgt := 46) dX8_payments_175 (by decide) ?_
      exact JT_sub [1, 2, 3, 0] rfl h
    refine JT_if_ne (tgt := 169) dX8_payments_162 (by decide) (fun hc6 => ?_) (fun hc6 => ?_)
    · refine JT_iconst (v := 0) dX8_payments_169 ic_0 ?_
      exact hj5 _ (by rw [if_neg hc6])
    · refine JT_iconst (v := 1) dX8_payments_165 ic_1 ?_
      refine JT_goto (tgt := 170) dX8_payments_166 (by decide) ?_
      exact hj5 _ (by rw [if_pos hc6])
  · have h := h.2 hc17
    refine JT_iload (q := 4) dX8_payments_83 rfl ?_
    refine JT_iload_n (q := 3) dX8_payments_85 rfl rfl ?_
    refine JS_callSNI (M' := MX11_isIn) (d' := 0) (As := [.int a4, .int a3]) (rest := []) (P := (fun zv9 wm9 => (vX11_isIn s a4 a3) = zv9 ∧ s = wm9)) dX8_payments_86 cvX8_37 okX11_isIn rfl (Nat.le_of_ble_eq_true rfl) (Nat.le_of_ble_eq_true rfl) (Nat.le_of_ble_eq_true rfl) (pX11_isIn  (a4) (a3)  ⟨rfl, rfl⟩) (fun zv9 wm9 hq9 => ?_)
    obtain ⟨rfl, rfl⟩ := hq9
    refine JT_if_eq (tgt := 143) dX8_payments_89 (by decide) (fun hc15 => ?_) (fun hc15 => ?_)
    · have h := h.1 hc15
      refine JT_iinc (q := 4) (v := (a4 + 1)) (lv' := [(4, .int (a4 + 1)), (0, .ref 240), (1, .ref L1), (2, .int a2), (3, .int a3)]) dX8_payments_143 rfl (by rfl) (Nat.le_of_ble_eq_true rfl) rfl ?_
      refine JT_goto (tgt := 77) dX8_payments_146 (by decide) ?_
      exact JT_sub [1, 2, 3, 4, 0] rfl h
    · have h := h.2 hc15
      refine JT_iload_n (q := 3) dX8_payments_92 rfl rfl ?_
      refine JT_iconst (v := 1) dX8_payments_93 ic_1 ?_
      refine JT_iload (q := 4) dX8_payments_94 rfl ?_
      refine JT_ishl dX8_payments_96 ?_
      refine JT_ixor dX8_payments_97 ?_
      refine JT_istore (lv' := [(5, .int (a3 ^^^ ((1 : Int32) <<< (a4 &&& 31)))), (0, .ref 240), (1, .ref L1), (2, .int a2), (3, .int a3), (4, .int a4)]) dX8_payments_98 (Nat.le_of_ble_eq_true rfl) rfl ?_
      refine JT_aload_n (q := 1) dX8_payments_100 rfl rfl ?_
      refine JS_getR (x := 242) dX8_payments_101 flX8_15 BS_240 (Nat.le_of_ble_eq_true rfl) (Nat.le_of_ble_eq_true rfl) (Or.inr ⟨_, ct_8_1⟩) RF_240_1 ?_
      refine JT_iload_n (q := 4) dX8_payments_104 rfl rfl ?_
      refine JT_aload_n (q := 1) dX8_payments_105 rfl rfl ?_
      refine JS_getR (x := 242) dX8_payments_106 flX8_15 BS_240 (Nat.le_of_ble_eq_true rfl) (Nat.le_of_ble_eq_true rfl) (Or.inr ⟨_, ct_8_1⟩) RF_240_1 ?_
      refine JT_iload (q := 0) dX8_payments_109 rfl ?_
      obtain ⟨o7, h⟩ := h
      refine JS_iald dX8_payments_111 BS_242 (Nat.le_of_ble_eq_true rfl) (Nat.le_of_ble_eq_true rfl) o7 ?_
      refine JT_aload_n (q := 1) dX8_payments_112 rfl rfl ?_
      refine JS_getR (x := 241) dX8_payments_113 flX8_9 BS_240 (Nat.le_of_ble_eq_true rfl) (Nat.le_of_ble_eq_true rfl) (Or.inr ⟨_, ct_8_0⟩) RF_240_0 ?_
      refine JT_iload (q := 5) dX8_payments_116 rfl ?_
      obtain ⟨o8, h⟩ := h
      refine JS_iald dX8_payments_118 BS_241 (Nat.le_of_ble_eq_true rfl) (Nat.le_of_ble_eq_true rfl) o8 ?_
      refine JT_iadd dX8_payments_119 ?_
      obtain ⟨o9, h⟩ := h
      refine JS_iast dX8_payments_120 BS_242 (Nat.le_of_ble_eq_true rfl) (Nat.le_of_ble_eq_true rfl) o9 ?_
      obtain ⟨s10, hs10⟩ : ∃ z, z = (pI s 242 (a3).toNatClampNeg ((gI s 242 ((a3 ^^^ ((1 : Int32) <<< (a4 &&& 31)))).toNatClampNeg) + (gI s 241 (a4).toNatClampNeg))) := ⟨_, rfl⟩
      replace h := h s10 hs10
      rw [← hs10]
      refine JT_aload_n (q := 1) dX8_payments_121 rfl rfl ?_
      refine JS_getR (x := 243) dX8_payments_122 flX8_18 BS_240 (Nat.le_of_ble_eq_true rfl) (Nat.le_of_ble_eq_true rfl) (Or.inr ⟨_, ct_8_2⟩) RF_240_2 ?_
      refine JT_iload_n (q := 4) dX8_payments_125 rfl rfl ?_
      refine JT_aload_n (q := 1) dX8_payments_126 rfl rfl ?_
      refine JS_getR (x := 243) dX8_payments_127 flX8_18 BS_240 (Nat.le_of_ble_eq_true rfl) (Nat.le_of_ble_eq_true rfl) (Or.inr ⟨_, ct_8_2⟩) RF_240_2 ?_
      refine JT_iload_n (q := 4) dX8_payments_130 rfl rfl ?_
      obtain ⟨o11, h⟩ := h
      refine JS_iald dX8_payments_131 BS_243 (Nat.le_of_ble_eq_true rfl) (Nat.le_of_ble_eq_true rfl) o11 ?_
      refine JT_aload_n (q := 1) dX8_payments_132 rfl rfl ?_
      refine JS_getR (x := 243) dX8_payments_133 flX8_18 BS_240 (Nat.le_of_ble_eq_true rfl) (Nat.le_of_ble_eq_true rfl) (Or.inr ⟨_, ct_8_2⟩) RF_240_2 ?_
      refine JT_iload (q := 0) dX8_payments_136 rfl ?_
      obtain ⟨o12, h⟩ := h
      refine JS_iald dX8_payments_138 BS_243 (Nat.le_of_ble_eq_true rfl) (Nat.le_of_ble_eq_true rfl) o12 ?_
      refine JT_mmax (d2 := 2) dX8_payments_139 mlX8_41 (Nat.le_of_ble_eq_true rfl) rfl ?_
      obtain ⟨o13, h⟩ := h
      refine JS_iast dX8_payments_142 BS_243 (Nat.le_of_ble_eq_true rfl) (Nat.le_of_ble_eq_true rfl) o13 ?_
      obtain ⟨s14, hs14⟩ : ∃ z, z = (pI s10 243 (a3).toNatClampNeg (if (gI s10 243 (a3).toNatClampNeg) < (gI s10 243 ((a3 ^^^ ((1 : Int32) <<< (a4 &&& 31)))).toNatClampNeg) then (gI s10 243 ((a3 ^^^ ((1 : Int32) <<< (a4 &&& 31)))).toNatClampNeg) else (gI s10 243 (a3).toNatClampNeg))) := ⟨_, rfl⟩
      replace h := h s14 hs14
      rw [← hs14]
      refine JT_iinc (q := 5) (v := (a4 + 1)) (lv' := [(4, .int (a4 + 1)), (5, .int (a3 ^^^ ((1 : Int32) <<< (a4 &&& 31)))), (0, .ref 240), (1, .ref L1), (2, .int a2), (3, .int a3)]) dX8_payments_143 rfl (by rfl) (Nat.le_of_ble_eq_true rfl) rfl ?_
      refine JT_goto (tgt := 77) dX8_payments_146 (by decide) ?_
      exact JT_sub [2, 3, 4, 5, 0] rfl h
set_option maxRecDepth 20000 in
theorem bX8_payments {L1 P1 : Nat} (hL1 : (L1, P1) ∈ LX) {s : SM} {Q : Int32 → SM → Prop} (h : BI MX8_payments 3 4 [(0, .ref 240), (1, .ref L1), (2, .int (0 : Int32)), (3, .int (0 : Int32))] s Q) : KI MX8_payments 3 [.ref 240, .ref L1] s Q := by
  show BI MX8_payments 3 0 [(0, .ref 240), (1, .ref L1)] s Q
  refine JT_iconst (v := 0) dX8_payments_0 ic_0 ?_
  refine JT_istore_n (lv' := [(2, .int (0 : Int32)), (0, .ref 240), (1, .ref L1)]) dX8_payments_1 rfl (Nat.le_of_ble_eq_true rfl) rfl ?_
  refine JT_iconst (v := 0) dX8_payments_2 ic_0 ?_
  refine JT_istore_n (lv' := [(3, .int (0 : Int32)), (2, .int (0 : Int32)), (0, .ref 240), (1, .ref L1)]) dX8_payments_3 rfl (Nat.le_of_ble_eq_true rfl) rfl ?_
  exact JT_sub [2, 3, 1, 0] rfl h
set_option maxRecDepth 20000 in
theorem bX9_takeBody {p1 : Nat} (hp1 : p1 ∈ PX) {s : SM} {Q : Int32 → SM → Prop} (h : KV MX9_nextToken 2 [.ref 3] s (fun s1 => KI MX9_isName 0 [.ref 3] s1 (fun x4 s3 => ((¬ x4 = 0 → KI MX6_bodyNamed 0 [.ref p1, .long (gL s3 3 4)] s3 (fun x6 s5 => ((¬ (gI (pI s5 3 6 x6) 3 6) = (-1 : Int32) → Q (1 : Int32) (pI s5 3 6 x6)) ∧ ((gI (pI s5 3 6 x6) 3 6) = (-1 : Int32) → Q (if (vX9_refuse (pI s5 3 6 x6) (3 : Int32)) = 0 then (0 : Int32) else (1 : Int32)) (mX9_refuse (pI s5 3 6 x6) (3 : Int32)))))) ∧ (x4 = 0 → Q (vX9_refuse s3 (1 : Int32)) (mX9_refuse s3 (1 : Int32))))))) : KI MX9_takeBody 3 [.ref 3, .ref p1] s Q := by
  show BI MX9_takeBody 3 0 [(0, .ref 3), (1, .ref p1)] s Q
  refine JT_aload_n (q := 0) dX9_takeBody_0 rfl rfl ?_
  refine JS_callVV (M' := MX9_nextToken) (d' := 2) (As := []) (rest := []) dX9_takeBody_1 cvX9_70 okX9_nextToken rfl (Nat.le_of_ble_eq_true rfl) BS_3 (Nat.le_of_ble_eq_true rfl) (Nat.le_of_ble_eq_true rfl) hci_9 (Nat.le_of_ble_eq_true rfl) (Nat.le_of_ble_eq_true rfl) h (fun s1 h => ?_)
  refine JT_aload_n (q := 0) dX9_takeBody_4 rfl rfl ?_
  refine JS_callVI (M' := MX9_isName) (d' := 0) (As := []) (rest := []) dX9_takeBody_5 cvX9_73 okX9_isName rfl (Nat.le_of_ble_eq_true rfl) BS_3 (Nat.le_of_ble_eq_true rfl) (Nat.le_of_ble_eq_true rfl) hci_9 (Nat.le_of_ble_eq_true rfl) (Nat.le_of_ble_eq_true rfl) h (fun x4 s3 h => ?_)
  refine JT_if_ne (tgt := 17) dX9_takeBody_8 (by decide) (fun hc12 => ?_) (fun hc12 => ?_)
  · have h := h.1 hc12
    refine JT_aload_n (q := 0) dX9_takeBody_17 rfl rfl ?_
    refine JT_aload_n (q := 1) dX9_takeBody_18 rfl rfl ?_
    refine JT_aload_n (q := 0) dX9_takeBody_19 rfl rfl ?_
    refine JS_getL dX9_takeBody_20 flX9_56 BS_3 (Nat.le_of_ble_eq_true rfl) (Nat.le_of_ble_eq_true rfl) ct_9_4 ?_
    refine JS_callVI (M' := MX6_bodyNamed) (d' := 0) (As := [.long (gL s3 3 4)]) (rest := [.ref 3]) dX9_takeBody_23 cvX9_77 okX6_bodyNamed rfl (Nat.le_of_ble_eq_true rfl) (pxB hp1) (px2 hp1) (pxN hp1) hci_6 (Nat.le_of_ble_eq_true rfl) (Nat.le_of_ble_eq_true rfl) h (fun x6 s5 h => ?_)
    refine JS_putI dX9_takeBody_26 flX9_86 BS_3 (Nat.le_of_ble_eq_true rfl) (Nat.le_of_ble_eq_true rfl) ct_9_6 ?_
    refine JT_aload_n (q := 0) dX9_takeBody_29 rfl rfl ?_
    refine JS_getI dX9_takeBody_30 flX9_86 BS_3 (Nat.le_of_ble_eq_true rfl) (Nat.le_of_ble_eq_true rfl) (Or.inl ct_9_6) ?_
    refine JT_iconst (v := -1) dX9_takeBody_33 ic_m1 ?_
    refine JT_icmp_ne (tgt := 45) dX9_takeBody_34 (by decide) (fun hc10 => ?_) (fun hc10 => ?_)
    · have h := h.1 hc10
      refine JT_iconst (v := 1) dX9_takeBody_45 ic_1 ?_
      refine JT_goto (tgt := 50) dX9_takeBody_46 (by decide) ?_
      exact JS_iret dX9_takeBody_50 rfl (n01 (Or.inr rfl)) h
    · have h := h.2 hc10
      refine JT_aload_n (q := 0) dX9_takeBody_37 rfl rfl ?_
      refine JT_iconst (v := 3) dX9_takeBody_38 ic_3 ?_
      refine JS_callVI (M' := MX9_refuse) (d' := 0) (As := [.int (3 : Int32)]) (rest := []) (P := (fun zv9 wm9 => (vX9_refuse (pI s5 3 6 x6) (3 : Int32)) = zv9 ∧ (mX9_refuse (pI s5 3 6 x6) (3 : Int32)) = wm9)) dX9_takeBody_39 cvX9_63 okX9_refuse rfl (Nat.le_of_ble_eq_true rfl) BS_3 (Nat.le_of_ble_eq_true rfl) (Nat.le_of_ble_eq_true rfl) hci_9 (Nat.le_of_ble_eq_true rfl) (Nat.le_of_ble_eq_true rfl) (pX9_refuse  ((3 : Int32))  ⟨rfl, rfl⟩) (fun zv9 wm9 hq9 => ?_)
      obtain ⟨rfl, rfl⟩ := hq9
      have hj7 : ∀ v : Int32, v = (if (vX9_refuse (pI s5 3 6 x6) (3 : Int32)) = 0 then (0 : Int32) else (1 : Int32)) → JT MX9_takeBody 3 0 0 50 [(0, .ref 3), (1, .ref p1)] [.int v] (std (mX9_refuse (pI s5 3 6 x6) (3 : Int32))) (KQ Q) := by
        intro v hv
        subst hv
        exact JS_iret dX9_takeBody_50 rfl (n01 (i01 (Or.inl rfl) (Or.inr rfl))) h
      refine JT_if_eq (tgt := 49) dX9_takeBody_42 (by decide) (fun hc8 => ?_) (fun hc8 => ?_)
      · refine JT_iconst (v := 0) dX9_takeBody_49 ic_0 ?_
        exact hj7 _ (by rw [if_pos hc8])
      · refine JT_iconst (v := 1) dX9_takeBody_45 ic_1 ?_
        refine JT_goto (tgt := 50) dX9_takeBody_46 (by decide) ?_
        exact hj7 _ (by rw [if_neg hc8])
  · have h := h.2 hc12
    refine JT_aload_n (q := 0) dX9_takeBody_11 rfl rfl ?_
    refine JT_iconst (v := 1) dX9_takeBody_12 ic_1 ?_
    refine JS_callVI (M' := MX9_refuse) (d' := 0) (As := [.int (1 : Int32)]) (rest := []) (P := (fun zv9 wm9 => (vX9_refuse s3 (1 : Int32)) = zv9 ∧ (mX9_refuse s3 (1 : Int32)) = wm9)) dX9_takeBody_13 cvX9_63 okX9_refuse rfl (Nat.le_of_ble_eq_true rfl) BS_3 (Nat.le_of_ble_eq_true rfl) (Nat.le_of_ble_eq_true rfl) hci_9 (Nat.le_of_ble_eq_true rfl) (Nat.le_of_ble_eq_true rfl) (pX9_refuse  ((1 : Int32))  ⟨rfl, rfl⟩) (fun zv9 wm9 hq9 => ?_)
    obtain ⟨rfl, rfl⟩ := hq9
    exact JS_iret dX9_takeBody_16 rfl (n01 (zX9_refuse s3 (1 : Int32))) h
