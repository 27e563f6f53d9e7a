set_option maxRecDepth 20000 in
theorem bX11_mark_34 (a1 : Int32) (a2 : Int32) (a3 : Int32) (a4 : Int32) {s : SM} {Q : Int32 → SM → Prop} (h : (((gI s 31 9) ≤ a4 → Q (-1 : Int32) s) ∧ (¬ (gI s 31 9) ≤ a4 → BI MX11_mark 1 49 [(0, .ref 2), (1, .int a1), (2, .int a2), (3, .int a3), (4, .int a4), (5, .int (0 : Int32))] s Q))) : BI MX11_mark 1 34 [(0, .ref 2), (1, .int a1), (2, .int a2), (3, .int a3), (4, .int a4)] s Q := by
  refine JT_iload (q := 4) dX11_mark_34 rfl ?_
  refine JT_aload_n (q := 0) dX11_mark_36 rfl rfl ?_
  refine JS_getR (x := 31) dX11_mark_37 flX11_41 BS_2 (Nat.le_of_ble_eq_true rfl) (Nat.le_of_ble_eq_true rfl) (Or.inl ⟨_, ct_11_5⟩) RF_2_5 ?_
  refine JS_getI dX11_mark_40 flX11_162 BS_31 (Nat.le_of_ble_eq_true rfl) (Nat.le_of_ble_eq_true rfl) (Or.inl ct_4_9) ?_
  refine JT_icmp_ge (tgt := 98) dX11_mark_43 (by decide) (fun hc1 => ?_) (fun hc1 => ?_)
  · have h := h.1 hc1
    refine JT_iconst (v := -1) dX11_mark_98 ic_m1 ?_
    exact JS_iret dX11_mark_99 rfl rfl h
  · have h := h.2 hc1
    refine JT_iconst (v := 0) dX11_mark_46 ic_0 ?_
    refine JT_istore (lv' := [(5, .int (0 : Int32)), (0, .ref 2), (1, .int a1), (2, .int a2), (3, .int a3), (4, .int a4)]) dX11_mark_47 (Nat.le_of_ble_eq_true rfl) rfl ?_
    exact JT_sub [1, 2, 3, 4, 5, 0] rfl h
set_option maxRecDepth 20000 in
theorem bX11_mark_49 (a1 : Int32) (a2 : Int32) (a3 : Int32) (a4 : Int32) (a5 : Int32) {s : SM} {Q : Int32 → SM → Prop} (h : (((1 : Int32) < a5 → BI MX11_mark 1 34 [(0, .ref 2), (1, .int a1), (2, .int a2), (3, .int a3), (4, .int (a4 + 1))] s Q) ∧ (¬ (1 : Int32) < a5 → rX4_bearer s 31 5 a4 a5 ∧ ((¬ (vX4_bearer s 31 5 a4 a5) = a1 → BI MX11_mark 1 49 [(0, .ref 2), (1, .int a1), (2, .int a2), (3, .int a3), (4, .int a4), (5, .int (a5 + 1))] s Q) ∧ ((vX4_bearer s 31 5 a4 a5) = a1 → ((¬ a3 = a2 → BI MX11_mark 1 49 [(0, .ref 2), (1, .int a1), (2, .int a2), (3, .int (a3 + 1)), (4, .int a4), (5, .int (a5 + 1))] s Q) ∧ (a3 = a2 → Q (((2 : Int32) * a4) + a5) s))))))) : BI MX11_mark 1 49 [(0, .ref 2), (1, .int a1), (2, .int a2), (3, .int a3), (4, .int a4), (5, .int a5)] s Q := by
  refine JT_iload (q := 5) dX11_mark_49 rfl ?_
  refine JT_iconst (v := 1) dX11_mark_51 ic_1 ?_
  refine JT_icmp_gt (tgt := 92) dX11_mark_52 (by decide) (fun hc4 => ?_) (fun hc4 => ?_)
  · have h := h.1 hc4
    refine JT_iinc (q := 4) (v := (a4 + 1)) (lv' := [(4, .int (a4 + 1)), (0, .ref 2), (1, .int a1), (2, .int a2), (3, .int a3), (5, .int a5)]) dX11_mark_92 rfl (by rfl) (Nat.le_of_ble_eq_true rfl) rfl ?_
    refine JT_goto (tgt := 34) dX11_mark_95 (by decide) ?_
    exact JT_sub [1, 2, 3, 4, 0] rfl h
  · have h := h.2 hc4
    refine JT_aload_n (q := 0) dX11_mark_55 rfl rfl ?_
    refine JS_getR (x := 31) dX11_mark_56 flX11_41 BS_2 (Nat.le_of_ble_eq_true rfl) (Nat.le_of_ble_eq_true rfl) (Or.inl ⟨_, ct_11_5⟩) RF_2_5 ?_
    refine JT_iload (q := 4) dX11_mark_59 rfl ?_
    refine JT_iload (q := 5) dX11_mark_61 rfl ?_
    obtain ⟨o3, h⟩ := h
    refine JS_callVI (M' := MX4_bearer) (d' := 0) (As := [.int a4, .int a5]) (rest := []) (P := (fun zv9 wm9 => (vX4_bearer s 31 5 a4 a5) = zv9 ∧ s = wm9)) dX11_mark_63 cvX11_232 okX4_bearer rfl (Nat.le_of_ble_eq_true rfl) BS_31 (Nat.le_of_ble_eq_true rfl) (Nat.le_of_ble_eq_true rfl) hci_4 (Nat.le_of_ble_eq_true rfl) (Nat.le_of_ble_eq_true rfl) (pX4_bearer hL_31 (a4) (a5) o3 ⟨rfl, rfl⟩) (fun zv9 wm9 hq9 => ?_)
    obtain ⟨rfl, rfl⟩ := hq9
    refine JT_iload_n (q := 1) dX11_mark_66 rfl rfl ?_
    refine JT_icmp_ne (tgt := 86) dX11_mark_67 (by decide) (fun hc2 => ?_) (fun hc2 => ?_)
    · have h := h.1 hc2
      refine JT_iinc (q := 5) (v := (a5 + 1)) (lv' := [(5, .int (a5 + 1)), (0, .ref 2), (1, .int a1), (2, .int a2), (3, .int a3), (4, .int a4)]) dX11_mark_86 rfl (by rfl) (Nat.le_of_ble_eq_true rfl) rfl ?_
      refine JT_goto (tgt := 49) dX11_mark_89 (by decide) ?_
      exact JT_sub [1, 2, 3, 4, 5, 0] rfl h
    · have h := h.2 hc2
      refine JT_iload_n (q := 3) dX11_mark_70 rfl rfl ?_
      refine JT_iload_n (q := 2) dX11_mark_71 rfl rfl ?_
      refine JT_icmp_ne (tgt := 83) dX11_mark_72 (by decide) (fun hc1 => ?_) (fun hc1 => ?_)
      · have h := h.1 hc1
        refine JT_iinc (q := 3) (v := (a3 + 1)) (lv' := [(3, .int (a3 + 1)), (0, .ref 2), (1, .int a1), (2, .int a2), (4, .int a4), (5, .int a5)]) dX11_mark_83 rfl (by rfl) (Nat.le_of_ble_eq_true rfl) rfl ?_
        refine JT_iinc (q := 5) (v := (a5 + 1)) (lv' := [(5, .int (a5 + 1)), (3, .int (a3 + 1)), (0, .ref 2), (1, .int a1), (2, .int a2), (4, .int a4)]) dX11_mark_86 rfl (by rfl) (Nat.le_of_ble_eq_true rfl) rfl ?_
        refine JT_goto (tgt := 49) dX11_mark_89 (by decide) ?_
        exact JT_sub [2, 3, 4, 1, 5, 0] rfl h
      · have h := h.2 hc1
        refine JT_iconst (v := 2) dX11_mark_75 ic_2 ?_
        refine JT_iload (q := 4) dX11_mark_76 rfl ?_
        refine JT_imul dX11_mark_78 ?_
        refine JT_iload (q := 5) dX11_mark_79 rfl ?_
        refine JT_iadd dX11_mark_81 ?_
        exact JS_iret dX11_mark_82 rfl rfl h
set_option maxRecDepth 20000 in
theorem bX11_mark (a1 : Int32) (a2 : Int32) {s : SM} {Q : Int32 → SM → Prop} (h : ((¬ (vX6_hasBody s 5 a1) = 0 → ((¬ a2 = (-1 : Int32) → BI MX11_mark 1 34 [(0, .ref 2), (1, .int a1), (2, .int a2), (3, .int (0 : Int32)), (4, .int (0 : Int32))] s Q) ∧ (a2 = (-1 : Int32) → KI MX4_marksOn 0 [.ref 31, .int a1, .int (99 : Int32)] s (fun x2 s1 => Q x2 s1)))) ∧ ((vX6_hasBody s 5 a1) = 0 → Q (-1 : Int32) s))) : KI MX11_mark 1 [.ref 2, .int a1, .int a2] s Q := by
  show BI MX11_mark 1 0 [(0, .ref 2), (1, .int a1), (2, .int a2)] s Q
  refine JT_aload_n (q := 0) dX11_mark_0 rfl rfl ?_
  refine JS_getR (x := 5) dX11_mark_1 flX11_19 BS_2 (Nat.le_of_ble_eq_true rfl) (Nat.le_of_ble_eq_true rfl) (Or.inl ⟨_, ct_11_1⟩) RF_2_1 ?_
  refine JT_iload_n (q := 1) dX11_mark_4 rfl rfl ?_
  refine JS_callVI (M' := MX6_hasBody) (d' := 0) (As := [.int a1]) (rest := []) (P := (fun zv9 wm9 => (vX6_hasBody s 5 a1) = zv9 ∧ s = wm9)) dX11_mark_5 cvX11_172 okX6_hasBody rfl (Nat.le_of_ble_eq_true rfl) BS_5 (Nat.le_of_ble_eq_true rfl) (Nat.le_of_ble_eq_true rfl) hci_6 (Nat.le_of_ble_eq_true rfl) (Nat.le_of_ble_eq_true rfl) (pX6_hasBody hp_5 (a1)  ⟨rfl, rfl⟩) (fun zv9 wm9 hq9 => ?_)
  obtain ⟨rfl, rfl⟩ := hq9
  refine JT_if_ne (tgt := 13) dX11_mark_8 (by decide) (fun hc4 => ?_) (fun hc4 => ?_)
  · have h := h.1 hc4
    refine JT_iload_n (q := 2) dX11_mark_13 rfl rfl ?_
    refine JT_iconst (v := -1) dX11_mark_14 ic_m1 ?_
    refine JT_icmp_ne (tgt := 29) dX11_mark_15 (by decide) (fun hc3 => ?_) (fun hc3 => ?_)
    · have h := h.1 hc3
      refine JT_iconst (v := 0) dX11_mark_29 ic_0 ?_
      refine JT_istore_n (lv' := [(3, .int (0 : Int32)), (0, .ref 2), (1, .int a1), (2, .int a2)]) dX11_mark_30 rfl (Nat.le_of_ble_eq_true rfl) rfl ?_
      refine JT_iconst (v := 0) dX11_mark_31 ic_0 ?_
      refine JT_istore (lv' := [(4, .int (0 : Int32)), (3, .int (0 : Int32)), (0, .ref 2), (1, .int a1), (2, .int a2)]) dX11_mark_32 (Nat.le_of_ble_eq_true rfl) rfl ?_
      exact JT_sub [2, 3, 4, 1, 0] rfl h
    · have h := h.2 hc3
      refine JT_aload_n (q := 0) dX11_mark_18 rfl rfl ?_
      refine JS_getR (x := 31) dX11_mark_19 flX11_41 BS_2 (Nat.le_of_ble_eq_true rfl) (Nat.le_of_ble_eq_true rfl) (Or.inl ⟨_, ct_11_5⟩) RF_2_5 ?_
      refine JT_iload_n (q := 1) dX11_mark_22 rfl rfl ?_
      refine JT_bipush (v := 99) dX11_mark_23 bp_99 ?_
      refine JS_callVI (M' := MX4_marksOn) (d' := 0) (As := [.int a1, .int (99 : Int32)]) (rest := []) dX11_mark_25 cvX11_195 okX4_marksOn rfl (Nat.le_of_ble_eq_true rfl) BS_31 (Nat.le_of_ble_eq_true rfl) (Nat.le_of_ble_eq_true rfl) hci_4 (Nat.le_of_ble_eq_true rfl) (Nat.le_of_ble_eq_true rfl) h (fun x2 s1 h => ?_)
      exact JS_iret dX11_mark_28 rfl rfl h
  · have h := h.2 hc4
    refine JT_iconst (v := -1) dX11_mark_11 ic_m1 ?_
    exact JS_iret dX11_mark_12 rfl rfl h
set_option maxRecDepth 20000 in
theorem bX11_packed (a1 : Int32) {s : SM} {Q : Int32 → SM → Prop} (h : rX5_told s a1 ∧ Q (vX5_told s a1) s) : KI MX11_packed 1 [.ref 2, .int a1] s Q := by
  show BI MX11_packed 1 0 [(0, .ref 2), (1, .int a1)] s Q
  refine JT_aload_n (q := 0) dX11_packed_0 rfl rfl ?_
  refine JS_getR (x := 225) dX11_packed_1 flX11_72 BS_2 (Nat.le_of_ble_eq_true rfl) (Nat.le_of_ble_eq_true rfl) (Or.inl ⟨_, ct_11_10⟩) RF_2_10 ?_
  refine JT_iload_n (q := 1) dX11_packed_4 rfl rfl ?_
  obtain ⟨o1, h⟩ := h
  refine JS_callVI (M' := MX5_told) (d' := 0) (As := [.int a1]) (rest := []) (P := (fun zv9 wm9 => (vX5_told s a1) = zv9 ∧ s = wm9)) dX11_packed_5 cvX11_391 okX5_told rfl (Nat.le_of_ble_eq_true rfl) BS_225 (Nat.le_of_ble_eq_true rfl) (Nat.le_of_ble_eq_true rfl) hci_5 (Nat.le_of_ble_eq_true rfl) (Nat.le_of_ble_eq_true rfl) (pX5_told  (a1) o1 ⟨rfl, rfl⟩) (fun zv9 wm9 hq9 => ?_)
  obtain ⟨rfl, rfl⟩ := hq9
  exact JS_iret dX11_packed_8 rfl rfl h
set_option maxRecDepth 20000 in
def vX11_packed (s : SM) (a1 : Int32) : Int32 := (vX5_told s a1)
set_option maxRecDepth 20000 in
def rX11_packed (s : SM) (a1 : Int32) : Prop := rX5_told s a1
set_option maxRecDepth 20000 in
theorem pX11_packed (a1 : Int32) {s : SM} {Q : Int32 → SM → Prop} (hr : rX11_packed s a1) (h : Q (vX11_packed s a1) s) : KI MX11_packed 1 [.ref 2, .int a1] s Q := by
  refine bX11_packed a1 ?_
  unfold rX11_packed at hr
  unfold vX11_packed at h
  refine ⟨hr, ?_⟩
  first | exact h | contradiction
set_option maxRecDepth 20000 in
theorem bX12_byteAt (a1 : Int32) {s : SM} {Q : Int32 → SM → Prop} (h : (((vX12_isIn (pI s 248 0 (0 : Int32)) a1 (0 : Int32) ((gI (pI s 248 0 (0 : Int32)) 248 35) - (1 : Int32))) = 0 → Q (-1 : Int32) (pI s 248 0 (0 : Int32))) ∧ (¬ (vX12_isIn (pI s 248 0 (0 : Int32)) a1 (0 : Int32) ((gI (pI s 248 0 (0 : Int32)) 248 35) - (1 : Int32))) = 0 → vp_in a1 3600 ∧ Q ((gI (pI s 248 0 (0 : Int32)) 262 (a1).toNatClampNeg) &&& (255 : Int32)) (pI s 248 0 (0 : Int32))))) : KI MX12_byteAt 1 [.ref 248, .int a1] s Q := by
  show BI MX12_byteAt 1 0 [(0, .ref 248), (1, .int a1)] s Q
  refine JT_aload_n (q := 0) dX12_byteAt_0 rfl rfl ?_
  refine JT_iconst (v := 0) dX12_byteAt_1 ic_0 ?_
  refine JS_putI dX12_byteAt_2 flX12_1 BS_248 (Nat.le_of_ble_eq_true rfl) (Nat.le_of_ble_eq_true rfl) ct_12_0 ?_
  refine JT_iload_n (q := 1) dX12_byteAt_5 rfl rfl ?_
  refine JT_iconst (v := 0) dX12_byteAt_6 ic_0 ?_
  refine JT_aload_n (q := 0) dX12_byteAt_7 rfl rfl ?_
  refine JS_getI dX12_byteAt_8 flX12_386 BS_248 (Nat.le_of_ble_eq_true rfl) (Nat.le_of_ble_eq_true rfl) (Or.inl ct_12_35) ?_
  refine JT_iconst (v := 1) dX12_byteAt_11 ic_1 ?_
  refine JT_isub dX12_byteAt_12 ?_
  refine JS_callSI (M' := MX12_isIn) (d' := 0) (As := [.int a1, .int (0 : Int32), .int ((gI (pI s 248 0 (0 : Int32)) 248 35) - (1 : Int32))]) (rest := []) (P := (fun zv9 wm9 => (vX12_isIn (pI s 248 0 (0 : Int32)) a1 (0 : Int32) ((gI (pI s 248 0 (0 : Int32)) 248 35) - (1 : Int32))) = zv9 ∧ (pI s 248 0 (0 : Int32)) = wm9)) dX12_byteAt_13 cvX12_202 okX12_isIn rfl (Nat.le_of_ble_eq_true rfl) (Nat.le_of_ble_eq_true rfl) (Nat.le_of_ble_eq_true rfl) (pX12_isIn  (a1) ((0 : Int32)) (((gI (pI s 248 0 (0 : Int32)) 248 35) - (1 : Int32)))  ⟨rfl, rfl⟩) (fun zv9 wm9 hq9 => ?_)
  obtain ⟨rfl, rfl⟩ := hq9
  refine JT_if_eq (tgt := 32) dX12_byteAt_16 (by decide) (fun hc2 => ?_) (fun hc2 => ?_)
  · have h := h.1 hc2
    refine JT_iconst (v := -1) dX12_byteAt_32 ic_m1 ?_
    exact JS_iret dX12_byteAt_33 rfl rfl h
  · have h := h.2 hc2
    refine JT_aload_n (q := 0) dX12_byteAt_19 rfl rfl ?_
    refine JS_getR (x := 262) dX12_byteAt_20 flX12_71 BS_248 (Nat.le_of_ble_eq_true rfl) (Nat.le_of_ble_eq_true rfl) (Or.inr ⟨_, ct_12_34⟩) RF_248_34 ?_
    refine JT_iload_n (q := 1) dX12_byteAt_23 rfl rfl ?_
    obtain ⟨o1, h⟩ := h
    refine JS_bald dX12_byteAt_24 BS_262 (Nat.le_of_ble_eq_true rfl) (Nat.le_of_ble_eq_true rfl) o1 ?_
    refine JT_sipush (v := 255) dX12_byteAt_25 sp_255 ?_
    refine JT_iand dX12_byteAt_28 ?_
    refine JT_goto (tgt := 33) dX12_byteAt_29 (by decide) ?_
    exact JS_iret dX12_byteAt_33 rfl rfl h
set_option maxRecDepth 20000 in
def vX12_byteAt (s : SM) (a1 : Int32) : Int32 := (if (vX12_isIn (pI s 248 0 (0 : Int32)) a1 (0 : Int32) ((gI (pI s 248 0 (0 : Int32)) 248 35) - (1 : Int32))) = 0 then (-1 : Int32) else ((gI (pI s 248 0 (0 : Int32)) 262 (a1).toNatClampNeg) &&& (255 : Int32)))
set_option maxRecDepth 20000 in
def mX12_byteAt (s : SM) (a1 : Int32) : SM := (pI s 248 0 (0 : Int32))
set_option maxRecDepth 20000 in
def rX12_byteAt (s : SM) (a1 : Int32) : Prop := (¬ (vX12_isIn (pI s 248 0 (0 : Int32)) a1 (0 : Int32) ((gI (pI s 248 0 (0 : Int32)) 248 35) - (1 : Int32))) = 0 → vp_in a1 3600)
set_option maxRecDepth 20000 in
theorem pX12_byteAt (a1 : Int32) {s : SM} {Q : Int32 → SM → Prop} (hr : rX12_byteAt s a1) (h : Q (vX12_byteAt s a1) (mX12_byteAt s a1)) : KI MX12_byteAt 1 [.ref 248, .int a1] s Q := by
  refine bX12_byteAt a1 ?_
  unfold rX12_byteAt at hr
  unfold vX12_byteAt mX12_byteAt at h
  refine ⟨fun c => ?_, fun c => ?_⟩
  · try simp only [if_pos c] at h
    first | exact h | contradiction
  · replace hr := hr c
    try simp only [if_neg c] at h
    refine ⟨hr, ?_⟩
    first | exact h | contradiction
set_option maxRecDepth 20000 in
theorem bX12_feed (a1 : Int32) (a2 : Int32) (a3 : Int32) (a4 : Int32) (a5 : Int32) {s : SM} {Q : Int32 → SM → Prop} (h : ((((gI (pI s 248 0 (0 : Int32)) 248 2) + (20 : Int32)) ≤ (640 : Int32) → KV MX12_four 0 [.ref 248, .int a1] (pI s 248 0 (0 : Int32)) (fun s1 => KV MX12_four 0 [.ref 248, .int a2] s1 (fun s3 => KV MX12_four 0 [.ref 248, .int a3] s3 (fun s5 => KV MX12_four 0 [.ref 248, .int a4] s5 (fun s7 => KV MX12_four 0 [.ref 248, .int a5] s7 (fun s9 => Q (gI s9 248 2) s9)))))) ∧ (¬ ((gI (pI s 248 0 (0 : Int32)) 248 2) + (20 : Int32)) ≤ (640 : Int32) → Q (-1 : Int32) (pI s 248 0 (0 : Int32))))) : KI MX12_feed 1 [.ref 248, .int a1, .int a2, .int a3, .int a4, .int a5] s Q := by
  show BI MX12_feed 1 0 [(0, .ref 248), (1, .int a1), (2, .int a2), (3, .int a3), (4, .int a4), (5, .int a5)] s Q
  refine JT_aload_n (q := 0) dX12_feed_0 rfl rfl ?_
  refine JT_iconst (v := 0) dX12_feed_1 ic_0 ?_
  refine JS_putI dX12_feed_2 flX12_1 BS_248 (Nat.le_of_ble_eq_true rfl) (Nat.le_of_ble_eq_true rfl) ct_12_0 ?_
  refine JT_aload_n (q := 0) dX12_feed_5 rfl rfl ?_
  refine JS_getI dX12_feed_6 flX12_7 BS_248 (Nat.le_of_ble_eq_true rfl) (Nat.le_of_ble_eq_true rfl) (Or.inl ct_12_2) ?_
  refine JT_bipush (v := 20) dX12_feed_9 bp_20 ?_
  refine JT_iadd dX12_feed_11 ?_
  refine JT_sipush (v := 640) dX12_feed_12 sp_640 ?_
  refine JT_icmp_le (tgt := 20) dX12_feed_15 (by decide) (fun hc11 => ?_) (fun hc11 => ?_)
  · have h := h.1 hc11
    refine JT_aload_n (q := 0) dX12_feed_20 rfl rfl ?_
    refine JT_iload_n (q := 1) dX12_feed_21 rfl rfl ?_
    refine JS_callVV (M' := MX12_four) (d' := 0) (As := [.int a1]) (rest := []) dX12_feed_22 cvX12_10 okX12_four rfl (Nat.le_of_ble_eq_true rfl) BS_248 (Nat.le_of_ble_eq_true rfl) (Nat.le_of_ble_eq_true rfl) hci_12 (Nat.le_of_ble_eq_true rfl) (Nat.le_of_ble_eq_true rfl) h (fun s1 h => ?_)
    refine JT_aload_n (q := 0) dX12_feed_25 rfl rfl ?_
    refine JT_iload_n (q := 2) dX12_feed_26 rfl rfl ?_
    refine JS_callVV (M' := MX12_four) (d' := 0) (As := [.int a2]) (rest := []) dX12_feed_27 cvX12_10 okX12_four rfl (Nat.le_of_ble_eq_true rfl) BS_248 (Nat.le_of_ble_eq_true rfl) (Nat.le_of_ble_eq_true rfl) hci_12 (Nat.le_of_ble_eq_true rfl) (Nat.le_of_ble_eq_true rfl) h (fun s3 h => ?_)
    refine JT_aload_n (q := 0) dX12_feed_30 rfl rfl ?_
    refine JT_iload_n (q := 3) dX12_feed_31 rfl rfl ?_
    refine JS_callVV (M' := MX12_four) (d' := 0) (As := [.int a3]) (rest := []) dX12_feed_32 cvX12_10 okX12_four rfl (Nat.le_of_ble_eq_true rfl) BS_248 (Nat.le_of_ble_eq_true rfl) (Nat.le_of_ble_eq_true rfl) hci_12 (Nat.le_of_ble_eq_true rfl) (Nat.le_of_ble_eq_true rfl) h (fun s5 h => ?_)
    refine JT_aload_n (q := 0) dX12_feed_35 rfl rfl ?_
    refine JT_iload (q := 4) dX12_feed_36 rfl ?_
    refine JS_callVV (M' := MX12_four) (d' := 0) (As := [.int a4]) (rest := []) dX12_feed_38 cvX12_10 okX12_four rfl (Nat.le_of_ble_eq_true rfl) BS_248 (Nat.le_of_ble_eq_true rfl) (Nat.le_of_ble_eq_true rfl) hci_12 (Nat.le_of_ble_eq_true rfl) (Nat.le_of_ble_eq_true rfl) h (fun s7 h => ?_)
    refine JT_aload_n (q := 0) dX12_feed_41 rfl rfl ?_
    refine JT_iload (q := 5) dX12_feed_42 rfl ?_
    refine JS_callVV (M' := MX12_four) (d' := 0) (As := [.int a5]) (rest := []) dX12_feed_44 cvX12_10 okX12_four rfl (Nat.le_of_ble_eq_true rfl) BS_248 (Nat.le_of_ble_eq_true rfl) (Nat.le_of_ble_eq_true rfl) hci_12 (Nat.le_of_ble_eq_true rfl) (Nat.le_of_ble_eq_true rfl) h (fun s9 h => ?_)
    refine JT_aload_n (q := 0) dX12_feed_47 rfl rfl ?_
    refine JS_getI dX12_feed_48 flX12_7 BS_248 (Nat.le_of_ble_eq_true rfl) (Nat.le_of_ble_eq_true rfl) (Or.inl ct_12_2) ?_
    exact JS_iret dX12_feed_51 rfl rfl h
  · have h := h.2 hc11
    refine JT_iconst (v := -1) dX12_feed_18 ic_m1 ?_
    exact JS_iret dX12_feed_19 rfl rfl h
set_option maxRecDepth 20000 in
theorem bX12_fit (a1 : Int32) (a2 : Int32) {s : SM} {Q : Int32 → SM → Prop} (h : (((vX12_isIn (pI s 248 0 (0 : Int32)) a1 (0 : Int32) ((gI (pI s 248 0 (0 : Int32)) 248 53) - (1 : Int32))) = 0 → Q (-1 : Int32) (pI s 248 0 (0 : Int32))) ∧ (¬ (vX12_isIn (pI s 248 0 (0 : Int32)) a1 (0 : Int32) ((gI (pI s 248 0 (0 : Int32)) 248 53) - (1 : Int32))) = 0 → (((vX12_isIn (pI s 248 0 (0 : Int32)) a2 (0 : Int32) (1 : Int32)) = 0 → Q (-1 : Int32) (pI s 248 0 (0 : Int32))) ∧ (¬ (vX12_isIn (pI s 248 0 (0 : Int32)) a2 (0 : Int32) (1 : Int32)) = 0 → ((¬ a2 = 0 → vp_in a1 4 ∧ Q (gI (pI s 248 0 (0 : Int32)) 271 (a1).toNatClampNeg) (pI s 248 0 (0 : Int32))) ∧ (a2 = 0 → vp_in a1 4 ∧ Q (gI (pI s 248 0 (0 : Int32)) 270 (a1).toNatClampNeg) (pI s 248 0 (0 : Int32))))))))) : KI MX12_fit 1 [.ref 248, .int a1, .int a2] s Q := by
  show BI MX12_fit 1 0 [(0, .ref 248), (1, .int a1), (2, .int a2)] s Q
  refine JT_aload_n (q := 0) dX12_fit_0 rfl rfl ?_
  refine JT_iconst (v := 0) dX12_fit_1 ic_0 ?_
  refine JS_putI dX12_fit_2 flX12_1 BS_248 (Nat.le_of_ble_eq_true rfl) (Nat.le_of_ble_eq_true rfl) ct_12_0 ?_
  refine JT_iload_n (q := 1) dX12_fit_5 rfl rfl ?_
  refine JT_iconst (v := 0) dX12_fit_6 ic_0 ?_
  refine JT_aload_n (q := 0) dX12_fit_7 rfl rfl ?_
  refine JS_getI dX12_fit_8 flX12_439 BS_248 (Nat.le_of_ble_eq_true rfl) (Nat.le_of_ble_eq_true rfl) (Or.inl ct_12_53) ?_
  refine JT_iconst (v := 1) dX12_fit_11 ic_1 ?_
  refine JT_isub dX12_fit_12 ?_
  refine JS_callSI (M' := MX12_isIn) (d' := 0) (As := [.int a1, .int (0 : Int32), .int ((gI (pI s 248 0 (0 : Int32)) 248 53) - (1 : Int32))]) (rest := []) (P := (fun zv9 wm9 => (vX12_isIn (pI s 248 0 (0 : Int32)) a1 (0 : Int32) ((gI (pI s 248 0 (0 : Int32)) 248 53) - (1 : Int32))) = zv9 ∧ (pI s 248 0 (0 : Int32)) = wm9)) dX12_fit_13 cvX12_202 okX12_isIn rfl (Nat.le_of_ble_eq_true rfl) (Nat.le_of_ble_eq_true rfl) (Nat.le_of_ble_eq_true rfl) (pX12_isIn  (a1) ((0 : Int32)) (((gI (pI s 248 0 (0 : Int32)) 248 53) - (1 : Int32)))  ⟨rfl, rfl⟩) (fun zv9 wm9 hq9 => ?_)
  obtain ⟨rfl, rfl⟩ := hq9
  refine JT_if_eq (tgt := 50) dX12_fit_16 (by decide) (fun hc6 => ?_) (fun hc6 => ?_)
  · have h := h.1 hc6
    refine JT_iconst (v := -1) dX12_fit_50 ic_m1 ?_
    exact JS_iret dX12_fit_51 rfl rfl h
  · have h := h.2 hc6
    refine JT_iload_n (q := 2) dX12_fit_19 rfl rfl ?_
    refine JT_iconst (v := 0) dX12_fit_20 ic_0 ?_
    refine JT_iconst (v := 1) dX12_fit_21 ic_1 ?_
    refine JS_callSI (M' := MX12_isIn) (d' := 0) (As := [.int a2, .int (0 : Int32), .int (1 : Int32)]) (rest := []) (P := (fun zv9 wm9 => (vX12_isIn (pI s 248 0 (0 : Int32)) a2 (0 : Int32) (1 : Int32)) = zv9 ∧ (pI s 248 0 (0 : Int32)) = wm9)) dX12_fit_22 cvX12_202 okX12_isIn rfl (Nat.le_of_ble_eq_true rfl) (Nat.le_of_ble_eq_true rfl) (Nat.le_of_ble_eq_true rfl) (pX12_isIn  (a2) ((0 : Int32)) ((1 : Int32))  ⟨rfl, rfl⟩) (fun zv9 wm9 hq9 => ?_)
    obtain ⟨rfl, rfl⟩ := hq9
    refine JT_if_eq (tgt := 50) dX12_fit_25 (by decide) (fun hc4 => ?_) (fun hc4 => ?_)
    · have h := h.1 hc4
      refine JT_iconst (v := -1) dX12_fit_50 ic_m1 ?_
      exact JS_iret dX12_fit_51 rfl rfl h
    · have h := h.2 hc4
      refine JT_iload_n (q := 2) dX12_fit_28 rfl rfl ?_
      refine JT_if_ne (tgt := 41) dX12_fit_29 (by decide) (fun hc3 => ?_) (fun hc3 => ?_)
      · have h := h.1 hc3
        refine JT_aload_n (q := 0) dX12_fit_41 rfl rfl ?_
        refine JS_getR (x := 271) dX12_fit_42 flX12_104 BS_248 (Nat.le_of_ble_eq_true rfl) (Nat.le_of_ble_eq_true rfl) (Or.inr ⟨_, ct_12_49⟩) RF_248_49 ?_
        refine JT_iload_n (q := 1) dX12_fit_45 rfl rfl ?_
        obtain ⟨o1, h⟩ := h
        refine JS_iald dX12_fit_46 BS_271 (Nat.le_of_ble_eq_true rfl) (Nat.le_of_ble_eq_true rfl) o1 ?_
        refine JT_goto (tgt := 51) dX12_fit_47 (by decide) ?_
        exact JS_iret dX12_fit_51 rfl rfl h
      · have h := h.2 hc3
        refine JT_aload_n (q := 0) dX12_fit_32 rfl rfl ?_
        refine JS_getR (x := 270) dX12_fit_33 flX12_101 BS_248 (Nat.le_of_ble_eq_true rfl) (Nat.le_of_ble_eq_true rfl) (Or.inr ⟨_, ct_12_48⟩) RF_248_48 ?_
        refine JT_iload_n (q := 1) dX12_fit_36 rfl rfl ?_
        obtain ⟨o2, h⟩ := h
        refine JS_iald dX12_fit_37 BS_270 (Nat.le_of_ble_eq_true rfl) (Nat.le_of_ble_eq_true rfl) o2 ?_
        refine JT_goto (tgt := 51) dX12_fit_38 (by decide) ?_
        exact JS_iret dX12_fit_51 rfl rfl h
set_option maxRecDepth 20000 in
def vX12_fit (s : SM) (a1 : Int32) (a2 : Int32) : Int32 := (if (vX12_isIn (pI s 248 0 (0 : Int32)) a1 (0 : Int32) ((gI (pI s 248 0 (0 : Int32)) 248 53) - (1 : Int32))) = 0 then (-1 : Int32) else (if (vX12_isIn (pI s 248 0 (0 : Int32)) a2 (0 : Int32) (1 : Int32)) = 0 then (-1 : Int32) else (if a2 = 0 then (gI (pI s 248 0 (0 : Int32)) 270 (a1).toNatClampNeg) else (gI (pI s 248 0 (0 : Int32)) 271 (a1).toNatClampNeg))))
set_option maxRecDepth 20000 in
def mX12_fit (s : SM) (a1 : Int32) (a2 : Int32) : SM := (pI s 248 0 (0 : Int32))
set_option maxRecDepth 20000 in
def rX12_fit (s : SM) (a1 : Int32) (a2 : Int32) : Prop := (¬ (vX12_isIn (pI s 248 0 (0 : Int32)) a1 (0 : Int32) ((gI (pI s 248 0 (0 : Int32)) 248 53) - (1 : Int32))) = 0 → (¬ (vX12_isIn (pI s 248 0 (0 : Int32)) a2 (0 : Int32) (1 : Int32)) = 0 → ((¬ a2 = 0 → vp_in a1 4) ∧ (a2 = 0 → vp_in a1 4))))
set_option maxRecDepth 20000 in
theorem pX12_fit (a1 : Int32) (a2 : Int32) {s : SM} {Q : Int32 → SM → Prop} (hr : rX12_fit s a1 a2) (h : Q (vX12_fit s a1 a2) (mX12_fit s a1 a2)) : KI MX12_fit 1 [.ref 248, .int a1, .int a2] s Q := by
  refine bX12_fit a1 a2 ?_
  unfold rX12_fit at hr
  unfold vX12_fit mX12_fit at h
  refine ⟨fun c => ?_, fun c => ?_⟩
  · try simp only [if_pos c] at h
    first | exact h | contradiction
  · replace hr := hr c
    try simp only [if_neg c] at h
    refine ⟨fun c => ?_, fun c => ?_⟩
    · try simp only [if_pos c] at h
      first | exact h | contradiction
    · replace hr := hr c
      try simp only [if_neg c] at h
      refine ⟨fun c => ?_, fun c => ?_⟩
      · replace hr := hr.1 c
        try simp only [if_neg c] at h
        refine ⟨hr, ?_⟩
        first | exact h | contradiction
      · replace hr := hr.2 c
        try simp only [if_pos c] at h
        refine ⟨hr, ?_⟩
        first | exact h | contradiction
set_option maxRecDepth 20000 in
theorem bX12_image_18 (a1 : Int32) (a2 : Int32) {s : SM} {Q : Int32 → SM → Prop} (h : (((787 : Int32) ≤ a2 → vp_in (((788 : Int32) * a1) + (787 : Int32)) 1576 ∧ BI MX12_image 1 69 [(0, .ref 248), (1, .int a1), (2, .int (0 : Int32))] (pI s 275 ((((788 : Int32) * a1) + (787 : Int32))).toNatClampNeg (gI s 248 22)) Q) ∧ (¬ (787 : Int32) ≤ a2 → vp_in a2 787 ∧ vp_in (((788 : Int32) * a1) + a2) 1576 ∧ BI MX12_image 1 18 [(0, .ref 248), (1, .int a1), (2, .int (a2 + 1))] (pI s 275 ((((788 : Int32) * a1) + a2)).toNatClampNeg (gI s 250 (a2).toNatClampNeg)) Q))) : BI MX12_image 1 18 [(0, .ref 248), (1, .int a1), (2, .int a2)] s Q := by
  refine JT_iload_n (q := 2) dX12_image_18 rfl rfl ?_
  refine JT_sipush (v := 787) dX12_image_19 sp_787 ?_
  refine JT_icmp_ge (tgt := 49) dX12_image_22 (by decide) (fun hc4 => ?_) (fun hc4 => ?_)
  · have h := h.1 hc4
    refine JT_aload_n (q := 0) dX12_image_49 rfl rfl ?_
    refine JS_getR (x := 275) dX12_image_50 flX12_116 BS_248 (Nat.le_of_ble_eq_true rfl) (Nat.le_of_ble_eq_true rfl) (Or.inr ⟨_, ct_12_55⟩) RF_248_55 ?_
    refine JT_sipush (v := 788) dX12_image_53 sp_788 ?_
    refine JT_iload_n (q := 1) dX12_image_56 rfl rfl ?_
    refine JT_imul dX12_image_57 ?_
    refine JT_sipush (v := 787) dX12_image_58 sp_787 ?_
    refine JT_iadd dX12_image_61 ?_
    refine JT_aload_n (q := 0) dX12_image_62 rfl rfl ?_
    refine JS_getI dX12_image_63 flX12_256 BS_248 (Nat.le_of_ble_eq_true rfl) (Nat.le_of_ble_eq_true rfl) (Or.inl ct_12_22) ?_
    obtain ⟨o1, h⟩ := h
    refine JS_iast dX12_image_66 BS_275 (Nat.le_of_ble_eq_true rfl) (Nat.le_of_ble_eq_true rfl) o1 ?_
    refine JT_iconst (v := 0) dX12_image_67 ic_0 ?_
    refine JT_istore_n (lv' := [(2, .int (0 : Int32)), (0, .ref 248), (1, .int a1)]) dX12_image_68 rfl (Nat.le_of_ble_eq_true rfl) rfl ?_
    exact JT_sub [1, 2, 0] rfl h
  · have h := h.2 hc4
    refine JT_aload_n (q := 0) dX12_image_25 rfl rfl ?_
    refine JS_getR (x := 275) dX12_image_26 flX12_116 BS_248 (Nat.le_of_ble_eq_true rfl) (Nat.le_of_ble_eq_true rfl) (Or.inr ⟨_, ct_12_55⟩) RF_248_55 ?_
    refine JT_sipush (v := 788) dX12_image_29 sp_788 ?_
    refine JT_iload_n (q := 1) dX12_image_32 rfl rfl ?_
    refine JT_imul dX12_image_33 ?_
    refine JT_iload_n (q := 2) dX12_image_34 rfl rfl ?_
    refine JT_iadd dX12_image_35 ?_
    refine JT_aload_n (q := 0) dX12_image_36 rfl rfl ?_
    refine JS_getR (x := 250) dX12_image_37 flX12_33 BS_248 (Nat.le_of_ble_eq_true rfl) (Nat.le_of_ble_eq_true rfl) (Or.inr ⟨_, ct_12_6⟩) RF_248_6 ?_
    refine JT_iload_n (q := 2) dX12_image_40 rfl rfl ?_
    obtain ⟨o2, h⟩ := h
    refine JS_iald dX12_image_41 BS_250 (Nat.le_of_ble_eq_true rfl) (Nat.le_of_ble_eq_true rfl) o2 ?_
    obtain ⟨o3, h⟩ := h
    refine JS_iast dX12_image_42 BS_275 (Nat.le_of_ble_eq_true rfl) (Nat.le_of_ble_eq_true rfl) o3 ?_
    refine JT_iinc (q := 2) (v := (a2 + 1)) (lv' := [(2, .int (a2 + 1)), (0, .ref 248), (1, .int a1)]) dX12_image_43 rfl (by rfl) (Nat.le_of_ble_eq_true rfl) rfl ?_
    refine JT_goto (tgt := 18) dX12_image_46 (by decide) ?_
    exact JT_sub [1, 2, 0] rfl h
set_option maxRecDepth 20000 in
theorem bX12_image_69 (a1 : Int32) (a2 : Int32) {s : SM} {Q : Int32 → SM → Prop} (h : (((15 : Int32) ≤ a2 → vp_in a1 2 ∧ Q (1 : Int32) (pI s 277 (a1).toNatClampNeg (vp_nar .boolean (1 : Int32)))) ∧ (¬ (15 : Int32) ≤ a2 → vp_in a2 30 ∧ vp_in (((15 : Int32) * a1) + a2) 30 ∧ BI MX12_image 1 69 [(0, .ref 248), (1, .int a1), (2, .int (a2 + 1))] (pL s 276 ((((15 : Int32) * a1) + a2)).toNatClampNeg (gL s 253 (a2).toNatClampNeg)) Q))) : BI MX12_image 1 69 [(0, .ref 248), (1, .int a1), (2, .int a2)] s Q := by
  refine JT_iload_n (q := 2) dX12_image_69 rfl rfl ?_
  refine JT_bipush (v := 15) dX12_image_70 bp_15 ?_
  refine JT_icmp_ge (tgt := 98) dX12_image_72 (by decide) (fun hc4 => ?_) (fun hc4 => ?_)
  · have h := h.1 hc4
    refine JT_aload_n (q := 0) dX12_image_98 rfl rfl ?_
    refine JS_getR (x := 277) dX12_image_99 flX12_122 BS_248 (Nat.le_of_ble_eq_true rfl) (Nat.le_of_ble_eq_true rfl) (Or.inr ⟨_, ct_12_57⟩) RF_248_57 ?_
    refine JT_iload_n (q := 1) dX12_image_102 rfl rfl ?_
    refine JT_iconst (v := 1) dX12_image_103 ic_1 ?_
    obtain ⟨o1, h⟩ := h
    refine JS_zast dX12_image_104 BS_277 (Nat.le_of_ble_eq_true rfl) (Nat.le_of_ble_eq_true rfl) o1 ?_
    refine JT_iconst (v := 1) dX12_image_105 ic_1 ?_
    exact JS_iret dX12_image_106 rfl (n01 (Or.inr rfl)) h
  · have h := h.2 hc4
    refine JT_aload_n (q := 0) dX12_image_75 rfl rfl ?_
    refine JS_getR (x := 276) dX12_image_76 flX12_119 BS_248 (Nat.le_of_ble_eq_true rfl) (Nat.le_of_ble_eq_true rfl) (Or.inr ⟨_, ct_12_56⟩) RF_248_56 ?_
    refine JT_bipush (v := 15) dX12_image_79 bp_15 ?_
    refine JT_iload_n (q := 1) dX12_image_81 rfl rfl ?_
    refine JT_imul dX12_image_82 ?_
    refine JT_iload_n (q := 2) dX12_image_83 rfl rfl ?_
    refine JT_iadd dX12_image_84 ?_
    refine JT_aload_n (q := 0) dX12_image_85 rfl rfl ?_
    refine JS_getR (x := 253) dX12_image_86 flX12_43 BS_248 (Nat.le_of_ble_eq_true rfl) (Nat.le_of_ble_eq_true rfl) (Or.inr ⟨_, ct_12_9⟩) RF_248_9 ?_
    refine JT_iload_n (q := 2) dX12_image_89 rfl rfl ?_
    obtain ⟨o2, h⟩ := h
    refine JS_lald dX12_image_90 BS_253 (Nat.le_of_ble_eq_true rfl) (Nat.le_of_ble_eq_true rfl) o2 ?_
    obtain ⟨o3, h⟩ := h
    refine JS_last dX12_image_91 BS_276 (Nat.le_of_ble_eq_true rfl) (Nat.le_of_ble_eq_true rfl) o3 ?_
    refine JT_iinc (q := 2) (v := (a2 + 1)) (lv' := [(2, .int (a2 + 1)), (0, .ref 248), (1, .int a1)]) dX12_image_92 rfl (by rfl) (Nat.le_of_ble_eq_true rfl) rfl ?_
    refine JT_goto (tgt := 69) dX12_image_95 (by decide) ?_
    exact JT_sub [1, 2, 0] rfl h
set_option maxRecDepth 20000 in
theorem bX12_image (a1 : Int32) {s : SM} {Q : Int32 → SM → Prop} (h : ((¬ (vX12_isIn (pI s 248 0 (0 : Int32)) a1 (0 : Int32) (1 : Int32)) = 0 → BI MX12_image 1 18 [(0, .ref 248), (1, .int a1), (2, .int (0 : Int32))] (pI s 248 0 (0 : Int32)) Q) ∧ ((vX12_isIn (pI s 248 0 (0 : Int32)) a1 (0 : Int32) (1 : Int32)) = 0 → Q (0 : Int32) (pI s 248 0 (0 : Int32))))) : KI MX12_image 1 [.ref 248, .int a1] s Q := by
  show BI MX12_image 1 0 [(0, .ref 248), (1, .int a1)] s Q
  refine JT_aload_n (q := 0) dX12_image_0 rfl rfl ?_
  refine JT_iconst (v := 0) dX12_image_1 ic_0 ?_
  refine JS_putI dX12_image_2 flX12_1 BS_248 (Nat.le_of_ble_eq_true rfl) (Nat.le_of_ble_eq_true rfl) ct_12_0 ?_
  refine JT_iload_n (q := 1) dX12_image_5 rfl rfl ?_
  refine JT_iconst (v := 0) dX12_image_6 ic_0 ?_
  refine JT_iconst (v := 1) dX12_image_7 ic_1 ?_
  refine JS_callSI (M' := MX12_isIn) (d' := 0) (As := [.int a1, .int (0 : Int32), .int (1 : Int32)]) (rest := []) (P := (fun zv9 wm9 => (vX12_isIn (pI s 248 0 (0 : Int32)) a1 (0 : Int32) (1 : Int32)) = zv9 ∧ (pI s 248 0 (0 : Int32)) = wm9)) dX12_image_8 cvX12_202 okX12_isIn rfl (Nat.le_of_ble_eq_true rfl) (Nat.le_of_ble_eq_true rfl) (Nat.le_of_ble_eq_true rfl) (pX12_isIn  (a1) ((0 : Int32)) ((1 : Int32))  ⟨rfl, rfl⟩) (fun zv9 wm9 hq9 => ?_)
  obtain ⟨rfl, rfl⟩ := hq9
  refine JT_if_ne (tgt := 16) dX12_image_11 (by decide) (fun hc1 => ?_) (fun hc1 => ?_)
  · have h := h.1 hc1
    refine JT_iconst (v := 0) dX12_image_16 ic_0 ?_
    refine JT_istore_n (lv' := [(2, .int (0 : Int32)), (0, .ref 248), (1, .int a1)]) dX12_image_17 rfl (Nat.le_of_ble_eq_true rfl) rfl ?_
    exact JT_sub [1, 2, 0] rfl h
  · have h := h.2 hc1
    refine JT_iconst (v := 0) dX12_image_14 ic_0 ?_
    exact JS_iret dX12_image_15 rfl (n01 (Or.inl rfl)) h
set_option maxRecDepth 20000 in
theorem bX12_isBody (a1 : Int32) {s : SM} {Q : Int32 → SM → Prop} (h : Q (vX12_isIn s a1 (0 : Int32) ((gI s 250 ((0 : Int32)).toNatClampNeg) - (1 : Int32))) s) : KI MX12_isBody 1 [.ref 248, .int a1] s Q := by
  show BI MX12_isBody 1 0 [(0, .ref 248), (1, .int a1)] s Q
  refine JT_iload_n (q := 1) dX12_isBody_0 rfl rfl ?_
  refine JT_iconst (v := 0) dX12_isBody_1 ic_0 ?_
  refine JT_aload_n (q := 0) dX12_isBody_2 rfl rfl ?_
  refine JS_getR (x := 250) dX12_isBody_3 flX12_33 BS_248 (Nat.le_of_ble_eq_true rfl) (Nat.le_of_ble_eq_true rfl) (Or.inr ⟨_, ct_12_6⟩) RF_248_6 ?_
  refine JT_iconst (v := 0) dX12_isBody_6 ic_0 ?_
  refine JS_iald dX12_isBody_7 BS_250 (Nat.le_of_ble_eq_true rfl) (Nat.le_of_ble_eq_true rfl) (by unfold vp_in; decide) ?_
  refine JT_iconst (v := 1) dX12_isBody_8 ic_1 ?_
  refine JT_isub dX12_isBody_9 ?_
  refine JS_callSI (M' := MX12_isIn) (d' := 0) (As := [.int a1, .int (0 : Int32), .int ((gI s 250 ((0 : Int32)).toNatClampNeg) - (1 : Int32))]) (rest := []) (P := (fun zv9 wm9 => (vX12_isIn s a1 (0 : Int32) ((gI s 250 ((0 : Int32)).toNatClampNeg) - (1 : Int32))) = zv9 ∧ s = wm9)) dX12_isBody_10 cvX12_202 okX12_isIn rfl (Nat.le_of_ble_eq_true rfl) (Nat.le_of_ble_eq_true rfl) (Nat.le_of_ble_eq_true rfl) (pX12_isIn  (a1) ((0 : Int32)) (((gI s 250 ((0 : Int32)).toNatClampNeg) - (1 : Int32)))  ⟨rfl, rfl⟩) (fun zv9 wm9 hq9 => ?_)
  obtain ⟨rfl, rfl⟩ := hq9
  exact JS_iret dX12_isBody_13 rfl (n01 (zX12_isIn s a1 (0 : Int32) ((gI s 250 ((0 : Int32)).toNatClampNeg) - (1 : Int32)))) h
set_option maxRecDepth 20000 in
def vX12_isBody (s : SM) (a1 : Int32) : Int32 := (vX12_isIn s a1 (0 : Int32) ((gI s 250 ((0 : Int32)).toNatClampNeg) - (1 : Int32)))
set_option maxRecDepth 20000 in
theorem zX12_isBody (s : SM) (a1 : Int32) : vX12_isBody s a1 = 0 ∨ vX12_isBody s a1 = 1 := (zX12_isIn s a1 (0 : Int32) ((gI s 250 ((0 : Int32)).toNatClampNeg) - (1 : Int32)))
set_option maxRecDepth 20000 in
theorem pX12_isBody (a1 : Int32) {s : SM} {Q : Int32 → SM → Prop} (h : Q (vX12_isBody s a1) s) : KI MX12_isBody 1 [.ref 248, .int a1] s Q := by
  refine bX12_isBody a1 ?_
  unfold vX12_isBody at h
  first | exact h | contradiction
set_option maxRecDepth 20000 in
theorem bX12_isDeal (a1 : Int32) {s : SM} {Q : Int32 → SM → Prop} (h : Q (vX12_isIn s a1 (0 : Int32) ((gI s 250 ((34 : Int32)).toNatClampNeg) - (1 : Int32))) s) : KI MX12_isDeal 1 [.ref 248, .int a1] s Q := by
  show BI MX12_isDeal 1 0 [(0, .ref 248), (1, .int a1)] s Q
  refine JT_iload_n (q := 1) dX12_isDeal_0 rfl rfl ?_
  refine JT_iconst (v := 0) dX12_isDeal_1 ic_0 ?_
  refine JT_aload_n (q := 0) dX12_isDeal_2 rfl rfl ?_
  refine JS_getR (x := 250) dX12_isDeal_3 flX12_33 BS_248 (Nat.le_of_ble_eq_true rfl) (Nat.le_of_ble_eq_true rfl) (Or.inr ⟨_, ct_12_6⟩) RF_248_6 ?_
  refine JT_bipush (v := 34) dX12_isDeal_6 bp_34 ?_
  refine JS_iald dX12_isDeal_8 BS_250 (Nat.le_of_ble_eq_true rfl) (Nat.le_of_ble_eq_true rfl) (by unfold vp_in; decide) ?_
  refine JT_iconst (v := 1) dX12_isDeal_9 ic_1 ?_
  refine JT_isub dX12_isDeal_10 ?_
  refine JS_callSI (M' := MX12_isIn) (d' := 0) (As := [.int a1, .int (0 : Int32), .int ((gI s 250 ((34 : Int32)).toNatClampNeg) - (1 : Int32))]) (rest := []) (P := (fun zv9 wm9 => (vX12_isIn s a1 (0 : Int32) ((gI s 250 ((34 : Int32)).toNatClampNeg) - (1 : Int32))) = zv9 ∧ s = wm9)) dX12_isDeal_11 cvX12_202 okX12_isIn rfl (Nat.le_of_ble_eq_true rfl) (Nat.le_of_ble_eq_true rfl) (Nat.le_of_ble_eq_true rfl) (pX12_isIn  (a1) ((0 : Int32)) (((gI s 250 ((34 : Int32)).toNatClampNeg) - (1 : Int32)))  ⟨rfl, rfl⟩) (fun zv9 wm9 hq9 => ?_)
  obtain ⟨rfl, rfl⟩ := hq9
  exact JS_iret dX12_isDeal_14 rfl (n01 (zX12_isIn s a1 (0 : Int32) ((gI s 250 ((34 : Int32)).toNatClampNeg) - (1 : Int32)))) h
set_option maxRecDepth 20000 in
def vX12_isDeal (s : SM) (a1 : Int32) : Int32 := (vX12_isIn s a1 (0 : Int32) ((gI s 250 ((34 : Int32)).toNatClampNeg) - (1 : Int32)))
set_option maxRecDepth 20000 in
theorem zX12_isDeal (s : SM) (a1 : Int32) : vX12_isDeal s a1 = 0 ∨ vX12_isDeal s a1 = 1 := (zX12_isIn s a1 (0 : Int32) ((gI s 250 ((34 : Int32)).toNatClampNeg) - (1 : Int32)))
set_option maxRecDepth 20000 in
theorem pX12_isDeal (a1 : Int32) {s : SM} {Q : Int32 → SM → Prop} (h : Q (vX12_isDeal s a1) s) : KI MX12_isDeal 1 [.ref 248, .int a1] s Q := by
  refine bX12_isDeal a1 ?_
  unfold vX12_isDeal at h
  first | exact h | contradiction
set_option maxRecDepth 20000 in
theorem bX12_isFound (a1 : Int32) {s : SM} {Q : Int32 → SM → Prop} (h : Q (vX12_isIn s a1 (0 : Int32) (((1 : Int32) <<< ((gI s 250 ((0 : Int32)).toNatClampNeg) &&& 31)) - (1 : Int32))) s) : KI MX12_isFound 1 [.ref 248, .int a1] s Q := by
  show BI MX12_isFound 1 0 [(0, .ref 248), (1, .int a1)] s Q
  refine JT_iload_n (q := 1) dX12_isFound_0 rfl rfl ?_
  refine JT_iconst (v := 0) dX12_isFound_1 ic_0 ?_
  refine JT_iconst (v := 1) dX12_isFound_2 ic_1 ?_
  refine JT_aload_n (q := 0) dX12_isFound_3 rfl rfl ?_
  refine JS_getR (x := 250) dX12_isFound_4 flX12_33 BS_248 (Nat.le_of_ble_eq_true rfl) (Nat.le_of_ble_eq_true rfl) (Or.inr ⟨_, ct_12_6⟩) RF_248_6 ?_
  refine JT_iconst (v := 0) dX12_isFound_7 ic_0 ?_
  refine JS_iald dX12_isFound_8 BS_250 (Nat.le_of_ble_eq_true rfl) (Nat.le_of_ble_eq_true rfl) (by unfold vp_in; decide) ?_
  refine JT_ishl dX12_isFound_9 ?_
  refine JT_iconst (v := 1) dX12_isFound_10 ic_1 ?_
  refine JT_isub dX12_isFound_11 ?_
  refine JS_callSI (M' := MX12_isIn) (d' := 0) (As := [.int a1, .int (0 : Int32), .int (((1 : Int32) <<< ((gI s 250 ((0 : Int32)).toNatClampNeg) &&& 31)) - (1 : Int32))]) (rest := []) (P := (fun zv9 wm9 => (vX12_isIn s a1 (0 : Int32) (((1 : Int32) <<< ((gI s 250 ((0 : Int32)).toNatClampNeg) &&& 31)) - (1 : Int32))) = zv9 ∧ s = wm9)) dX12_isFound_12 cvX12_202 okX12_isIn rfl (Nat.le_of_ble_eq_true rfl) (Nat.le_of_ble_eq_true rfl) (Nat.le_of_ble_eq_true rfl) (pX12_isIn  (a1) ((0 : Int32)) ((((1 : Int32) <<< ((gI s 250 ((0 : Int32)).toNatClampNeg) &&& 31)) - (1 : Int32)))  ⟨rfl, rfl⟩) (fun zv9 wm9 hq9 => ?_)
  obtain ⟨rfl, rfl⟩ := hq9
  exact JS_iret dX12_isFound_15 rfl (n01 (zX12_isIn s a1 (0 : Int32) (((1 : Int32) <<< ((gI s 250 ((0 : Int32)).toNatClampNeg) &&& 31)) - (1 : Int32)))) h
set_option maxRecDepth 20000 in
def vX12_isFound (s : SM) (a1 : Int32) : Int32 := (vX12_isIn s a1 (0 : Int32) (((1 : Int32) <<< ((gI s 250 ((0 : Int32)).toNatClampNeg) &&& 31)) - (1 : Int32)))
set_option maxRecDepth 20000 in
theorem zX12_isFound (s : SM) (a1 : Int32) : vX12_isFound s a1 = 0 ∨ vX12_isFound s a1 = 1 := (zX12_isIn s a1 (0 : Int32) (((1 : Int32) <<< ((gI s 250 ((0 : Int32)).toNatClampNeg) &&& 31)) - (1 : Int32)))
set_option maxRecDepth 20000 in
theorem pX12_isFound (a1 : Int32) {s : SM} {Q : Int32 → SM → Prop} (h : Q (vX12_isFound s a1) s) : KI MX12_isFound 1 [.ref 248, .int a1] s Q := by
  refine bX12_isFound a1 ?_
  unfold vX12_isFound at h
  first | exact h | contradiction
set_option maxRecDepth 20000 in
theorem bX12_isKind (a1 : Int32) {s : SM} {Q : Int32 → SM → Prop} (h : Q (vX12_isIn s a1 (0 : Int32) ((gI s 250 ((1 : Int32)).toNatClampNeg) - (1 : Int32))) s) : KI MX12_isKind 1 [.ref 248, .int a1] s Q := by
  show BI MX12_isKind 1 0 [(0, .ref 248), (1, .int a1)] s Q
  refine JT_iload_n (q := 1) dX12_isKind_0 rfl rfl ?_
  refine JT_iconst (v := 0) dX12_isKind_1 ic_0 ?_
  refine JT_aload_n (q := 0) dX12_isKind_2 rfl rfl ?_
  refine JS_getR (x := 250) dX12_isKind_3 flX12_33 BS_248 (Nat.le_of_ble_eq_true rfl) (Nat.le_of_ble_eq_true rfl) (Or.inr ⟨_, ct_12_6⟩) RF_248_6 ?_
  refine JT_iconst (v := 1) dX12_isKind_6 ic_1 ?_
  refine JS_iald dX12_isKind_7 BS_250 (Nat.le_of_ble_eq_true rfl) (Nat.le_of_ble_eq_true rfl) (by unfold vp_in; decide) ?_
  refine JT_iconst (v := 1) dX12_isKind_8 ic_1 ?_
  refine JT_isub dX12_isKind_9 ?_
  refine JS_callSI (M' := MX12_isIn) (d' := 0) (As := [.int a1, .int (0 : Int32), .int ((gI s 250 ((1 : Int32)).toNatClampNeg) - (1 : Int32))]) (rest := []) (P := (fun zv9 wm9 => (vX12_isIn s a1 (0 : Int32) ((gI s 250 ((1 : Int32)).toNatClampNeg) - (1 : Int32))) = zv9 ∧ s = wm9)) dX12_isKind_10 cvX12_202 okX12_isIn rfl (Nat.le_of_ble_eq_true rfl) (Nat.le_of_ble_eq_true rfl) (Nat.le_of_ble_eq_true rfl) (pX12_isIn  (a1) ((0 : Int32)) (((gI s 250 ((1 : Int32)).toNatClampNeg) - (1 : Int32)))  ⟨rfl, rfl⟩) (fun zv9 wm9 hq9 => ?_)
  obtain ⟨rfl, rfl⟩ := hq9
  exact JS_iret dX12_isKind_13 rfl (n01 (zX12_isIn s a1 (0 : Int32) ((gI s 250 ((1 : Int32)).toNatClampNeg) - (1 : Int32)))) h
set_option maxRecDepth 20000 in
def vX12_isKind (s : SM) (a1 : Int32) : Int32 := (vX12_isIn s a1 (0 : Int32) ((gI s 250 ((1 : Int32)).toNatClampNeg) - (1 : Int32)))
set_option maxRecDepth 20000 in
theorem zX12_isKind (s : SM) (a1 : Int32) : vX12_isKind s a1 = 0 ∨ vX12_isKind s a1 = 1 := (zX12_isIn s a1 (0 : Int32) ((gI s 250 ((1 : Int32)).toNatClampNeg) - (1 : Int32)))
set_option maxRecDepth 20000 in
theorem pX12_isKind (a1 : Int32) {s : SM} {Q : Int32 → SM → Prop} (h : Q (vX12_isKind s a1) s) : KI MX12_isKind 1 [.ref 248, .int a1] s Q := by
  refine bX12_isKind a1 ?_
  unfold vX12_isKind at h
  first | exact h | contradiction
set_option maxRecDepth 20000 in
theorem bX12_isLiving (a1 : Int32) {s : SM} {Q : Int32 → SM → Prop} (h : Q (if (vX12_has s (gI s 250 ((36 : Int32)).toNatClampNeg) a1) = 0 then (1 : Int32) else (0 : Int32)) s) : KI MX12_isLiving 1 [.ref 248, .int a1] s Q := by
  show BI MX12_isLiving 1 0 [(0, .ref 248), (1, .int a1)] s Q
  refine JT_aload_n (q := 0) dX12_isLiving_0 rfl rfl ?_
  refine JS_getR (x := 250) dX12_isLiving_1 flX12_33 BS_248 (Nat.le_of_ble_eq_true rfl) (Nat.le_of_ble_eq_true rfl) (Or.inr ⟨_, ct_12_6⟩) RF_248_6 ?_
  refine JT_bipush (v := 36) dX12_isLiving_4 bp_36 ?_
  refine JS_iald dX12_isLiving_6 BS_250 (Nat.le_of_ble_eq_true rfl) (Nat.le_of_ble_eq_true rfl) (by unfold vp_in; decide) ?_
  refine JT_iload_n (q := 1) dX12_isLiving_7 rfl rfl ?_
  refine JS_callSI (M' := MX12_has) (d' := 0) (As := [.int (gI s 250 ((36 : Int32)).toNatClampNeg), .int a1]) (rest := []) (P := (fun zv9 wm9 => (vX12_has s (gI s 250 ((36 : Int32)).toNatClampNeg) a1) = zv9 ∧ s = wm9)) dX12_isLiving_8 cvX12_259 okX12_has rfl (Nat.le_of_ble_eq_true rfl) (Nat.le_of_ble_eq_true rfl) (Nat.le_of_ble_eq_true rfl) (pX12_has  ((gI s 250 ((36 : Int32)).toNatClampNeg)) (a1)  ⟨rfl, rfl⟩) (fun zv9 wm9 hq9 => ?_)
  obtain ⟨rfl, rfl⟩ := hq9
  have hj1 : ∀ v : Int32, v = (if (vX12_has s (gI s 250 ((36 : Int32)).toNatClampNeg) a1) = 0 then (1 : Int32) else (0 : Int32)) → JT MX12_isLiving 1 0 0 19 [(0, .ref 248), (1, .int a1)] [.int v] (std s) (KQ Q) := by
    intro v hv
    subst hv
    exact JS_iret dX12_isLiving_19 rfl (n01 (i01 (Or.inr rfl) (Or.inl rfl))) h
  refine JT_if_ne (tgt := 18) dX12_isLiving_11 (by decide) (fun hc2 => ?_) (fun hc2 => ?_)
  · refine JT_iconst (v := 0) dX12_isLiving_18 ic_0 ?_
    exact hj1 _ (by rw [if_neg hc2])
  · refine JT_iconst (v := 1) dX12_isLiving_14 ic_1 ?_
    refine JT_goto (tgt := 19) dX12_isLiving_15 (by decide) ?_
    exact hj1 _ (by rw [if_pos hc2])
set_option maxRecDepth 20000 in
def vX12_isLiving (s : SM) (a1 : Int32) : Int32 := (if (vX12_has s (gI s 250 ((36 : Int32)).toNatClampNeg) a1) = 0 then (1 : Int32) else (0 : Int32))
set_option maxRecDepth 20000 in
theorem zX12_isLiving (s : SM) (a1 : Int32) : vX12_isLiving s a1 = 0 ∨ vX12_isLiving s a1 = 1 := (i01 (Or.inr rfl) (Or.inl rfl))
set_option maxRecDepth 20000 in
theorem pX12_isLiving (a1 : Int32) {s : SM} {Q : Int32 → SM → Prop} (h : Q (vX12_isLiving s a1) s) : KI MX12_isLiving 1 [.ref 248, .int a1] s Q := by
  refine bX12_isLiving a1 ?_
  unfold vX12_isLiving at h
  first | exact h | contradiction
set_option maxRecDepth 20000 in
theorem bX12_isRead (a1 : Int32) (a2 : Int32) (a3 : Int32) {s : SM} {Q : Int32 → SM → Prop} (h : rX12_of s a1 ((6 : Int32) + a2) ∧ (((vX12_of s a1 ((6 : Int32) + a2)) < 0 → Q (0 : Int32) s) ∧ (¬ (vX12_of s a1 ((6 : Int32) + a2)) < 0 → rX12_of s a1 (8 : Int32) ∧ ((¬ (vX12_has s (vX12_of s a1 (8 : Int32)) a2) = 0 → Q (0 : Int32) s) ∧ ((vX12_has s (vX12_of s a1 (8 : Int32)) a2) = 0 → Q (if (vX12_has s a3 (vX12_of s a1 ((6 : Int32) + a2))) = 0 then (0 : Int32) else (1 : Int32)) s))))) : KI MX12_isRead 1 [.ref 248, .int a1, .int a2, .int a3] s Q := by
  show BI MX12_isRead 1 0 [(0, .ref 248), (1, .int a1), (2, .int a2), (3, .int a3)] s Q
  refine JT_aload_n (q := 0) dX12_isRead_0 rfl rfl ?_
  refine JT_iload_n (q := 1) dX12_isRead_1 rfl rfl ?_
  refine JT_bipush (v := 6) dX12_isRead_2 bp_6 ?_
  refine JT_iload_n (q := 2) dX12_isRead_4 rfl rfl ?_
  refine JT_iadd dX12_isRead_5 ?_
  obtain ⟨o8, h⟩ := h
  refine JS_callVI (M' := MX12_of) (d' := 0) (As := [.int a1, .int ((6 : Int32) + a2)]) (rest := []) (P := (fun zv9 wm9 => (vX12_of s a1 ((6 : Int32) + a2)) = zv9 ∧ s = wm9)) dX12_isRead_6 cvX12_265 okX12_of rfl (Nat.le_of_ble_eq_true rfl) BS_248 (Nat.le_of_ble_eq_true rfl) (Nat.le_of_ble_eq_true rfl) hci_12 (Nat.le_of_ble_eq_true rfl) (Nat.le_of_ble_eq_true rfl) (pX12_of  (a1) (((6 : Int32) + a2)) o8 ⟨rfl, rfl⟩) (fun zv9 wm9 hq9 => ?_)
  obtain ⟨rfl, rfl⟩ := hq9
  refine JT_istore (lv' := [(4, .int (vX12_of s a1 ((6 : Int32) + a2))), (0, .ref 248), (1, .int a1), (2, .int a2), (3, .int a3)]) dX12_isRead_9 (Nat.le_of_ble_eq_true rfl) rfl ?_
  refine JT_iload (q := 0) dX12_isRead_11 rfl ?_
  refine JT_if_lt (tgt := 43) dX12_isRead_13 (by decide) (fun hc7 => ?_) (fun hc7 => ?_)
  · have h := h.1 hc7
    refine JT_iconst (v := 0) dX12_isRead_43 ic_0 ?_
    exact JS_iret dX12_isRead_44 rfl (n01 (Or.inl rfl)) h
  · have h := h.2 hc7
    refine JT_aload_n (q := 1) dX12_isRead_16 rfl rfl ?_
    refine JT_iload_n (q := 2) dX12_isRead_17 rfl rfl ?_
    refine JT_bipush (v := 8) dX12_isRead_18 bp_8 ?_
    obtain ⟨o6, h⟩ := h
    refine JS_callVI (M' := MX12_of) (d' := 0) (As := [.int a1, .int (8 : Int32)]) (rest := []) (P := (fun zv9 wm9 => (vX12_of s a1 (8 : Int32)) = zv9 ∧ s = wm9)) dX12_isRead_20 cvX12_265 okX12_of rfl (Nat.le_of_ble_eq_true rfl) BS_248 (Nat.le_of_ble_eq_true rfl) (Nat.le_of_ble_eq_true rfl) hci_12 (Nat.le_of_ble_eq_true rfl) (Nat.le_of_ble_eq_true rfl) (pX12_of  (a1) ((8 : Int32)) o6 ⟨rfl, rfl⟩) (fun zv9 wm9 hq9 => ?_)
    obtain ⟨rfl, rfl⟩ := hq9
    refine JT_iload_n (q := 3) dX12_isRead_23 rfl rfl ?_
    refine JS_callSI (M' := MX12_has) (d' := 0) (As := [.int (vX12_of s a1 (8 : Int32)), .int a2]) (rest := []) (P := (fun zv9 wm9 => (vX12_has s (vX12_of s a1 (8 : Int32)) a2) = zv9 ∧ s = wm9)) dX12_isRead_24 cvX12_259 okX12_has rfl (Nat.le_of_ble_eq_true rfl) (Nat.le_of_ble_eq_true rfl) (Nat.le_of_ble_eq_true rfl) (pX12_has  ((vX12_of s a1 (8 : Int32))) (a2)  ⟨rfl, rfl⟩) (fun zv9 wm9 hq9 => ?_)
    obtain ⟨rfl, rfl⟩ := hq9
    refine JT_if_ne (tgt := 43) dX12_isRead_27 (by decide) (fun hc4 => ?_) (fun hc4 => ?_)
    · have h := h.1 hc4
      refine JT_iconst (v := 0) dX12_isRead_43 ic_0 ?_
      exact JS_iret dX12_isRead_44 rfl (n01 (Or.inl rfl)) h
    · have h := h.2 hc4
      refine JT_iload_n (q := 4) dX12_isRead_30 rfl rfl ?_
      refine JT_iload (q := 0) dX12_isRead_31 rfl ?_
      refine JS_callSI (M' := MX12_has) (d' := 0) (As := [.int a3, .int (vX12_of s a1 ((6 : Int32) + a2))]) (rest := []) (P := (fun zv9 wm9 => (vX12_has s a3 (vX12_of s a1 ((6 : Int32) + a2))) = zv9 ∧ s = wm9)) dX12_isRead_33 cvX12_259 okX12_has rfl (Nat.le_of_ble_eq_true rfl) (Nat.le_of_ble_eq_true rfl) (Nat.le_of_ble_eq_true rfl) (pX12_has  (a3) ((vX12_of s a1 ((6 : Int32) + a2)))  ⟨rfl, rfl⟩) (fun zv9 wm9 hq9 => ?_)
      obtain ⟨rfl, rfl⟩ := hq9
      have hj1 : ∀ v : Int32, v = (if (vX12_has s a3 (vX12_of s a1 ((6 : Int32) + a2))) = 0 then (0 : Int32) else (1 : Int32)) → JT MX12_isRead 1 0 0 44 [(4, .int (vX12_of s a1 ((6 : Int32) + a2))), (0, .ref 248), (1, .int a1), (2, .int a2), (3, .int a3)] [.int v] (std s) (KQ Q) := by
        intro v hv
        subst hv
        exact JS_iret dX12_isRead_44 rfl (n01 (i01 (Or.inl rfl) (Or.inr rfl))) h
      refine JT_if_eq (tgt := 43) dX12_isRead_36 (by decide) (fun hc2 => ?_) (fun hc2 => ?_)
      · refine JT_iconst (v := 0) dX12_isRead_43 ic_0 ?_
        exact hj1 _ (by rw [if_pos hc2])
      · refine JT_iconst (v := 1) dX12_isRead_39 ic_1 ?_
        refine JT_goto (tgt := 44) dX12_isRead_40 (by decide) ?_
        exact hj1 _ (by rw [if_neg hc2])
set_option maxRecDepth 20000 in
def vX12_isRead (s : SM) (a1 : Int32) (a2 : Int32) (a3 : Int32) : Int32 := (if (vX12_of s a1 ((6 : Int32) + a2)) < 0 then (0 : Int32) else (if (vX12_has s (vX12_of s a1 (8 : Int32)) a2) = 0 then (if (vX12_has s a3 (vX12_of s a1 ((6 : Int32) + a2))) = 0 then (0 : Int32) else (1 : Int32)) else (0 : Int32)))
set_option maxRecDepth 20000 in
def rX12_isRead (s : SM) (a1 : Int32) (a2 : Int32) (a3 : Int32) : Prop := rX12_of s a1 ((6 : Int32) + a2) ∧ (¬ (vX12_of s a1 ((6 : Int32) + a2)) < 0 → rX12_of s a1 (8 : Int32))
set_option maxRecDepth 20000 in
theorem zX12_isRead (s : SM) (a1 : Int32) (a2 : Int32) (a3 : Int32) : vX12_isRead s a1 a2 a3 = 0 ∨ vX12_isRead s a1 a2 a3 = 1 := (i01 (Or.inl rfl) (i01 (i01 (Or.inl rfl) (Or.inr rfl)) (Or.inl rfl)))
set_option maxRecDepth 20000 in
theorem pX12_isRead (a1 : Int32) (a2 : Int32) (a3 : Int32) {s : SM} {Q : Int32 → SM → Prop} (hr : rX12_isRead s a1 a2 a3) (h : Q (vX12_isRead s a1 a2 a3) s) : KI MX12_isRead 1 [.ref 248, .int a1, .int a2, .int a3] s Q := by
  refine bX12_isRead a1 a2 a3 ?_
  unfold rX12_isRead at hr
  unfold vX12_isRead at h
  refine ⟨hr.1, ?_⟩
  replace hr := hr.2
  refine ⟨fun c => ?_, fun c => ?_⟩
  · try simp only [if_pos c] at h
    first | exact h | contradiction
  · replace hr := hr c
    try simp only [if_neg c] at h
    refine ⟨hr, ?_⟩
    refine ⟨fun c => ?_, fun c => ?_⟩
    · try simp only [if_neg c] at h
      first | exact h | contradiction
    · try simp only [if_pos c] at h
      first | exact h | contradiction
set_option maxRecDepth 20000 in
theorem bX12_judged (a1 : Int32) {s : SM} {Q : Int32 → SM → Prop} (h : (((gI (pI s 248 0 (0 : Int32)) 248 38) = 0 → Q (-1 : Int32) (pI s 248 0 (0 : Int32))) ∧ (¬ (gI (pI s 248 0 (0 : Int32)) 248 38) = 0 → (((vX12_isIn (pI s 248 0 (0 : Int32)) a1 (0 : Int32) (4 : Int32)) = 0 → Q (-1 : Int32) (pI s 248 0 (0 : Int32))) ∧ (¬ (vX12_isIn (pI s 248 0 (0 : Int32)) a1 (0 : Int32) (4 : Int32)) = 0 → vp_in a1 5 ∧ Q (gI (pI s 248 0 (0 : Int32)) 263 (a1).toNatClampNeg) (pI s 248 0 (0 : Int32))))))) : KI MX12_judged 1 [.ref 248, .int a1] s Q := by
  show BI MX12_judged 1 0 [(0, .ref 248), (1, .int a1)] s Q
  refine JT_aload_n (q := 0) dX12_judged_0 rfl rfl ?_
  refine JT_iconst (v := 0) dX12_judged_1 ic_0 ?_
  refine JS_putI dX12_judged_2 flX12_1 BS_248 (Nat.le_of_ble_eq_true rfl) (Nat.le_of_ble_eq_true rfl) ct_12_0 ?_
  refine JT_aload_n (q := 0) dX12_judged_5 rfl rfl ?_
  refine JS_getI dX12_judged_6 flX12_413 BS_248 (Nat.le_of_ble_eq_true rfl) (Nat.le_of_ble_eq_true rfl) (Or.inr ct_12_38) ?_
  refine JT_if_eq (tgt := 30) dX12_judged_9 (by decide) (fun hc4 => ?_) (fun hc4 => ?_)
  · have h := h.1 hc4
    refine JT_iconst (v := -1) dX12_judged_30 ic_m1 ?_
    exact JS_iret dX12_judged_31 rfl rfl h
  · have h := h.2 hc4
    refine JT_iload_n (q := 1) dX12_judged_12 rfl rfl ?_
    refine JT_iconst (v := 0) dX12_judged_13 ic_0 ?_
    refine JT_iconst (v := 4) dX12_judged_14 ic_4 ?_
    refine JS_callSI (M' := MX12_isIn) (d' := 0) (As := [.int a1, .int (0 : Int32), .int (4 : Int32)]) (rest := []) (P := (fun zv9 wm9 => (vX12_isIn (pI s 248 0 (0 : Int32)) a1 (0 : Int32) (4 : Int32)) = zv9 ∧ (pI s 248 0 (0 : Int32)) = wm9)) dX12_judged_15 cvX12_202 okX12_isIn rfl (Nat.le_of_ble_eq_true rfl) (Nat.le_of_ble_eq_true rfl) (Nat.le_of_ble_eq_true rfl) (pX12_isIn  (a1) ((0 : Int32)) ((4 : Int32))  ⟨rfl, rfl⟩) (fun zv9 wm9 hq9 => ?_)
    obtain ⟨rfl, rfl⟩ := hq9
    refine JT_if_eq (tgt := 30) dX12_judged_18 (by decide) (fun hc2 => ?_) (fun hc2 => ?_)
    · have h := h.1 hc2
      refine JT_iconst (v := -1) dX12_judged_30 ic_m1 ?_
      exact JS_iret dX12_judged_31 rfl rfl h
    · have h := h.2 hc2
      refine JT_aload_n (q := 0) dX12_judged_21 rfl rfl ?_
      refine JS_getR (x := 263) dX12_judged_22 flX12_74 BS_248 (Nat.le_of_ble_eq_true rfl) (Nat.le_of_ble_eq_true rfl) (Or.inr ⟨_, ct_12_37⟩) RF_248_37 ?_
      refine JT_iload_n (q := 1) dX12_judged_25 rfl rfl ?_
      obtain ⟨o1, h⟩ := h
      refine JS_iald dX12_judged_26 BS_263 (Nat.le_of_ble_eq_true rfl) (Nat.le_of_ble_eq_true rfl) o1 ?_
      refine JT_goto (tgt := 31) dX12_judged_27 (by decide) ?_
      exact JS_iret dX12_judged_31 rfl rfl h
set_option maxRecDepth 20000 in
def vX12_judged (s : SM) (a1 : Int32) : Int32 := (if (gI (pI s 248 0 (0 : Int32)) 248 38) = 0 then (-1 : Int32) else (if (vX12_isIn (pI s 248 0 (0 : Int32)) a1 (0 : Int32) (4 : Int32)) = 0 then (-1 : Int32) else (gI (pI s 248 0 (0 : Int32)) 263 (a1).toNatClampNeg)))
set_option maxRecDepth 20000 in
def mX12_judged (s : SM) (a1 : Int32) : SM := (pI s 248 0 (0 : Int32))
set_option maxRecDepth 20000 in
def rX12_judged (s : SM) (a1 : Int32) : Prop := (¬ (gI (pI s 248 0 (0 : Int32)) 248 38) = 0 → (¬ (vX12_isIn (pI s 248 0 (0 : Int32)) a1 (0 : Int32) (4 : Int32)) = 0 → vp_in a1 5))
set_option maxRecDepth 20000 in
theorem pX12_judged (a1 : Int32) {s : SM} {Q : Int32 → SM → Prop} (hr : rX12_judged s a1) (h : Q (vX12_judged s a1) (mX12_judged s a1)) : KI MX12_judged 1 [.ref 248, .int a1] s Q := by
  refine bX12_judged a1 ?_
  unfold rX12_judged at hr
  unfold vX12_judged mX12_judged at h
  refine ⟨fun c => ?_, fun c => ?_⟩
  · try simp only [if_pos c] at h
    first | exact h | contradiction
  · replace hr := hr c
    try simp only [if_neg c] at h
    refine ⟨fun c => ?_, fun c => ?_⟩
    · try simp only [if_pos c] at h
      first | exact h | contradiction
    · replace hr := hr c
      try simp only [if_neg c] at h
      refine ⟨hr, ?_⟩
      first | exact h | contradiction
set_option maxRecDepth 20000 in
theorem bX12_keepsBefore_6 (a1 : Int32) {s : SM} {Q : SM → Prop} (h : (((552 : Int32) ≤ a1 → Q s) ∧ (¬ (552 : Int32) ≤ a1 → vp_in a1 552 ∧ vp_in (((552 : Int32) * ((gI s 248 25) - (1 : Int32))) + a1) 4416 ∧ BV MX12_keepsBefore 1 6 [(0, .ref 248), (1, .int (a1 + 1))] (pI s 255 ((((552 : Int32) * ((gI s 248 25) - (1 : Int32))) + a1)).toNatClampNeg (gI s 259 (a1).toNatClampNeg)) Q))) : BV MX12_keepsBefore 1 6 [(0, .ref 248), (1, .int a1)] s Q := by
  refine JT_iload_n (q := 1) dX12_keepsBefore_6 rfl rfl ?_
  refine JT_sipush (v := 552) dX12_keepsBefore_7 sp_552 ?_
  refine JT_icmp_ge (tgt := 42) dX12_keepsBefore_10 (by decide) (fun hc3 => ?_) (fun hc3 => ?_)
  · have h := h.1 hc3
    exact JS_vret dX12_keepsBefore_42 rfl h
  · have h := h.2 hc3
    refine JT_aload_n (q := 0) dX12_keepsBefore_13 rfl rfl ?_
    refine JS_getR (x := 255) dX12_keepsBefore_14 flX12_50 BS_248 (Nat.le_of_ble_eq_true rfl) (Nat.le_of_ble_eq_true rfl) (Or.inr ⟨_, ct_12_24⟩) RF_248_24 ?_
    refine JT_sipush (v := 552) dX12_keepsBefore_17 sp_552 ?_
    refine JT_aload_n (q := 0) dX12_keepsBefore_20 rfl rfl ?_
    refine JS_getI dX12_keepsBefore_21 flX12_250 BS_248 (Nat.le_of_ble_eq_true rfl) (Nat.le_of_ble_eq_true rfl) (Or.inl ct_12_25) ?_
    refine JT_iconst (v := 1) dX12_keepsBefore_24 ic_1 ?_
    refine JT_isub dX12_keepsBefore_25 ?_
    refine JT_imul dX12_keepsBefore_26 ?_
    refine JT_iload_n (q := 1) dX12_keepsBefore_27 rfl rfl ?_
    refine JT_iadd dX12_keepsBefore_28 ?_
    refine JT_aload_n (q := 0) dX12_keepsBefore_29 rfl rfl ?_
    refine JS_getR (x := 259) dX12_keepsBefore_30 flX12_62 BS_248 (Nat.le_of_ble_eq_true rfl) (Nat.le_of_ble_eq_true rfl) (Or.inr ⟨_, ct_12_31⟩) RF_248_31 ?_
    refine JT_iload_n (q := 1) dX12_keepsBefore_33 rfl rfl ?_
    obtain ⟨o1, h⟩ := h
    refine JS_iald dX12_keepsBefore_34 BS_259 (Nat.le_of_ble_eq_true rfl) (Nat.le_of_ble_eq_true rfl) o1 ?_
    obtain ⟨o2, h⟩ := h
    refine JS_iast dX12_keepsBefore_35 BS_255 (Nat.le_of_ble_eq_true rfl) (Nat.le_of_ble_eq_true rfl) o2 ?_
    refine JT_iinc (q := 1) (v := (a1 + 1)) (lv' := [(1, .int (a1 + 1)), (0, .ref 248)]) dX12_keepsBefore_36 rfl (by rfl) (Nat.le_of_ble_eq_true rfl) rfl ?_
    refine JT_goto (tgt := 6) dX12_keepsBefore_39 (by decide) ?_
    exact JT_sub [1, 0] rfl h
set_option maxRecDepth 20000 in
theorem bX12_keepsBefore  {s : SM} {Q : SM → Prop} (h : KV MX12_keep 0 [.ref 248] s (fun s1 => BV MX12_keepsBefore 1 6 [(0, .ref 248), (1, .int (0 : Int32))] s1 Q)) : KV MX12_keepsBefore 1 [.ref 248] s Q := by
  show BV MX12_keepsBefore 1 0 [(0, .ref 248)] s Q
  refine JT_aload_n (q := 0) dX12_keepsBefore_0 rfl rfl ?_
  refine JS_callVV (M' := MX12_keep) (d' := 0) (As := []) (rest := []) dX12_keepsBefore_1 cvX12_329 okX12_keep rfl (Nat.le_of_ble_eq_true rfl) BS_248 (Nat.le_of_ble_eq_true rfl) (Nat.le_of_ble_eq_true rfl) hci_12 (Nat.le_of_ble_eq_true rfl) (Nat.le_of_ble_eq_true rfl) h (fun s1 h => ?_)
  refine JT_iconst (v := 0) dX12_keepsBefore_4 ic_0 ?_
  refine JT_istore_n (lv' := [(1, .int (0 : Int32)), (0, .ref 248)]) dX12_keepsBefore_5 rfl (Nat.le_of_ble_eq_true rfl) rfl ?_
  exact JT_sub [1, 0] rfl h
set_option maxRecDepth 20000 in
theorem bX12_leastOf_7 {r1 n1 : Nat} (hr1 : BS r1 = (some .int, n1) ∧ 2 ≤ r1 ∧ r1 < 279) (a2 : Int32) (a3 : Int32) (a4 : Int32) {s : SM} {Q : Int32 → SM → Prop} (h : ((a2 ≤ a4 → Q a3 s) ∧ (¬ a2 ≤ a4 → vp_in a4 n1 ∧ rX12_of s (gI s r1 (a4).toNatClampNeg) (2 : Int32) ∧ ((a3 ≤ (vX12_of s (gI s r1 (a4).toNatClampNeg) (2 : Int32)) → BI MX12_leastOf 1 7 [(0, .ref 248), (1, .ref r1), (2, .int a2), (3, .int a3), (4, .int (a4 + 1))] s Q) ∧ (¬ a3 ≤ (vX12_of s (gI s r1 (a4).toNatClampNeg) (2 : Int32)) → vp_in a4 n1 ∧ rX12_of s (gI s r1 (a4).toNatClampNeg) (2 : Int32) ∧ BI MX12_leastOf 1 7 [(0, .ref 248), (1, .ref r1), (2, .int a2), (3, .int (vX12_of s (gI s r1 (a4).toNatClampNeg) (2 : Int32))), (4, .int (a4 + 1))] s Q))))) : BI MX12_leastOf 1 7 [(0, .ref 248), (1, .ref r1), (2, .int a2), (3, .int a3), (4, .int a4)] s Q := by
  refine JT_iload (q := 4) dX12_leastOf_7 rfl ?_
  refine JT_iload_n (q := 2) dX12_leastOf_9 rfl rfl ?_
  refine JT_icmp_ge (tgt := 46) dX12_leastOf_10 (by decide) (fun hc6 => ?_) (fun hc6 => ?_)
  · have h := h.1 hc6
    refine JT_iload_n (q := 3) dX12_leastOf_46 rfl rfl ?_
    exact JS_iret dX12_leastOf_47 rfl rfl h
  · have h := h.2 hc6
    refine JT_aload_n (q := 0) dX12_leastOf_13 rfl rfl ?_
    refine JT_aload_n (q := 1) dX12_leastOf_14 rfl rfl ?_
    refine JT_iload (q := 4) dX12_leastOf_15 rfl ?_
    obtain ⟨o1, h⟩ := h
    refine JS_iald dX12_leastOf_17 hr1.1 hr1.2.1 hr1.2.2 o1 ?_
    refine JT_iconst (v := 2) dX12_leastOf_18 ic_2 ?_
    obtain ⟨o5, h⟩ := h
    refine JS_callVI (M' := MX12_of) (d' := 0) (As := [.int (gI s r1 (a4).toNatClampNeg), .int (2 : Int32)]) (rest := []) (P := (fun zv9 wm9 => (vX12_of s (gI s r1 (a4).toNatClampNeg) (2 : Int32)) = zv9 ∧ s = wm9)) dX12_leastOf_19 cvX12_265 okX12_of rfl (Nat.le_of_ble_eq_true rfl) BS_248 (Nat.le_of_ble_eq_true rfl) (Nat.le_of_ble_eq_true rfl) hci_12 (Nat.le_of_ble_eq_true rfl) (Nat.le_of_ble_eq_true rfl) (pX12_of  ((gI s r1 (a4).toNatClampNeg)) ((2 : Int32)) o5 ⟨rfl, rfl⟩) (fun zv9 wm9 hq9 => ?_)
    obtain ⟨rfl, rfl⟩ := hq9
    refine JT_iload_n (q := 3) dX12_leastOf_22 rfl rfl ?_
    refine JT_icmp_ge (tgt := 38) dX12_leastOf_23 (by decide) (fun hc4 => ?_) (fun hc4 => ?_)
    · have h := h.1 hc4
      refine JT_iload_n (q := 3) dX12_leastOf_38 rfl rfl ?_
      refine JT_istore_n (lv' := [(3, .int a3), (0, .ref 248), (1, .ref r1), (2, .int a2), (4, .int a4)]) dX12_leastOf_39 rfl (Nat.le_of_ble_eq_true rfl) rfl ?_
      refine JT_iinc (q := 4) (v := (a4 + 1)) (lv' := [(4, .int (a4 + 1)), (3, .int a3), (0, .ref 248), (1, .ref r1), (2, .int a2)]) dX12_leastOf_40 rfl (by rfl) (Nat.le_of_ble_eq_true rfl) rfl ?_
      refine JT_goto (tgt := 7) dX12_leastOf_43 (by decide) ?_
      exact JT_sub [2, 3, 4, 1, 0] rfl h
    · have h := h.2 hc4
      refine JT_aload_n (q := 0) dX12_leastOf_26 rfl rfl ?_
      refine JT_aload_n (q := 1) dX12_leastOf_27 rfl rfl ?_
      refine JT_iload (q := 4) dX12_leastOf_28 rfl ?_
      obtain ⟨o2, h⟩ := h
      refine JS_iald dX12_leastOf_30 hr1.1 hr1.2.1 hr1.2.2 o2 ?_
      refine JT_iconst (v := 2) dX12_leastOf_31 ic_2 ?_
      obtain ⟨o3, h⟩ := h
      refine JS_callVI (M' := MX12_of) (d' := 0) (As := [.int (gI s r1 (a4).toNatClampNeg), .int (2 : Int32)]) (rest := []) (P := (fun zv9 wm9 => (vX12_of s (gI s r1 (a4).toNatClampNeg) (2 : Int32)) = zv9 ∧ s = wm9)) dX12_leastOf_32 cvX12_265 okX12_of rfl (Nat.le_of_ble_eq_true rfl) BS_248 (Nat.le_of_ble_eq_true rfl) (Nat.le_of_ble_eq_true rfl) hci_12 (Nat.le_of_ble_eq_true rfl) (Nat.le_of_ble_eq_true rfl) (pX12_of  ((gI s r1 (a4).toNatClampNeg)) ((2 : Int32)) o3 ⟨rfl, rfl⟩) (fun zv9 wm9 hq9 => ?_)
      obtain ⟨rfl, rfl⟩ := hq9
      refine JT_goto (tgt := 39) dX12_leastOf_35 (by decide) ?_
      refine JT_istore_n (lv' := [(3, .int (vX12_of s (gI s r1 (a4).toNatClampNeg) (2 : Int32))), (0, .ref 248), (1, .ref r1), (2, .int a2), (4, .int a4)]) dX12_leastOf_39 rfl (Nat.le_of_ble_eq_true rfl) rfl ?_
      refine JT_iinc (q := 4) (v := (a4 + 1)) (lv' := [(4, .int (a4 + 1)), (3, .int (vX12_of s (gI s r1 (a4).toNatClampNeg) (2 : Int32))), (0, .ref 248), (1, .ref r1), (2, .int a2)]) dX12_leastOf_40 rfl (by rfl) (Nat.le_of_ble_eq_true rfl) rfl ?_
      refine JT_goto (tgt := 7) dX12_leastOf_43 (by decide) ?_
      exact JT_sub [2, 3, 4, 1, 0] rfl h
set_option maxRecDepth 20000 in
theorem bX12_leastOf {r1 n1 : Nat} (hr1 : BS r1 = (some .int, n1) ∧ 2 ≤ r1 ∧ r1 < 279) (a2 : Int32) {s : SM} {Q : Int32 → SM → Prop} (h : BI MX12_leastOf 1 7 [(0, .ref 248), (1, .ref r1), (2, .int a2), (3, .int (1000000000 : Int32)), (4, .int (0 : Int32))] s Q) : KI MX12_leastOf 1 [.ref 248, .ref r1, .int a2] s Q := by
  show BI MX12_leastOf 1 0 [(0, .ref 248), (1, .ref r1), (2, .int a2)] s Q
  refine JT_ldcw dX12_leastOf_0 kwX12_345 ?_
  refine JT_istore_n (lv' := [(3, .int (1000000000 : Int32)), (0, .ref 248), (1, .ref r1), (2, .int a2)]) dX12_leastOf_3 rfl (Nat.le_of_ble_eq_true rfl) rfl ?_
  refine JT_iconst (v := 0) dX12_leastOf_4 ic_0 ?_
  refine JT_istore (lv' := [(4, .int (0 : Int32)), (3, .int (1000000000 : Int32)), (0, .ref 248), (1, .ref r1), (2, .int a2)]) dX12_leastOf_5 (Nat.le_of_ble_eq_true rfl) rfl ?_
  exact JT_sub [2, 3, 4, 1, 0] rfl h
set_option maxRecDepth 20000 in
theorem bX12_markOf_5 (a1 : Int32) (a2 : Int32) (a3 : Int32) (a4 : Int32) {s : SM} {Q : Int32 → SM → Prop} (h : ((((2 : Int32) * (gI s 250 ((34 : Int32)).toNatClampNeg)) ≤ a4 → Q (if a2 = (-1 : Int32) then a3 else (-1 : Int32)) s) ∧ (¬ ((2 : Int32) * (gI s 250 ((34 : Int32)).toNatClampNeg)) ≤ a4 → rX12_of s (a4 / (2 : Int32)) ((6 : Int32) + (a4 - a4 / (2 : Int32) * (2 : Int32))) ∧ (((vX12_of s (a4 / (2 : Int32)) ((6 : Int32) + (a4 - a4 / (2 : Int32) * (2 : Int32)))) = a1 → ((¬ a3 = a2 → BI MX12_markOf 1 5 [(0, .ref 248), (1, .int a1), (2, .int a2), (3, .int (a3 + 1)), (4, .int (a4 + 1))] s Q) ∧ (a3 = a2 → Q a4 s))) ∧ (¬ (vX12_of s (a4 / (2 : Int32)) ((6 : Int32) + (a4 - a4 / (2 : Int32) * (2 : Int32)))) = a1 → BI MX12_markOf 1 5 [(0, .ref 248), (1, .int a1), (2, .int a2), (3, .int a3), (4, .int (a4 + 1))] s Q))))) : BI MX12_markOf 1 5 [(0, .ref 248), (1, .int a1), (2, .int a2), (3, .int a3), (4, .int a4)] s Q := by
  refine JT_iload (q := 4) dX12_markOf_5 rfl ?_
  refine JT_iconst (v := 2) dX12_markOf_7 ic_2 ?_
  refine JT_aload_n (q := 0) dX12_markOf_8 rfl rfl ?_
  refine JS_getR (x := 250) dX12_markOf_9 flX12_33 BS_248 (Nat.le_of_ble_eq_true rfl) (Nat.le_of_ble_eq_true rfl) (Or.inr ⟨_, ct_12_6⟩) RF_248_6 ?_
  refine JT_bipush (v := 34) dX12_markOf_12 bp_34 ?_
  refine JS_iald dX12_markOf_14 BS_250 (Nat.le_of_ble_eq_true rfl) (Nat.le_of_ble_eq_true rfl) (by unfold vp_in; decide) ?_
  refine JT_imul dX12_markOf_15 ?_
  refine JT_icmp_ge (tgt := 58) dX12_markOf_16 (by decide) (fun hc6 => ?_) (fun hc6 => ?_)
  · have h := h.1 hc6
    refine JT_iload_n (q := 2) dX12_markOf_58 rfl rfl ?_
    refine JT_iconst (v := -1) dX12_markOf_59 ic_m1 ?_
    have hj1 : ∀ v : Int32, v = (if a2 = (-1 : Int32) then a3 else (-1 : Int32)) → JT MX12_markOf 1 0 0 68 [(0, .ref 248), (1, .int a1), (2, .int a2), (3, .int a3), (4, .int a4)] [.int v] (std s) (KQ Q) := by
      intro v hv
      subst hv
      exact JS_iret dX12_markOf_68 rfl rfl h
    refine JT_icmp_ne (tgt := 67) dX12_markOf_60 (by decide) (fun hc2 => ?_) (fun hc2 => ?_)
    · refine JT_iconst (v := -1) dX12_markOf_67 ic_m1 ?_
      exact hj1 _ (by rw [if_neg hc2])
    · refine JT_iload_n (q := 3) dX12_markOf_63 rfl rfl ?_
      refine JT_goto (tgt := 68) dX12_markOf_64 (by decide) ?_
      exact hj1 _ (by rw [if_pos hc2])
  · have h := h.2 hc6
    refine JT_aload_n (q := 0) dX12_markOf_19 rfl rfl ?_
    refine JT_iload (q := 4) dX12_markOf_20 rfl ?_
    refine JT_iconst (v := 2) dX12_markOf_22 ic_2 ?_
    refine JT_idiv dX12_markOf_23 (by decide) ?_
    refine JT_bipush (v := 6) dX12_markOf_24 bp_6 ?_
    refine JT_iload (q := 4) dX12_markOf_26 rfl ?_
    refine JT_iconst (v := 2) dX12_markOf_28 ic_2 ?_
    refine JT_irem dX12_markOf_29 (by decide) ?_
    refine JT_iadd dX12_markOf_30 ?_
    obtain ⟨o5, h⟩ := h
    refine JS_callVI (M' := MX12_of) (d' := 0) (As := [.int (a4 / (2 : Int32)), .int ((6 : Int32) + (a4 - a4 / (2 : Int32) * (2 : Int32)))]) (rest := []) (P := (fun zv9 wm9 => (vX12_of s (a4 / (2 : Int32)) ((6 : Int32) + (a4 - a4 / (2 : Int32) * (2 : Int32)))) = zv9 ∧ s = wm9)) dX12_markOf_31 cvX12_265 okX12_of rfl (Nat.le_of_ble_eq_true rfl) BS_248 (Nat.le_of_ble_eq_true rfl) (Nat.le_of_ble_eq_true rfl) hci_12 (Nat.le_of_ble_eq_true rfl) (Nat.le_of_ble_eq_true rfl) (pX12_of  ((a4 / (2 : Int32))) (((6 : Int32) + (a4 - a4 / (2 : Int32) * (2 : Int32)))) o5 ⟨rfl, rfl⟩) (fun zv9 wm9 hq9 => ?_)
    obtain ⟨rfl, rfl⟩ := hq9
    refine JT_iload_n (q := 1) dX12_markOf_34 rfl rfl ?_
    refine JT_icmp_eq (tgt := 41) dX12_markOf_35 (by decide) (fun hc4 => ?_) (fun hc4 => ?_)
    · have h := h.1 hc4
      refine JT_iload_n (q := 3) dX12_markOf_41 rfl rfl ?_
      refine JT_iload_n (q := 2) dX12_markOf_42 rfl rfl ?_
      refine JT_icmp_ne (tgt := 49) dX12_markOf_43 (by decide) (fun hc3 => ?_) (fun hc3 => ?_)
      · have h := h.1 hc3
        refine JT_iinc (q := 3) (v := (a3 + 1)) (lv' := [(3, .int (a3 + 1)), (0, .ref 248), (1, .int a1), (2, .int a2), (4, .int a4)]) dX12_markOf_49 rfl (by rfl) (Nat.le_of_ble_eq_true rfl) rfl ?_
        refine JT_iinc (q := 4) (v := (a4 + 1)) (lv' := [(4, .int (a4 + 1)), (3, .int (a3 + 1)), (0, .ref 248), (1, .int a1), (2, .int a2)]) dX12_markOf_52 rfl (by rfl) (Nat.le_of_ble_eq_true rfl) rfl ?_
        refine JT_goto (tgt := 5) dX12_markOf_55 (by decide) ?_
        exact JT_sub [2, 3, 4, 1, 0] rfl h
      · have h := h.2 hc3
        refine JT_iload (q := 4) dX12_markOf_46 rfl ?_
        exact JS_iret dX12_markOf_48 rfl rfl h
    · have h := h.2 hc4
      refine JT_goto (tgt := 52) dX12_markOf_38 (by decide) ?_
      refine JT_iinc (q := 4) (v := (a4 + 1)) (lv' := [(4, .int (a4 + 1)), (0, .ref 248), (1, .int a1), (2, .int a2), (3, .int a3)]) dX12_markOf_52 rfl (by rfl) (Nat.le_of_ble_eq_true rfl) rfl ?_
      refine JT_goto (tgt := 5) dX12_markOf_55 (by decide) ?_
      exact JT_sub [1, 2, 3, 4, 0] rfl h
set_option maxRecDepth 20000 in
theorem bX12_markOf (a1 : Int32) (a2 : Int32) {s : SM} {Q : Int32 → SM → Prop} (h : BI MX12_markOf 1 5 [(0, .ref 248), (1, .int a1), (2, .int a2), (3, .int (0 : Int32)), (4, .int (0 : Int32))] s Q) : KI MX12_markOf 1 [.ref 248, .int a1, .int a2] s Q := by
  show BI MX12_markOf 1 0 [(0, .ref 248), (1, .int a1), (2, .int a2)] s Q
  refine JT_iconst (v := 0) dX12_markOf_0 ic_0 ?_
  refine JT_istore_n (lv' := [(3, .int (0 : Int32)), (0, .ref 248), (1, .int a1), (2, .int a2)]) dX12_markOf_1 rfl (Nat.le_of_ble_eq_true rfl) rfl ?_
  refine JT_iconst (v := 0) dX12_markOf_2 ic_0 ?_
  refine JT_istore (lv' := [(4, .int (0 : Int32)), (3, .int (0 : Int32)), (0, .ref 248), (1, .int a1), (2, .int a2)]) dX12_markOf_3 (Nat.le_of_ble_eq_true rfl) rfl ?_
  exact JT_sub [2, 3, 4, 1, 0] rfl h
set_option maxRecDepth 20000 in
theorem bX12_marksOn_5 (a1 : Int32) (a2 : Int32) (a3 : Int32) (a4 : Int32) {s : SM} {Q : Int32 → SM → Prop} (h : (((gI s 250 ((34 : Int32)).toNatClampNeg) ≤ a4 → Q a3 s) ∧ (¬ (gI s 250 ((34 : Int32)).toNatClampNeg) ≤ a4 → BI MX12_marksOn 1 20 [(0, .ref 248), (1, .int a1), (2, .int a2), (3, .int a3), (4, .int a4), (5, .int (0 : Int32))] s Q))) : BI MX12_marksOn 1 5 [(0, .ref 248), (1, .int a1), (2, .int a2), (3, .int a3), (4, .int a4)] s Q := by
  refine JT_iload (q := 4) dX12_marksOn_5 rfl ?_
  refine JT_aload_n (q := 0) dX12_marksOn_7 rfl rfl ?_
  refine JS_getR (x := 250) dX12_marksOn_8 flX12_33 BS_248 (Nat.le_of_ble_eq_true rfl) (Nat.le_of_ble_eq_true rfl) (Or.inr ⟨_, ct_12_6⟩) RF_248_6 ?_
  refine JT_bipush (v := 34) dX12_marksOn_11 bp_34 ?_
  refine JS_iald dX12_marksOn_13 BS_250 (Nat.le_of_ble_eq_true rfl) (Nat.le_of_ble_eq_true rfl) (by unfold vp_in; decide) ?_
  refine JT_icmp_ge (tgt := 72) dX12_marksOn_14 (by decide) (fun hc1 => ?_) (fun hc1 => ?_)
  · have h := h.1 hc1
    refine JT_iload_n (q := 3) dX12_marksOn_72 rfl rfl ?_
    exact JS_iret dX12_marksOn_73 rfl rfl h
  · have h := h.2 hc1
    refine JT_iconst (v := 0) dX12_marksOn_17 ic_0 ?_
    refine JT_istore (lv' := [(5, .int (0 : Int32)), (0, .ref 248), (1, .int a1), (2, .int a2), (3, .int a3), (4, .int a4)]) dX12_marksOn_18 (Nat.le_of_ble_eq_true rfl) rfl ?_
    exact JT_sub [1, 2, 3, 4, 5, 0] rfl h
set_option maxRecDepth 20000 in
theorem bX12_marksOn_20 (a1 : Int32) (a2 : Int32) (a3 : Int32) (a4 : Int32) (a5 : Int32) {s : SM} {Q : Int32 → SM → Prop} (h : (((2 : Int32) ≤ a5 → BI MX12_marksOn 1 5 [(0, .ref 248), (1, .int a1), (2, .int a2), (3, .int a3), (4, .int (a4 + 1))] s Q) ∧ (¬ (2 : Int32) ≤ a5 → rX12_of s a4 ((6 : Int32) + a5) ∧ ((¬ (vX12_of s a4 ((6 : Int32) + a5)) = a1 → BI MX12_marksOn 1 20 [(0, .ref 248), (1, .int a1), (2, .int a2), (3, .int (a3 + (0 : Int32))), (4, .int a4), (5, .int (a5 + 1))] s Q) ∧ ((vX12_of s a4 ((6 : Int32) + a5)) = a1 → rX12_of s a4 (4 : Int32) ∧ BI MX12_marksOn 1 20 [(0, .ref 248), (1, .int a1), (2, .int a2), (3, .int (a3 + (if a2 < (vX12_of s a4 (4 : Int32)) then (0 : Int32) else (1 : Int32)))), (4, .int a4), (5, .int (a5 + 1))] s Q))))) : BI MX12_marksOn 1 20 [(0, .ref 248), (1, .int a1), (2, .int a2), (3, .int a3), (4, .int a4), (5, .int a5)] s Q := by
  refine JT_iload (q := 5) dX12_marksOn_20 rfl ?_
  refine JT_iconst (v := 2) dX12_marksOn_22 ic_2 ?_
  refine JT_icmp_ge (tgt := 66) dX12_marksOn_23 (by decide) (fun hc6 => ?_) (fun hc6 => ?_)
  · have h := h.1 hc6
    refine JT_iinc (q := 4) (v := (a4 + 1)) (lv' := [(4, .int (a4 + 1)), (0, .ref 248), (1, .int a1), (2, .int a2), (3, .int a3), (5, .int a5)]) dX12_marksOn_66 rfl (by rfl) (Nat.le_of_ble_eq_true rfl) rfl ?_
    refine JT_goto (tgt := 5) dX12_marksOn_69 (by decide) ?_
    exact JT_sub [1, 2, 3, 4, 0] rfl h
  · have h := h.2 hc6
    refine JT_iload_n (q := 3) dX12_marksOn_26 rfl rfl ?_
    refine JT_aload_n (q := 0) dX12_marksOn_27 rfl rfl ?_
    refine JT_iload (q := 4) dX12_marksOn_28 rfl ?_
    refine JT_bipush (v := 6) dX12_marksOn_30 bp_6 ?_
    refine JT_iload (q := 5) dX12_marksOn_32 rfl ?_
    refine JT_iadd dX12_marksOn_34 ?_
    obtain ⟨o5, h⟩ := h
    refine JS_callVI (M' := MX12_of) (d' := 0) (As := [.int a4, .int ((6 : Int32) + a5)]) (rest := [.int a3]) (P := (fun zv9 wm9 => (vX12_of s a4 ((6 : Int32) + a5)) = zv9 ∧ s = wm9)) dX12_marksOn_35 cvX12_265 okX12_of rfl (Nat.le_of_ble_eq_true rfl) BS_248 (Nat.le_of_ble_eq_true rfl) (Nat.le_of_ble_eq_true rfl) hci_12 (Nat.le_of_ble_eq_true rfl) (Nat.le_of_ble_eq_true rfl) (pX12_of  (a4) (((6 : Int32) + a5)) o5 ⟨rfl, rfl⟩) (fun zv9 wm9 hq9 => ?_)
    obtain ⟨rfl, rfl⟩ := hq9
    refine JT_iload_n (q := 1) dX12_marksOn_38 rfl rfl ?_
    refine JT_icmp_ne (tgt := 57) dX12_marksOn_39 (by decide) (fun hc4 => ?_) (fun hc4 => ?_)
    · have h := h.1 hc4
      refine JT_iconst (v := 0) dX12_marksOn_57 ic_0 ?_
      refine JT_iadd dX12_marksOn_58 ?_
      refine JT_istore_n (lv' := [(3, .int (a3 + (0 : Int32))), (0, .ref 248), (1, .int a1), (2, .int a2), (4, .int a4), (5, .int a5)]) dX12_marksOn_59 rfl (Nat.le_of_ble_eq_true rfl) rfl ?_
      refine JT_iinc (q := 5) (v := (a5 + 1)) (lv' := [(5, .int (a5 + 1)), (3, .int (a3 + (0 : Int32))), (0, .ref 248), (1, .int a1), (2, .int a2), (4, .int a4)]) dX12_marksOn_60 rfl (by rfl) (Nat.le_of_ble_eq_true rfl) rfl ?_
      refine JT_goto (tgt := 20) dX12_marksOn_63 (by decide) ?_
      exact JT_sub [2, 3, 4, 1, 5, 0] rfl h
    · have h := h.2 hc4
      refine JT_aload_n (q := 0) dX12_marksOn_42 rfl rfl ?_
      refine JT_iload (q := 4) dX12_marksOn_43 rfl ?_
      refine JT_iconst (v := 4) dX12_marksOn_45 ic_4 ?_
      obtain ⟨o3, h⟩ := h
      refine JS_callVI (M' := MX12_of) (d' := 0) (As := [.int a4, .int (4 : Int32)]) (rest := [.int a3]) (P := (fun zv9 wm9 => (vX12_of s a4 (4 : Int32)) = zv9 ∧ s = wm9)) dX12_marksOn_46 cvX12_265 okX12_of rfl (Nat.le_of_ble_eq_true rfl) BS_248 (Nat.le_of_ble_eq_true rfl) (Nat.le_of_ble_eq_true rfl) hci_12 (Nat.le_of_ble_eq_true rfl) (Nat.le_of_ble_eq_true rfl) (pX12_of  (a4) ((4 : Int32)) o3 ⟨rfl, rfl⟩) (fun zv9 wm9 hq9 => ?_)
      obtain ⟨rfl, rfl⟩ := hq9
      refine JT_iload_n (q := 2) dX12_marksOn_49 rfl rfl ?_
      have hj1 : ∀ v : Int32, v = (if a2 < (vX12_of s a4 (4 : Int32)) then (0 : Int32) else (1 : Int32)) → JT MX12_marksOn 1 0 0 58 [(0, .ref 248), (1, .int a1), (2, .int a2), (3, .int a3), (4, .int a4), (5, .int a5)] [.int v, .int a3] (std s) (KQ Q) := by
        intro v hv
        subst hv
        refine JT_iadd dX12_marksOn_58 ?_
        refine JT_istore_n (lv' := [(3, .int (a3 + (if a2 < (vX12_of s a4 (4 : Int32)) then (0 : Int32) else (1 : Int32)))), (0, .ref 248), (1, .int a1), (2, .int a2), (4, .int a4), (5, .int a5)]) dX12_marksOn_59 rfl (Nat.le_of_ble_eq_true rfl) rfl ?_
        refine JT_iinc (q := 5) (v := (a5 + 1)) (lv' := [(5, .int (a5 + 1)), (3, .int (a3 + (if a2 < (vX12_of s a4 (4 : Int32)) then (0 : Int32) else (1 : Int32)))), (0, .ref 248), (1, .int a1), (2, .int a2), (4, .int a4)]) dX12_marksOn_60 rfl (by rfl) (Nat.le_of_ble_eq_true rfl) rfl ?_
        refine JT_goto (tgt := 20) dX12_marksOn_63 (by decide) ?_
        exact JT_sub [2, 3, 4, 1, 5, 0] rfl h
      refine JT_icmp_gt (tgt := 57) dX12_marksOn_50 (by decide) (fun hc2 => ?_) (fun hc2 => ?_)
      · refine JT_iconst (v := 0) dX12_marksOn_57 ic_0 ?_
        exact hj1 _ (by rw [if_pos hc2])
      · refine JT_iconst (v := 1) dX12_marksOn_53 ic_1 ?_
        refine JT_goto (tgt := 58) dX12_marksOn_54 (by decide) ?_
        exact hj1 _ (by rw [if_neg hc2])
set_option maxRecDepth 20000 in
theorem bX12_marksOn (a1 : Int32) (a2 : Int32) {s : SM} {Q : Int32 → SM → Prop} (h : BI MX12_marksOn 1 5 [(0, .ref 248), (1, .int a1), (2, .int a2), (3, .int (0 : Int32)), (4, .int (0 : Int32))] s Q) : KI MX12_marksOn 1 [.ref 248, .int a1, .int a2] s Q := by
  show BI MX12_marksOn 1 0 [(0, .ref 248), (1, .int a1), (2, .int a2)] s Q
  refine JT_iconst (v := 0) dX12_marksOn_0 ic_0 ?_
  refine JT_istore_n (lv' := [(3, .int (0 : Int32)), (0, .ref 248), (1, .int a1), (2, .int a2)]) dX12_marksOn_1 rfl (Nat.le_of_ble_eq_true rfl) rfl ?_
  refine JT_iconst (v := 0) dX12_marksOn_2 ic_0 ?_
  refine JT_istore (lv' := [(4, .int (0 : Int32)), (3, .int (0 : Int32)), (0, .ref 248), (1, .int a1), (2, .int a2)]) dX12_marksOn_3 (Nat.le_of_ble_eq_true rfl) rfl ?_
  exact JT_sub [2, 3, 4, 1, 0] rfl h
set_option maxRecDepth 20000 in
theorem bX12_next_0  {s : SM} {Q : SM → Prop} (h : rX12_peek s  ∧ (((vX12_peek s ) = (32 : Int32) → BV MX12_next 1 0 [(0, .ref 248)] (pI s 248 4 ((gI s 248 4) + (1 : Int32))) Q) ∧ (¬ (vX12_peek s ) = (32 : Int32) → rX12_peek s  ∧ ((¬ (vX12_peek s ) = (10 : Int32) → (((gI (pI (pI s 248 12 (gI s 248 4)) 248 13 (0 : Int32)) 248 3) ≤ (gI (pI (pI s 248 12 (gI s 248 4)) 248 13 (0 : Int32)) 248 5) → BV MX12_next 1 80 [(0, .ref 248)] (pI (pI s 248 12 (gI s 248 4)) 248 13 (0 : Int32)) Q) ∧ (¬ (gI (pI (pI s 248 12 (gI s 248 4)) 248 13 (0 : Int32)) 248 3) ≤ (gI (pI (pI s 248 12 (gI s 248 4)) 248 13 (0 : Int32)) 248 5) → (((gI (pI (pI s 248 12 (gI s 248 4)) 248 13 (0 : Int32)) 248 4) < (gI (pI (pI s 248 12 (gI s 248 4)) 248 13 (0 : Int32)) 248 5) → BV MX12_next 1 80 [(0, .ref 248)] (pI (pI s 248 12 (gI s 248 4)) 248 13 (0 : Int32)) Q) ∧ (¬ (gI (pI (pI s 248 12 (gI s 248 4)) 248 13 (0 : Int32)) 248 4) < (gI (pI (pI s 248 12 (gI s 248 4)) 248 13 (0 : Int32)) 248 5) → (∀ s1, s1 = (pI (pI (pI s 248 12 (gI s 248 4)) 248 13 (0 : Int32)) 248 12 (gI (pI (pI s 248 12 (gI s 248 4)) 248 13 (0 : Int32)) 248 5)) → Q (pI s1 248 11 (4 : Int32)))))))) ∧ ((vX12_peek s ) = (10 : Int32) → BV MX12_next 1 0 [(0, .ref 248)] (pI s 248 4 ((gI s 248 4) + (1 : Int32))) Q))))) : BV MX12_next 1 0 [(0, .ref 248)] s Q := by
  refine JT_aload_n (q := 0) dX12_next_0 rfl rfl ?_
  obtain ⟨o7, h⟩ := h
  refine JS_callVI (M' := MX12_peek) (d' := 0) (As := []) (rest := []) (P := (fun zv9 wm9 => (vX12_peek s ) = zv9 ∧ s = wm9)) dX12_next_1 cvX12_160 okX12_peek rfl (Nat.le_of_ble_eq_true rfl) BS_248 (Nat.le_of_ble_eq_true rfl) (Nat.le_of_ble_eq_true rfl) hci_12 (Nat.le_of_ble_eq_true rfl) (Nat.le_of_ble_eq_true rfl) (pX12_peek   o7 ⟨rfl, rfl⟩) (fun zv9 wm9 hq9 => ?_)
  obtain ⟨rfl, rfl⟩ := hq9
  refine JT_bipush (v := 32) dX12_next_4 bp_32 ?_
  refine JT_icmp_eq (tgt := 18) dX12_next_6 (by decide) (fun hc6 => ?_) (fun hc6 => ?_)
  · have h := h.1 hc6
    refine JT_aload_n (q := 0) dX12_next_18 rfl rfl ?_
    refine JT_dup dX12_next_19 rfl ?_
    refine JS_getI dX12_next_20 flX12_21 BS_248 (Nat.le_of_ble_eq_true rfl) (Nat.le_of_ble_eq_true rfl) (Or.inl ct_12_4) ?_
    refine JT_iconst (v := 1) dX12_next_23 ic_1 ?_
    refine JT_iadd dX12_next_24 ?_
    refine JS_putI dX12_next_25 flX12_21 BS_248 (Nat.le_of_ble_eq_true rfl) (Nat.le_of_ble_eq_true rfl) ct_12_4 ?_
    refine JT_goto (tgt := 0) dX12_next_28 (by decide) ?_
    exact JT_sub [0] rfl h
  · have h := h.2 hc6
    refine JT_aload_n (q := 0) dX12_next_9 rfl rfl ?_
    obtain ⟨o5, h⟩ := h
    refine JS_callVI (M' := MX12_peek) (d' := 0) (As := []) (rest := []) (P := (fun zv9 wm9 => (vX12_peek s ) = zv9 ∧ s = wm9)) dX12_next_10 cvX12_160 okX12_peek rfl (Nat.le_of_ble_eq_true rfl) BS_248 (Nat.le_of_ble_eq_true rfl) (Nat.le_of_ble_eq_true rfl) hci_12 (Nat.le_of_ble_eq_true rfl) (Nat.le_of_ble_eq_true rfl) (pX12_peek   o5 ⟨rfl, rfl⟩) (fun zv9 wm9 hq9 => ?_)
    obtain ⟨rfl, rfl⟩ := hq9
    refine JT_bipush (v := 10) dX12_next_13 bp_10 ?_
    refine JT_icmp_ne (tgt := 31) dX12_next_15 (by decide) (fun hc4 => ?_) (fun hc4 => ?_)
    · have h := h.1 hc4
      refine JT_aload_n (q := 0) dX12_next_31 rfl rfl ?_
      refine JT_aload_n (q := 0) dX12_next_32 rfl rfl ?_
      refine JS_getI dX12_next_33 flX12_21 BS_248 (Nat.le_of_ble_eq_true rfl) (Nat.le_of_ble_eq_true rfl) (Or.inl ct_12_4) ?_
      refine JS_putI dX12_next_36 flX12_164 BS_248 (Nat.le_of_ble_eq_true rfl) (Nat.le_of_ble_eq_true rfl) ct_12_12 ?_
      refine JT_aload_n (q := 0) dX12_next_39 rfl rfl ?_
      refine JT_iconst (v := 0) dX12_next_40 ic_0 ?_
      refine JS_putI dX12_next_41 flX12_167 BS_248 (Nat.le_of_ble_eq_true rfl) (Nat.le_of_ble_eq_true rfl) ct_12_13 ?_
      refine JT_aload_n (q := 0) dX12_next_44 rfl rfl ?_
      refine JS_getI dX12_next_45 flX12_18 BS_248 (Nat.le_of_ble_eq_true rfl) (Nat.le_of_ble_eq_true rfl) (Or.inl ct_12_3) ?_
      refine JT_aload_n (q := 0) dX12_next_48 rfl rfl ?_
      refine JS_getI dX12_next_49 flX12_24 BS_248 (Nat.le_of_ble_eq_true rfl) (Nat.le_of_ble_eq_true rfl) (Or.inl ct_12_5) ?_
      refine JT_icmp_le (tgt := 80) dX12_next_52 (by decide) (fun hc3 => ?_) (fun hc3 => ?_)
      · have h := h.1 hc3
        exact JT_sub [0] rfl h
      · have h := h.2 hc3
        refine JT_aload_n (q := 0) dX12_next_55 rfl rfl ?_
        refine JS_getI dX12_next_56 flX12_21 BS_248 (Nat.le_of_ble_eq_true rfl) (Nat.le_of_ble_eq_true rfl) (Or.inl ct_12_4) ?_
        refine JT_aload_n (q := 0) dX12_next_59 rfl rfl ?_
        refine JS_getI dX12_next_60 flX12_24 BS_248 (Nat.le_of_ble_eq_true rfl) (Nat.le_of_ble_eq_true rfl) (Or.inl ct_12_5) ?_
        refine JT_icmp_lt (tgt := 80) dX12_next_63 (by decide) (fun hc2 => ?_) (fun hc2 => ?_)
        · have h := h.1 hc2
          exact JT_sub [0] rfl h
        · have h := h.2 hc2
          refine JT_aload_n (q := 0) dX12_next_66 rfl rfl ?_
          refine JT_aload_n (q := 0) dX12_next_67 rfl rfl ?_
          refine JS_getI dX12_next_68 flX12_24 BS_248 (Nat.le_of_ble_eq_true rfl) (Nat.le_of_ble_eq_true rfl) (Or.inl ct_12_5) ?_
          refine JS_putI dX12_next_71 flX12_164 BS_248 (Nat.le_of_ble_eq_true rfl) (Nat.le_of_ble_eq_true rfl) ct_12_12 ?_
          obtain ⟨s1, hs1⟩ : ∃ z, z = (pI (pI (pI s 248 12 (gI s 248 4)) 248 13 (0 : Int32)) 248 12 (gI (pI (pI s 248 12 (gI s 248 4)) 248 13 (0 : Int32)) 248 5)) := ⟨_, rfl⟩
          replace h := h s1 hs1
          rw [← hs1]
          refine JT_aload_n (q := 0) dX12_next_74 rfl rfl ?_
          refine JT_iconst (v := 4) dX12_next_75 ic_4 ?_
          refine JS_putI dX12_next_76 flX12_170 BS_248 (Nat.le_of_ble_eq_true rfl) (Nat.le_of_ble_eq_true rfl) ct_12_11 ?_
          exact JS_vret dX12_next_79 rfl h
    · have h := h.2 hc4
      refine JT_aload_n (q := 0) dX12_next_18 rfl rfl ?_
      refine JT_dup dX12_next_19 rfl ?_
      refine JS_getI dX12_next_20 flX12_21 BS_248 (Nat.le_of_ble_eq_true rfl) (Nat.le_of_ble_eq_true rfl) (Or.inl ct_12_4) ?_
      refine JT_iconst (v := 1) dX12_next_23 ic_1 ?_
      refine JT_iadd dX12_next_24 ?_
      refine JS_putI dX12_next_25 flX12_21 BS_248 (Nat.le_of_ble_eq_true rfl) (Nat.le_of_ble_eq_true rfl) ct_12_4 ?_
      refine JT_goto (tgt := 0) dX12_next_28 (by decide) ?_
      exact JT_sub [0] rfl h
set_option maxRecDepth 20000 in
theorem bX12_next_80  {s : SM} {Q : SM → Prop} (h : rX12_peek s  ∧ ((0 ≤ (vX12_peek s ) → ((¬ (vX12_isSmall s (vX12_peek s )) = 0 → BV MX12_next 1 140 [(0, .ref 248), (1, .int (vX12_peek s ))] s Q) ∧ ((vX12_isSmall s (vX12_peek s )) = 0 → ((¬ (vX12_isDigit s (vX12_peek s )) = 0 → BV MX12_next 1 140 [(0, .ref 248), (1, .int (vX12_peek s ))] s Q) ∧ ((vX12_isDigit s (vX12_peek s )) = 0 → (∀ s1, s1 = (pI (pI (pI s 248 11 (if (vX12_peek s ) = (59 : Int32) then (3 : Int32) else (4 : Int32))) 248 14 (vX12_peek s )) 248 4 ((gI (pI (pI s 248 11 (if (vX12_peek s ) = (59 : Int32) then (3 : Int32) else (4 : Int32))) 248 14 (vX12_peek s )) 248 4) + (1 : Int32))) → Q s1)))))) ∧ (¬ 0 ≤ (vX12_peek s ) → Q (pI s 248 11 (0 : Int32))))) : BV MX12_next 1 80 [(0, .ref 248)] s Q := by
  refine JT_aload_n (q := 0) dX12_next_80 rfl rfl ?_
  obtain ⟨o9, h⟩ := h
  refine JS_callVI (M' := MX12_peek) (d' := 0) (As := []) (rest := []) (P := (fun zv9 wm9 => (vX12_peek s ) = zv9 ∧ s = wm9)) dX12_next_81 cvX12_160 okX12_peek rfl (Nat.le_of_ble_eq_true rfl) BS_248 (Nat.le_of_ble_eq_true rfl) (Nat.le_of_ble_eq_true rfl) hci_12 (Nat.le_of_ble_eq_true rfl) (Nat.le_of_ble_eq_true rfl) (pX12_peek   o9 ⟨rfl, rfl⟩) (fun zv9 wm9 hq9 => ?_)
  obtain ⟨rfl, rfl⟩ := hq9
  refine JT_istore_n (lv' := [(1, .int (vX12_peek s )), (0, .ref 248)]) dX12_next_84 rfl (Nat.le_of_ble_eq_true rfl) rfl ?_
  refine JT_iload_n (q := 0) dX12_next_85 rfl rfl ?_
  refine JT_if_ge (tgt := 95) dX12_next_86 (by decide) (fun hc8 => ?_) (fun hc8 => ?_)
  · have h := h.1 hc8
    refine JT_iload_n (q := 0) dX12_next_95 rfl rfl ?_
    refine JS_callSI (M' := MX12_isSmall) (d' := 0) (As := [.int (vX12_peek s )]) (rest := []) (P := (fun zv9 wm9 => (vX12_isSmall s (vX12_peek s )) = zv9 ∧ s = wm9)) dX12_next_96 cvX12_173 okX12_isSmall rfl (Nat.le_of_ble_eq_true rfl) (Nat.le_of_ble_eq_true rfl) (Nat.le_of_ble_eq_true rfl) (pX12_isSmall  ((vX12_peek s ))  ⟨rfl, rfl⟩) (fun zv9 wm9 hq9 => ?_)
    obtain ⟨rfl, rfl⟩ := hq9
    refine JT_if_ne (tgt := 140) dX12_next_99 (by decide) (fun hc6 => ?_) (fun hc6 => ?_)
    · have h := h.1 hc6
      exact JT_sub [1, 0] rfl h
    · have h := h.2 hc6
      refine JT_iload_n (q := 0) dX12_next_102 rfl rfl ?_
      refine JS_callSI (M' := MX12_isDigit) (d' := 0) (As := [.int (vX12_peek s )]) (rest := []) (P := (fun zv9 wm9 => (vX12_isDigit s (vX12_peek s )) = zv9 ∧ s = wm9)) dX12_next_103 cvX12_177 okX12_isDigit rfl (Nat.le_of_ble_eq_true rfl) (Nat.le_of_ble_eq_true rfl) (Nat.le_of_ble_eq_true rfl) (pX12_isDigit  ((vX12_peek s ))  ⟨rfl, rfl⟩) (fun zv9 wm9 hq9 => ?_)
      obtain ⟨rfl, rfl⟩ := hq9
      refine JT_if_ne (tgt := 140) dX12_next_106 (by decide) (fun hc4 => ?_) (fun hc4 => ?_)
      · have h := h.1 hc4
        exact JT_sub [1, 0] rfl h
      · have h := h.2 hc4
        refine JT_aload_n (q := 1) dX12_next_109 rfl rfl ?_
        refine JT_iload_n (q := 0) dX12_next_110 rfl rfl ?_
        refine JT_bipush (v := 59) dX12_next_111 bp_59 ?_
        have hj2 : ∀ v : Int32, v = (if (vX12_peek s ) = (59 : Int32) then (3 : Int32) else (4 : Int32)) → JT MX12_next 1 0 0 121 [(1, .int (vX12_peek s )), (0, .ref 248)] [.int v, .ref 248] (std s) (KQv Q) := by
          intro v hv
          subst hv
          refine JS_putI dX12_next_121 flX12_170 BS_248 (Nat.le_of_ble_eq_true rfl) (Nat.le_of_ble_eq_true rfl) ct_12_11 ?_
          refine JT_aload_n (q := 1) dX12_next_124 rfl rfl ?_
          refine JT_iload_n (q := 0) dX12_next_125 rfl rfl ?_
          refine JS_putI dX12_next_126 flX12_180 BS_248 (Nat.le_of_ble_eq_true rfl) (Nat.le_of_ble_eq_true rfl) ct_12_14 ?_
          refine JT_aload_n (q := 1) dX12_next_129 rfl rfl ?_
          refine JT_dup dX12_next_130 rfl ?_
          refine JS_getI dX12_next_131 flX12_21 BS_248 (Nat.le_of_ble_eq_true rfl) (Nat.le_of_ble_eq_true rfl) (Or.inl ct_12_4) ?_
          refine JT_iconst (v := 1) dX12_next_134 ic_1 ?_
          refine JT_iadd dX12_next_135 ?_
          refine JS_putI dX12_next_136 flX12_21 BS_248 (Nat.le_of_ble_eq_true rfl) (Nat.le_of_ble_eq_true rfl) ct_12_4 ?_
          obtain ⟨s1, hs1⟩ : ∃ z, z = (pI (pI (pI s 248 11 (if (vX12_peek s ) = (59 : Int32) then (3 : Int32) else (4 : Int32))) 248 14 (vX12_peek s )) 248 4 ((gI (pI (pI s 248 11 (if (vX12_peek s ) = (59 : Int32) then (3 : Int32) else (4 : Int32))) 248 14 (vX12_peek s )) 248 4) + (1 : Int32))) := ⟨_, rfl⟩
          replace h := h s1 hs1
          rw [← hs1]
          exact JS_vret dX12_next_139 rfl h
        refine JT_icmp_ne (tgt := 120) dX12_next_113 (by decide) (fun hc3 => ?_) (fun hc3 => ?_)
        · refine JT_iconst (v := 4) dX12_next_120 ic_4 ?_
          exact hj2 _ (by rw [if_neg hc3])
        · refine JT_iconst (v := 3) dX12_next_116 ic_3 ?_
          refine JT_goto (tgt := 121) dX12_next_117 (by decide) ?_
          exact hj2 _ (by rw [if_pos hc3])
  · have h := h.2 hc8
    refine JT_aload_n (q := 1) dX12_next_89 rfl rfl ?_
    refine JT_iconst (v := 0) dX12_next_90 ic_0 ?_
    refine JS_putI dX12_next_91 flX12_170 BS_248 (Nat.le_of_ble_eq_true rfl) (Nat.le_of_ble_eq_true rfl) ct_12_11 ?_
    exact JS_vret dX12_next_94 rfl h
set_option maxRecDepth 20000 in
theorem bX12_next_140 (a1 : Int32) {s : SM} {Q : SM → Prop} (h : BV MX12_next 1 157 [(0, .ref 248), (1, .int a1), (2, .int (vX12_isSmall s a1)), (3, .int (1 : Int32))] (pI (pL s 248 17 (0 : Int64)) 248 14 (0 : Int32)) Q) : BV MX12_next 1 140 [(0, .ref 248), (1, .int a1)] s Q := by
  refine JT_iload_n (q := 1) dX12_next_140 rfl rfl ?_
  refine JS_callSI (M' := MX12_isSmall) (d' := 0) (As := [.int a1]) (rest := []) (P := (fun zv9 wm9 => (vX12_isSmall s a1) = zv9 ∧ s = wm9)) dX12_next_141 cvX12_173 okX12_isSmall rfl (Nat.le_of_ble_eq_true rfl) (Nat.le_of_ble_eq_true rfl) (Nat.le_of_ble_eq_true rfl) (pX12_isSmall  (a1)  ⟨rfl, rfl⟩) (fun zv9 wm9 hq9 => ?_)
  obtain ⟨rfl, rfl⟩ := hq9
  refine JT_istore_n (lv' := [(2, .int (vX12_isSmall s a1)), (0, .ref 248), (1, .int a1)]) dX12_next_144 rfl (Nat.le_of_ble_eq_true rfl) rfl ?_
  refine JT_iconst (v := 1) dX12_next_145 ic_1 ?_
  refine JT_istore_n (lv' := [(3, .int (1 : Int32)), (2, .int (vX12_isSmall s a1)), (0, .ref 248), (1, .int a1)]) dX12_next_146 rfl (Nat.le_of_ble_eq_true rfl) rfl ?_
  refine JT_aload_n (q := 2) dX12_next_147 rfl rfl ?_
  refine JT_lconst (v := 0) dX12_next_148 (by decide) ?_
  refine JS_putL dX12_next_149 flX12_183 BS_248 (Nat.le_of_ble_eq_true rfl) (Nat.le_of_ble_eq_true rfl) ct_12_17 ?_
  refine JT_aload_n (q := 2) dX12_next_152 rfl rfl ?_
  refine JT_iconst (v := 0) dX12_next_153 ic_0 ?_
  refine JS_putI dX12_next_154 flX12_180 BS_248 (Nat.le_of_ble_eq_true rfl) (Nat.le_of_ble_eq_true rfl) ct_12_14 ?_
  exact JT_sub [2, 3, 1, 0] rfl h
set_option maxRecDepth 20000 in
theorem bX12_next_157 (a1 : Int32) (a2 : Int32) (a3 : Int32) {s : SM} {Q : SM → Prop} (h : rX12_peek s  ∧ ((¬ (vX12_isSmall s (vX12_peek s )) = 0 → BV MX12_next 1 177 [(0, .ref 248), (1, .int a1), (2, .int a2), (3, .int a3)] s Q) ∧ ((vX12_isSmall s (vX12_peek s )) = 0 → rX12_peek s  ∧ (((vX12_isDigit s (vX12_peek s )) = 0 → (∀ s1, s1 = (pI s 248 11 (if a3 = 0 then (4 : Int32) else (if a2 = 0 then (if (gI s 248 13) ≤ (2 : Int32) then (if a2 = 0 then (2 : Int32) else (1 : Int32)) else (4 : Int32)) else (if (gI s 248 13) ≤ (7 : Int32) then (if a2 = 0 then (2 : Int32) else (1 : Int32)) else (4 : Int32))))) → Q s1)) ∧ (¬ (vX12_isDigit s (vX12_peek s )) = 0 → BV MX12_next 1 177 [(0, .ref 248), (1, .int a1), (2, .int a2), (3, .int a3)] s Q))))) : BV MX12_next 1 157 [(0, .ref 248), (1, .int a1), (2, .int a2), (3, .int a3)] s Q := by
  refine JT_aload_n (q := 0) dX12_next_157 rfl rfl ?_
  obtain ⟨o14, h⟩ := h
  refine JS_callVI (M' := MX12_peek) (d' := 0) (As := []) (rest := []) (P := (fun zv9 wm9 => (vX12_peek s ) = zv9 ∧ s = wm9)) dX12_next_158 cvX12_160 okX12_peek rfl (Nat.le_of_ble_eq_true rfl) BS_248 (Nat.le_of_ble_eq_true rfl) (Nat.le_of_ble_eq_true rfl) hci_12 (Nat.le_of_ble_eq_true rfl) (Nat.le_of_ble_eq_true rfl) (pX12_peek   o14 ⟨rfl, rfl⟩) (fun zv9 wm9 hq9 => ?_)
  obtain ⟨rfl, rfl⟩ := hq9
  refine JS_callSI (M' := MX12_isSmall) (d' := 0) (As := [.int (vX12_peek s )]) (rest := []) (P := (fun zv9 wm9 => (vX12_isSmall s (vX12_peek s )) = zv9 ∧ s = wm9)) dX12_next_161 cvX12_173 okX12_isSmall rfl (Nat.le_of_ble_eq_true rfl) (Nat.le_of_ble_eq_true rfl) (Nat.le_of_ble_eq_true rfl) (pX12_isSmall  ((vX12_peek s ))  ⟨rfl, rfl⟩) (fun zv9 wm9 hq9 => ?_)
  obtain ⟨rfl, rfl⟩ := hq9
  refine JT_if_ne (tgt := 177) dX12_next_164 (by decide) (fun hc12 => ?_) (fun hc12 => ?_)
  · have h := h.1 hc12
    exact JT_sub [0, 1, 2, 3] rfl h
  · have h := h.2 hc12
    refine JT_aload_n (q := 0) dX12_next_167 rfl rfl ?_
    obtain ⟨o11, h⟩ := h
    refine JS_callVI (M' := MX12_peek) (d' := 0) (As := []) (rest := []) (P := (fun zv9 wm9 => (vX12_peek s ) = zv9 ∧ s = wm9)) dX12_next_168 cvX12_160 okX12_peek rfl (Nat.le_of_ble_eq_true rfl) BS_248 (Nat.le_of_ble_eq_true rfl) (Nat.le_of_ble_eq_true rfl) hci_12 (Nat.le_of_ble_eq_true rfl) (Nat.le_of_ble_eq_true rfl) (pX12_peek   o11 ⟨rfl, rfl⟩) (fun zv9 wm9 hq9 => ?_)
    obtain ⟨rfl, rfl⟩ := hq9
    refine JS_callSI (M' := MX12_isDigit) (d' := 0) (As := [.int (vX12_peek s )]) (rest := []) (P := (fun zv9 wm9 => (vX12_isDigit s (vX12_peek s )) = zv9 ∧ s = wm9)) dX12_next_171 cvX12_177 okX12_isDigit rfl (Nat.le_of_ble_eq_true rfl) (Nat.le_of_ble_eq_true rfl) (Nat.le_of_ble_eq_true rfl) (pX12_isDigit  ((vX12_peek s ))  ⟨rfl, rfl⟩) (fun zv9 wm9 hq9 => ?_)
    obtain ⟨rfl, rfl⟩ := hq9
    refine JT_if_eq (tgt := 274) dX12_next_174 (by decide) (fun hc9 => ?_) (fun hc9 => ?_)
    · have h := h.1 hc9
      refine JT_aload_n (q := 0) dX12_next_274 rfl rfl ?_
      refine JT_iload_n (q := 3) dX12_next_275 rfl rfl ?_
      have hj2 : ∀ v : Int32, v = (if a3 = 0 then (4 : Int32) else (if a2 = 0 then (if (gI s 248 13) ≤ (2 : Int32) then (if a2 = 0 then (2 : Int32) else (1 : Int32)) else (4 : Int32)) else (if (gI s 248 13) ≤ (7 : Int32) then (if a2 = 0 then (2 : Int32) else (1 : Int32)) else (4 : Int32)))) → JT MX12_next 1 0 0 309 [(0, .ref 248), (1, .int a1), (2, .int a2), (3, .int a3)] [.int v, .ref 248] (std s) (KQv Q) := by
        intro v hv
        subst hv
        refine JS_putI dX12_next_309 flX12_170 BS_248 (Nat.le_of_ble_eq_true rfl) (Nat.le_of_ble_eq_true rfl) ct_12_11 ?_
        obtain ⟨s1, hs1⟩ : ∃ z, z = (pI s 248 11 (if a3 = 0 then (4 : Int32) else (if a2 = 0 then (if (gI s 248 13) ≤ (2 : Int32) then (if a2 = 0 then (2 : Int32) else (1 : Int32)) else (4 : Int32)) else (if (gI s 248 13) ≤ (7 : Int32) then (if a2 = 0 then (2 : Int32) else (1 : Int32)) else (4 : Int32))))) := ⟨_, rfl⟩
        replace h := h s1 hs1
        rw [← hs1]
        exact JS_vret dX12_next_312 rfl h
      refine JT_if_eq (tgt := 296) dX12_next_276 (by decide) (fun hc3 => ?_) (fun hc3 => ?_)
      · refine JT_iconst (v := 4) dX12_next_296 ic_4 ?_
        refine JT_goto (tgt := 309) dX12_next_297 (by decide) ?_
        exact hj2 _ (by rw [if_pos hc3])
      · refine JT_aload_n (q := 0) dX12_next_279 rfl rfl ?_
        refine JS_getI dX12_next_280 flX12_167 BS_248 (Nat.le_of_ble_eq_true rfl) (Nat.le_of_ble_eq_true rfl) (Or.inl ct_12_13) ?_
        refine JT_iload_n (q := 2) dX12_next_283 rfl rfl ?_
        refine JT_if_eq (tgt := 292) dX12_next_284 (by decide) (fun hc4 => ?_) (fun hc4 => ?_)
        · refine JT_iconst (v := 2) dX12_next_292 ic_2 ?_
          refine JT_icmp_le (tgt := 300) dX12_next_293 (by decide) (fun hc5 => ?_) (fun hc5 => ?_)
          · refine JT_iload_n (q := 2) dX12_next_300 rfl rfl ?_
            refine JT_if_eq (tgt := 308) dX12_next_301 (by decide) (fun hc6 => ?_) (fun hc6 => ?_)
            · refine JT_iconst (v := 2) dX12_next_308 ic_2 ?_
              exact hj2 _ (by rw [if_neg hc3, if_pos hc4, if_pos hc5, if_pos hc6])
            · refine JT_iconst (v := 1) dX12_next_304 ic_1 ?_
              refine JT_goto (tgt := 309) dX12_next_305 (by decide) ?_
              exact hj2 _ (by rw [if_neg hc3, if_pos hc4, if_pos hc5, if_neg hc6])
          · refine JT_iconst (v := 4) dX12_next_296 ic_4 ?_
            refine JT_goto (tgt := 309) dX12_next_297 (by decide) ?_
            exact hj2 _ (by rw [if_neg hc3, if_pos hc4, if_neg hc5])
        · refine JT_bipush (v := 7) dX12_next_287 bp_7 ?_
          refine JT_goto (tgt := 293) dX12_next_289 (by decide) ?_
          refine JT_icmp_le (tgt := 300) dX12_next_293 (by decide) (fun hc7 => ?_) (fun hc7 => ?_)
          · refine JT_iload_n (q := 2) dX12_next_300 rfl rfl ?_
            refine JT_if_eq (tgt := 308) dX12_next_301 (by decide) (fun hc8 => ?_) (fun hc8 => ?_)
            · refine JT_iconst (v := 2) dX12_next_308 ic_2 ?_
              exact hj2 _ (by rw [if_neg hc3, if_neg hc4, if_pos hc7, if_pos hc8])
            · refine JT_iconst (v := 1) dX12_next_304 ic_1 ?_
              refine JT_goto (tgt := 309) dX12_next_305 (by decide) ?_
              exact hj2 _ (by rw [if_neg hc3, if_neg hc4, if_pos hc7, if_neg hc8])
          · refine JT_iconst (v := 4) dX12_next_296 ic_4 ?_
            refine JT_goto (tgt := 309) dX12_next_297 (by decide) ?_
            exact hj2 _ (by rw [if_neg hc3, if_neg hc4, if_neg hc7])
    · have h := h.2 hc9
      exact JT_sub [0, 1, 2, 3] rfl h
set_option maxRecDepth 20000 in
theorem bX12_next_177 (a1 : Int32) (a2 : Int32) (a3 : Int32) {s : SM} {Q : SM → Prop} (h : ((a3 = 0 → BV MX12_next 1 196 [(0, .ref 248), (1, .int a1), (2, .int a2), (3, .int a3)] s Q) ∧ (¬ a3 = 0 → rX12_peek s  ∧ ((¬ (vX12_isSmall s (vX12_peek s )) = a2 → BV MX12_next 1 196 [(0, .ref 248), (1, .int a1), (2, .int a2), (3, .int a3)] s Q) ∧ ((vX12_isSmall s (vX12_peek s )) = a2 → (((7 : Int32) ≤ (gI s 248 13) → BV MX12_next 1 224 [(0, .ref 248), (1, .int a1), (2, .int a2), (3, .int (1 : Int32))] s Q) ∧ (¬ (7 : Int32) ≤ (gI s 248 13) → rX12_peek s  ∧ BV MX12_next 1 224 [(0, .ref 248), (1, .int a1), (2, .int a2), (3, .int (1 : Int32))] (pL s 248 17 (((gL s 248 17) <<< (((8 : Int32)).toInt64 &&& 63)) ||| ((vX12_peek s )).toInt64)) Q))))))) : BV MX12_next 1 177 [(0, .ref 248), (1, .int a1), (2, .int a2), (3, .int a3)] s Q := by
  refine JT_iload_n (q := 3) dX12_next_177 rfl rfl ?_
  refine JT_if_eq (tgt := 196) dX12_next_178 (by decide) (fun hc6 => ?_) (fun hc6 => ?_)
  · have h := h.1 hc6
    exact JT_sub [0, 1, 2, 3] rfl h
  · have h := h.2 hc6
    refine JT_aload_n (q := 0) dX12_next_181 rfl rfl ?_
    obtain ⟨o5, h⟩ := h
    refine JS_callVI (M' := MX12_peek) (d' := 0) (As := []) (rest := []) (P := (fun zv9 wm9 => (vX12_peek s ) = zv9 ∧ s = wm9)) dX12_next_182 cvX12_160 okX12_peek rfl (Nat.le_of_ble_eq_true rfl) BS_248 (Nat.le_of_ble_eq_true rfl) (Nat.le_of_ble_eq_true rfl) hci_12 (Nat.le_of_ble_eq_true rfl) (Nat.le_of_ble_eq_true rfl) (pX12_peek   o5 ⟨rfl, rfl⟩) (fun zv9 wm9 hq9 => ?_)
    obtain ⟨rfl, rfl⟩ := hq9
    refine JS_callSI (M' := MX12_isSmall) (d' := 0) (As := [.int (vX12_peek s )]) (rest := []) (P := (fun zv9 wm9 => (vX12_isSmall s (vX12_peek s )) = zv9 ∧ s = wm9)) dX12_next_185 cvX12_173 okX12_isSmall rfl (Nat.le_of_ble_eq_true rfl) (Nat.le_of_ble_eq_true rfl) (Nat.le_of_ble_eq_true rfl) (pX12_isSmall  ((vX12_peek s ))  ⟨rfl, rfl⟩) (fun zv9 wm9 hq9 => ?_)
    obtain ⟨rfl, rfl⟩ := hq9
    refine JT_iload_n (q := 2) dX12_next_188 rfl rfl ?_
    refine JT_icmp_ne (tgt := 196) dX12_next_189 (by decide) (fun hc3 => ?_) (fun hc3 => ?_)
    · have h := h.1 hc3
      exact JT_sub [0, 1, 2, 3] rfl h
    · have h := h.2 hc3
      refine JT_iconst (v := 1) dX12_next_192 ic_1 ?_
      refine JT_goto (tgt := 197) dX12_next_193 (by decide) ?_
      refine JT_istore_n (lv' := [(3, .int (1 : Int32)), (0, .ref 248), (1, .int a1), (2, .int a2)]) dX12_next_197 rfl (Nat.le_of_ble_eq_true rfl) rfl ?_
      refine JT_aload_n (q := 1) dX12_next_198 rfl rfl ?_
      refine JS_getI dX12_next_199 flX12_167 BS_248 (Nat.le_of_ble_eq_true rfl) (Nat.le_of_ble_eq_true rfl) (Or.inl ct_12_13) ?_
      refine JT_bipush (v := 7) dX12_next_202 bp_7 ?_
      refine JT_icmp_ge (tgt := 224) dX12_next_204 (by decide) (fun hc2 => ?_) (fun hc2 => ?_)
      · have h := h.1 hc2
        exact JT_sub [1, 2, 3, 0] rfl h
      · have h := h.2 hc2
        refine JT_aload_n (q := 1) dX12_next_207 rfl rfl ?_
        refine JT_aload_n (q := 1) dX12_next_208 rfl rfl ?_
        refine JS_getL dX12_next_209 flX12_183 BS_248 (Nat.le_of_ble_eq_true rfl) (Nat.le_of_ble_eq_true rfl) ct_12_17 ?_
        refine JT_bipush (v := 8) dX12_next_212 bp_8 ?_
        refine JT_lshl dX12_next_214 ?_
        refine JT_aload_n (q := 1) dX12_next_215 rfl rfl ?_
        obtain ⟨o1, h⟩ := h
        refine JS_callVI (M' := MX12_peek) (d' := 0) (As := []) (rest := [.long ((gL s 248 17) <<< (((8 : Int32)).toInt64 &&& 63)), .ref 248]) (P := (fun zv9 wm9 => (vX12_peek s ) = zv9 ∧ s = wm9)) dX12_next_216 cvX12_160 okX12_peek rfl (Nat.le_of_ble_eq_true rfl) BS_248 (Nat.le_of_ble_eq_true rfl) (Nat.le_of_ble_eq_true rfl) hci_12 (Nat.le_of_ble_eq_true rfl) (Nat.le_of_ble_eq_true rfl) (pX12_peek   o1 ⟨rfl, rfl⟩) (fun zv9 wm9 hq9 => ?_)
        obtain ⟨rfl, rfl⟩ := hq9
        refine JT_i2l dX12_next_219 ?_
        refine JT_lor dX12_next_220 ?_
        refine JS_putL dX12_next_221 flX12_183 BS_248 (Nat.le_of_ble_eq_true rfl) (Nat.le_of_ble_eq_true rfl) ct_12_17 ?_
        exact JT_sub [1, 2, 3, 0] rfl h
set_option maxRecDepth 20000 in
theorem bX12_next_196 (a1 : Int32) (a2 : Int32) (a3 : Int32) {s : SM} {Q : SM → Prop} (h : (((7 : Int32) ≤ (gI s 248 13) → BV MX12_next 1 224 [(0, .ref 248), (1, .int a1), (2, .int a2), (3, .int (0 : Int32))] s Q) ∧ (¬ (7 : Int32) ≤ (gI s 248 13) → rX12_peek s  ∧ BV MX12_next 1 224 [(0, .ref 248), (1, .int a1), (2, .int a2), (3, .int (0 : Int32))] (pL s 248 17 (((gL s 248 17) <<< (((8 : Int32)).toInt64 &&& 63)) ||| ((vX12_peek s )).toInt64)) Q))) : BV MX12_next 1 196 [(0, .ref 248), (1, .int a1), (2, .int a2), (3, .int a3)] s Q := by
  refine JT_iconst (v := 0) dX12_next_196 ic_0 ?_
  refine JT_istore_n (lv' := [(3, .int (0 : Int32)), (0, .ref 248), (1, .int a1), (2, .int a2)]) dX12_next_197 rfl (Nat.le_of_ble_eq_true rfl) rfl ?_
  refine JT_aload_n (q := 1) dX12_next_198 rfl rfl ?_
  refine JS_getI dX12_next_199 flX12_167 BS_248 (Nat.le_of_ble_eq_true rfl) (Nat.le_of_ble_eq_true rfl) (Or.inl ct_12_13) ?_
  refine JT_bipush (v := 7) dX12_next_202 bp_7 ?_
  refine JT_icmp_ge (tgt := 224) dX12_next_204 (by decide) (fun hc2 => ?_) (fun hc2 => ?_)
  · have h := h.1 hc2
    exact JT_sub [1, 2, 3, 0] rfl h
  · have h := h.2 hc2
    refine JT_aload_n (q := 1) dX12_next_207 rfl rfl ?_
    refine JT_aload_n (q := 1) dX12_next_208 rfl rfl ?_
    refine JS_getL dX12_next_209 flX12_183 BS_248 (Nat.le_of_ble_eq_true rfl) (Nat.le_of_ble_eq_true rfl) ct_12_17 ?_
    refine JT_bipush (v := 8) dX12_next_212 bp_8 ?_
    refine JT_lshl dX12_next_214 ?_
    refine JT_aload_n (q := 1) dX12_next_215 rfl rfl ?_
    obtain ⟨o1, h⟩ := h
    refine JS_callVI (M' := MX12_peek) (d' := 0) (As := []) (rest := [.long ((gL s 248 17) <<< (((8 : Int32)).toInt64 &&& 63)), .ref 248]) (P := (fun zv9 wm9 => (vX12_peek s ) = zv9 ∧ s = wm9)) dX12_next_216 cvX12_160 okX12_peek rfl (Nat.le_of_ble_eq_true rfl) BS_248 (Nat.le_of_ble_eq_true rfl) (Nat.le_of_ble_eq_true rfl) hci_12 (Nat.le_of_ble_eq_true rfl) (Nat.le_of_ble_eq_true rfl) (pX12_peek   o1 ⟨rfl, rfl⟩) (fun zv9 wm9 hq9 => ?_)
    obtain ⟨rfl, rfl⟩ := hq9
    refine JT_i2l dX12_next_219 ?_
    refine JT_lor dX12_next_220 ?_
    refine JS_putL dX12_next_221 flX12_183 BS_248 (Nat.le_of_ble_eq_true rfl) (Nat.le_of_ble_eq_true rfl) ct_12_17 ?_
    exact JT_sub [1, 2, 3, 0] rfl h
set_option maxRecDepth 20000 in
theorem bX12_next_224 (a1 : Int32) (a2 : Int32) (a3 : Int32) {s : SM} {Q : SM → Prop} (h : (((2 : Int32) ≤ (gI s 248 13) → (∀ s1, s1 = (pI (pI s 248 13 ((gI s 248 13) + (1 : Int32))) 248 4 ((gI (pI s 248 13 ((gI s 248 13) + (1 : Int32))) 248 4) + (1 : Int32))) → BV MX12_next 1 157 [(0, .ref 248), (1, .int a1), (2, .int a2), (3, .int a3)] s1 Q)) ∧ (¬ (2 : Int32) ≤ (gI s 248 13) → rX12_peek s  ∧ (∀ s2, s2 = (pI (pI s 248 14 ((((10 : Int32) * (gI s 248 14)) + (vX12_peek s )) - (48 : Int32))) 248 13 ((gI (pI s 248 14 ((((10 : Int32) * (gI s 248 14)) + (vX12_peek s )) - (48 : Int32))) 248 13) + (1 : Int32))) → BV MX12_next 1 157 [(0, .ref 248), (1, .int a1), (2, .int a2), (3, .int a3)] (pI s2 248 4 ((gI s2 248 4) + (1 : Int32))) Q)))) : BV MX12_next 1 224 [(0, .ref 248), (1, .int a1), (2, .int a2), (3, .int a3)] s Q := by
  refine JT_aload_n (q := 0) dX12_next_224 rfl rfl ?_
  refine JS_getI dX12_next_225 flX12_167 BS_248 (Nat.le_of_ble_eq_true rfl) (Nat.le_of_ble_eq_true rfl) (Or.inl ct_12_13) ?_
  refine JT_iconst (v := 2) dX12_next_228 ic_2 ?_
  refine JT_icmp_ge (tgt := 251) dX12_next_229 (by decide) (fun hc4 => ?_) (fun hc4 => ?_)
  · have h := h.1 hc4
    refine JT_aload_n (q := 0) dX12_next_251 rfl rfl ?_
    refine JT_dup dX12_next_252 rfl ?_
    refine JS_getI dX12_next_253 flX12_167 BS_248 (Nat.le_of_ble_eq_true rfl) (Nat.le_of_ble_eq_true rfl) (Or.inl ct_12_13) ?_
    refine JT_iconst (v := 1) dX12_next_256 ic_1 ?_
    refine JT_iadd dX12_next_257 ?_
    refine JS_putI dX12_next_258 flX12_167 BS_248 (Nat.le_of_ble_eq_true rfl) (Nat.le_of_ble_eq_true rfl) ct_12_13 ?_
    refine JT_aload_n (q := 0) dX12_next_261 rfl rfl ?_
    refine JT_dup dX12_next_262 rfl ?_
    refine JS_getI dX12_next_263 flX12_21 BS_248 (Nat.le_of_ble_eq_true rfl) (Nat.le_of_ble_eq_true rfl) (Or.inl ct_12_4) ?_
    refine JT_iconst (v := 1) dX12_next_266 ic_1 ?_
    refine JT_iadd dX12_next_267 ?_
    refine JS_putI dX12_next_268 flX12_21 BS_248 (Nat.le_of_ble_eq_true rfl) (Nat.le_of_ble_eq_true rfl) ct_12_4 ?_
    obtain ⟨s1, hs1⟩ : ∃ z, z = (pI (pI s 248 13 ((gI s 248 13) + (1 : Int32))) 248 4 ((gI (pI s 248 13 ((gI s 248 13) + (1 : Int32))) 248 4) + (1 : Int32))) := ⟨_, rfl⟩
    replace h := h s1 hs1
    rw [← hs1]
    refine JT_goto (tgt := 157) dX12_next_271 (by decide) ?_
    exact JT_sub [0, 1, 2, 3] rfl h
  · have h := h.2 hc4
    refine JT_aload_n (q := 0) dX12_next_232 rfl rfl ?_
    refine JT_bipush (v := 10) dX12_next_233 bp_10 ?_
    refine JT_aload_n (q := 0) dX12_next_235 rfl rfl ?_
    refine JS_getI dX12_next_236 flX12_180 BS_248 (Nat.le_of_ble_eq_true rfl) (Nat.le_of_ble_eq_true rfl) (Or.inl ct_12_14) ?_
    refine JT_imul dX12_next_239 ?_
    refine JT_aload_n (q := 0) dX12_next_240 rfl rfl ?_
    obtain ⟨o3, h⟩ := h
    refine JS_callVI (M' := MX12_peek) (d' := 0) (As := []) (rest := [.int ((10 : Int32) * (gI s 248 14)), .ref 248]) (P := (fun zv9 wm9 => (vX12_peek s ) = zv9 ∧ s = wm9)) dX12_next_241 cvX12_160 okX12_peek rfl (Nat.le_of_ble_eq_true rfl) BS_248 (Nat.le_of_ble_eq_true rfl) (Nat.le_of_ble_eq_true rfl) hci_12 (Nat.le_of_ble_eq_true rfl) (Nat.le_of_ble_eq_true rfl) (pX12_peek   o3 ⟨rfl, rfl⟩) (fun zv9 wm9 hq9 => ?_)
    obtain ⟨rfl, rfl⟩ := hq9
    refine JT_iadd dX12_next_244 ?_
    refine JT_bipush (v := 48) dX12_next_245 bp_48 ?_
    refine JT_isub dX12_next_247 ?_
    refine JS_putI dX12_next_248 flX12_180 BS_248 (Nat.le_of_ble_eq_true rfl) (Nat.le_of_ble_eq_true rfl) ct_12_14 ?_
    refine JT_aload_n (q := 0) dX12_next_251 rfl rfl ?_
    refine JT_dup dX12_next_252 rfl ?_
    refine JS_getI dX12_next_253 flX12_167 BS_248 (Nat.le_of_ble_eq_true rfl) (Nat.le_of_ble_eq_true rfl) (Or.inl ct_12_13) ?_
    refine JT_iconst (v := 1) dX12_next_256 ic_1 ?_
    refine JT_iadd dX12_next_257 ?_
    refine JS_putI dX12_next_258 flX12_167 BS_248 (Nat.le_of_ble_eq_true rfl) (Nat.le_of_ble_eq_true rfl) ct_12_13 ?_
    obtain ⟨s2, hs2⟩ : ∃ z, z = (pI (pI s 248 14 ((((10 : Int32) * (gI s 248 14)) + (vX12_peek s )) - (48 : Int32))) 248 13 ((gI (pI s 248 14 ((((10 : Int32) * (gI s 248 14)) + (vX12_peek s )) - (48 : Int32))) 248 13) + (1 : Int32))) := ⟨_, rfl⟩
    replace h := h s2 hs2
    rw [← hs2]
    refine JT_aload_n (q := 0) dX12_next_261 rfl rfl ?_
    refine JT_dup dX12_next_262 rfl ?_
    refine JS_getI dX12_next_263 flX12_21 BS_248 (Nat.le_of_ble_eq_true rfl) (Nat.le_of_ble_eq_true rfl) (Or.inl ct_12_4) ?_
    refine JT_iconst (v := 1) dX12_next_266 ic_1 ?_
    refine JT_iadd dX12_next_267 ?_
    refine JS_putI dX12_next_268 flX12_21 BS_248 (Nat.le_of_ble_eq_true rfl) (Nat.le_of_ble_eq_true rfl) ct_12_4 ?_
    refine JT_goto (tgt := 157) dX12_next_271 (by decide) ?_
    exact JT_sub [0, 1, 2, 3] rfl h
set_option maxRecDepth 20000 in
theorem bX12_next  {s : SM} {Q : SM → Prop} (h : BV MX12_next 1 0 [(0, .ref 248)] s Q) : KV MX12_next 1 [.ref 248] s Q := by
  show BV MX12_next 1 0 [(0, .ref 248)] s Q
  exact JT_sub [0] rfl h
set_option maxRecDepth 20000 in
theorem bX12_packed (a1 : Int32) {s : SM} {Q : Int32 → SM → Prop} (h : (((vX12_isIn (pI s 248 0 (0 : Int32)) a1 (0 : Int32) ((gI (pI s 248 0 (0 : Int32)) 248 46) - (1 : Int32))) = 0 → Q (-1 : Int32) (pI s 248 0 (0 : Int32))) ∧ (¬ (vX12_isIn (pI s 248 0 (0 : Int32)) a1 (0 : Int32) ((gI (pI s 248 0 (0 : Int32)) 248 46) - (1 : Int32))) = 0 → vp_in a1 6 ∧ (((4 : Int32) ≤ (gI (pI s 248 0 (0 : Int32)) 268 (a1).toNatClampNeg) → Q (-1 : Int32) (pI s 248 0 (0 : Int32))) ∧ (¬ (4 : Int32) ≤ (gI (pI s 248 0 (0 : Int32)) 268 (a1).toNatClampNeg) → vp_in a1 6 ∧ Q (gI (pI s 248 0 (0 : Int32)) 268 (a1).toNatClampNeg) (pI s 248 0 (0 : Int32))))))) : KI MX12_packed 1 [.ref 248, .int a1] s Q := by
  show BI MX12_packed 1 0 [(0, .ref 248), (1, .int a1)] s Q
  refine JT_aload_n (q := 0) dX12_packed_0 rfl rfl ?_
  refine JT_iconst (v := 0) dX12_packed_1 ic_0 ?_
  refine JS_putI dX12_packed_2 flX12_1 BS_248 (Nat.le_of_ble_eq_true rfl) (Nat.le_of_ble_eq_true rfl) ct_12_0 ?_
  refine JT_iload_n (q := 1) dX12_packed_5 rfl rfl ?_
  refine JT_iconst (v := 0) dX12_packed_6 ic_0 ?_
  refine JT_aload_n (q := 0) dX12_packed_7 rfl rfl ?_
  refine JS_getI dX12_packed_8 flX12_95 BS_248 (Nat.le_of_ble_eq_true rfl) (Nat.le_of_ble_eq_true rfl) (Or.inl ct_12_46) ?_
  refine JT_iconst (v := 1) dX12_packed_11 ic_1 ?_
  refine JT_isub dX12_packed_12 ?_
  refine JS_callSI (M' := MX12_isIn) (d' := 0) (As := [.int a1, .int (0 : Int32), .int ((gI (pI s 248 0 (0 : Int32)) 248 46) - (1 : Int32))]) (rest := []) (P := (fun zv9 wm9 => (vX12_isIn (pI s 248 0 (0 : Int32)) a1 (0 : Int32) ((gI (pI s 248 0 (0 : Int32)) 248 46) - (1 : Int32))) = zv9 ∧ (pI s 248 0 (0 : Int32)) = wm9)) dX12_packed_13 cvX12_202 okX12_isIn rfl (Nat.le_of_ble_eq_true rfl) (Nat.le_of_ble_eq_true rfl) (Nat.le_of_ble_eq_true rfl) (pX12_isIn  (a1) ((0 : Int32)) (((gI (pI s 248 0 (0 : Int32)) 248 46) - (1 : Int32)))  ⟨rfl, rfl⟩) (fun zv9 wm9 hq9 => ?_)
  obtain ⟨rfl, rfl⟩ := hq9
  refine JT_if_eq (tgt := 38) dX12_packed_16 (by decide) (fun hc4 => ?_) (fun hc4 => ?_)
  · have h := h.1 hc4
    refine JT_iconst (v := -1) dX12_packed_38 ic_m1 ?_
    exact JS_iret dX12_packed_39 rfl rfl h
  · have h := h.2 hc4
    refine JT_aload_n (q := 0) dX12_packed_19 rfl rfl ?_
    refine JS_getR (x := 268) dX12_packed_20 flX12_89 BS_248 (Nat.le_of_ble_eq_true rfl) (Nat.le_of_ble_eq_true rfl) (Or.inr ⟨_, ct_12_43⟩) RF_248_43 ?_
    refine JT_iload_n (q := 1) dX12_packed_23 rfl rfl ?_
    obtain ⟨o1, h⟩ := h
    refine JS_iald dX12_packed_24 BS_268 (Nat.le_of_ble_eq_true rfl) (Nat.le_of_ble_eq_true rfl) o1 ?_
    refine JT_iconst (v := 4) dX12_packed_25 ic_4 ?_
    refine JT_icmp_ge (tgt := 38) dX12_packed_26 (by decide) (fun hc3 => ?_) (fun hc3 => ?_)
    · have h := h.1 hc3
      refine JT_iconst (v := -1) dX12_packed_38 ic_m1 ?_
      exact JS_iret dX12_packed_39 rfl rfl h
    · have h := h.2 hc3
      refine JT_aload_n (q := 0) dX12_packed_29 rfl rfl ?_
      refine JS_getR (x := 268) dX12_packed_30 flX12_89 BS_248 (Nat.le_of_ble_eq_true rfl) (Nat.le_of_ble_eq_true rfl) (Or.inr ⟨_, ct_12_43⟩) RF_248_43 ?_
      refine JT_iload_n (q := 1) dX12_packed_33 rfl rfl ?_
      obtain ⟨o2, h⟩ := h
      refine JS_iald dX12_packed_34 BS_268 (Nat.le_of_ble_eq_true rfl) (Nat.le_of_ble_eq_true rfl) o2 ?_
      refine JT_goto (tgt := 39) dX12_packed_35 (by decide) ?_
      exact JS_iret dX12_packed_39 rfl rfl h
set_option maxRecDepth 20000 in
def vX12_packed (s : SM) (a1 : Int32) : Int32 := (if (vX12_isIn (pI s 248 0 (0 : Int32)) a1 (0 : Int32) ((gI (pI s 248 0 (0 : Int32)) 248 46) - (1 : Int32))) = 0 then (-1 : Int32) else (if (4 : Int32) ≤ (gI (pI s 248 0 (0 : Int32)) 268 (a1).toNatClampNeg) then (-1 : Int32) else (gI (pI s 248 0 (0 : Int32)) 268 (a1).toNatClampNeg)))
set_option maxRecDepth 20000 in
def mX12_packed (s : SM) (a1 : Int32) : SM := (pI s 248 0 (0 : Int32))
set_option maxRecDepth 20000 in
def rX12_packed (s : SM) (a1 : Int32) : Prop := (¬ (vX12_isIn (pI s 248 0 (0 : Int32)) a1 (0 : Int32) ((gI (pI s 248 0 (0 : Int32)) 248 46) - (1 : Int32))) = 0 → vp_in a1 6 ∧ (¬ (4 : Int32) ≤ (gI (pI s 248 0 (0 : Int32)) 268 (a1).toNatClampNeg) → vp_in a1 6))
set_option maxRecDepth 20000 in
theorem pX12_packed (a1 : Int32) {s : SM} {Q : Int32 → SM → Prop} (hr : rX12_packed s a1) (h : Q (vX12_packed s a1) (mX12_packed s a1)) : KI MX12_packed 1 [.ref 248, .int a1] s Q := by
  refine bX12_packed a1 ?_
  unfold rX12_packed at hr
  unfold vX12_packed mX12_packed at h
  refine ⟨fun c => ?_, fun c => ?_⟩
  · try simp only [if_pos c] at h
    first | exact h | contradiction
  · replace hr := hr c
    try simp only [if_neg c] at h
    refine ⟨hr.1, ?_⟩
    replace hr := hr.2
    refine ⟨fun c => ?_, fun c => ?_⟩
    · try simp only [if_pos c] at h
      first | exact h | contradiction
    · replace hr := hr c
      try simp only [if_neg c] at h
      refine ⟨hr, ?_⟩
      first | exact h | contradiction
set_option maxRecDepth 20000 in
theorem bX12_putName_3 (b1 : Int64) (a3 : Int32) {s : SM} {Q : SM → Prop} (h : ((a3 < 0 → Q s) ∧ (¬ a3 < 0 → (((lg_cmp ((b1 >>> ((a3).toInt64 &&& 63)) &&& (255 : Int64)) (0 : Int64)) = 0 → BV MX12_putName 1 3 [(0, .ref 248), (1, .long b1), (3, .int (a3 + (-8)))] s Q) ∧ (¬ (lg_cmp ((b1 >>> ((a3).toInt64 &&& 63)) &&& (255 : Int64)) (0 : Int64)) = 0 → rX12_put s (((b1 >>> ((a3).toInt64 &&& 63)) &&& (255 : Int64))).toInt32 ∧ BV MX12_putName 1 3 [(0, .ref 248), (1, .long b1), (3, .int (a3 + (-8)))] (mX12_put s (((b1 >>> ((a3).toInt64 &&& 63)) &&& (255 : Int64))).toInt32) Q))))) : BV MX12_putName 1 3 [(0, .ref 248), (1, .long b1), (3, .int a3)] s Q := by
  refine JT_iload_n (q := 2) dX12_putName_3 rfl rfl ?_
  refine JT_if_lt (tgt := 37) dX12_putName_4 (by decide) (fun hc3 => ?_) (fun hc3 => ?_)
  · have h := h.1 hc3
    exact JS_vret dX12_putName_37 rfl h
  · have h := h.2 hc3
    refine JT_lload_n (q := 1) dX12_putName_7 rfl rfl ?_
    refine JT_iload_n (q := 2) dX12_putName_8 rfl rfl ?_
    refine JT_lshr dX12_putName_9 ?_
    refine JT_ldc2 dX12_putName_10 kwX12_389 ?_
    refine JT_land dX12_putName_13 ?_
    refine JT_lconst (v := 0) dX12_putName_14 (by decide) ?_
    refine JT_lcmp dX12_putName_15 ?_
    refine JT_if_eq (tgt := 31) dX12_putName_16 (by decide) (fun hc2 => ?_) (fun hc2 => ?_)
    · have h := h.1 hc2
      refine JT_iinc (q := 2) (v := (a3 + (-8))) (lv' := [(3, .int (a3 + (-8))), (0, .ref 248), (1, .long b1)]) dX12_putName_31 rfl (by rfl) (Nat.le_of_ble_eq_true rfl) rfl ?_
      refine JT_goto (tgt := 3) dX12_putName_34 (by decide) ?_
      exact JT_sub [1, 2, 0] rfl h
    · have h := h.2 hc2
      refine JT_aload_n (q := 0) dX12_putName_19 rfl rfl ?_
      refine JT_lload_n (q := 1) dX12_putName_20 rfl rfl ?_
      refine JT_iload_n (q := 2) dX12_putName_21 rfl rfl ?_
      refine JT_lshr dX12_putName_22 ?_
      refine JT_ldc2 dX12_putName_23 kwX12_389 ?_
      refine JT_land dX12_putName_26 ?_
      refine JT_l2i dX12_putName_27 ?_
      obtain ⟨o1, h⟩ := h
      refine JS_callVV (M' := MX12_put) (d' := 0) (As := [.int (((b1 >>> ((a3).toInt64 &&& 63)) &&& (255 : Int64))).toInt32]) (rest := []) (P := (fun wm9 => (mX12_put s (((b1 >>> ((a3).toInt64 &&& 63)) &&& (255 : Int64))).toInt32) = wm9)) dX12_putName_28 cvX12_391 okX12_put rfl (Nat.le_of_ble_eq_true rfl) BS_248 (Nat.le_of_ble_eq_true rfl) (Nat.le_of_ble_eq_true rfl) hci_12 (Nat.le_of_ble_eq_true rfl) (Nat.le_of_ble_eq_true rfl) (pX12_put  ((((b1 >>> ((a3).toInt64 &&& 63)) &&& (255 : Int64))).toInt32) o1 rfl) (fun wm9 hq9 => ?_)
      subst hq9
      refine JT_iinc (q := 2) (v := (a3 + (-8))) (lv' := [(3, .int (a3 + (-8))), (0, .ref 248), (1, .long b1)]) dX12_putName_31 rfl (by rfl) (Nat.le_of_ble_eq_true rfl) rfl ?_
      refine JT_goto (tgt := 3) dX12_putName_34 (by decide) ?_
      exact JT_sub [1, 2, 0] rfl h
set_option maxRecDepth 20000 in
theorem bX12_putName (b1 : Int64) {s : SM} {Q : SM → Prop} (h : BV MX12_putName 1 3 [(0, .ref 248), (1, .long b1), (3, .int (48 : Int32))] s Q) : KV MX12_putName 1 [.ref 248, .long b1] s Q := by
  show BV MX12_putName 1 0 [(0, .ref 248), (1, .long b1)] s Q
  refine JT_bipush (v := 48) dX12_putName_0 bp_48 ?_
  refine JT_istore_n (lv' := [(3, .int (48 : Int32)), (0, .ref 248), (1, .long b1)]) dX12_putName_2 rfl (Nat.le_of_ble_eq_true rfl) rfl ?_
  exact JT_sub [1, 2, 0] rfl h
set_option maxRecDepth 20000 in
theorem bX12_putNumber_17 (a1 : Int32) {s : SM} {Q : SM → Prop} (h : rX12_put s ((48 : Int32) + (a1 - a1 / (10 : Int32) * (10 : Int32))) ∧ Q (mX12_put s ((48 : Int32) + (a1 - a1 / (10 : Int32) * (10 : Int32))))) : BV MX12_putNumber 1 17 [(0, .ref 248), (1, .int a1)] s Q := by
  refine JT_aload_n (q := 0) dX12_putNumber_17 rfl rfl ?_
  refine JT_bipush (v := 48) dX12_putNumber_18 bp_48 ?_
  refine JT_iload_n (q := 1) dX12_putNumber_20 rfl rfl ?_
  refine JT_bipush (v := 10) dX12_putNumber_21 bp_10 ?_
  refine JT_irem dX12_putNumber_23 (by decide) ?_
  refine JT_iadd dX12_putNumber_24 ?_
  obtain ⟨o1, h⟩ := h
  refine JS_callVV (M' := MX12_put) (d' := 0) (As := [.int ((48 : Int32) + (a1 - a1 / (10 : Int32) * (10 : Int32)))]) (rest := []) (P := (fun wm9 => (mX12_put s ((48 : Int32) + (a1 - a1 / (10 : Int32) * (10 : Int32)))) = wm9)) dX12_putNumber_25 cvX12_391 okX12_put rfl (Nat.le_of_ble_eq_true rfl) BS_248 (Nat.le_of_ble_eq_true rfl) (Nat.le_of_ble_eq_true rfl) hci_12 (Nat.le_of_ble_eq_true rfl) (Nat.le_of_ble_eq_true rfl) (pX12_put  (((48 : Int32) + (a1 - a1 / (10 : Int32) * (10 : Int32)))) o1 rfl) (fun wm9 hq9 => ?_)
  subst hq9
  exact JS_vret dX12_putNumber_28 rfl h
set_option maxRecDepth 20000 in
theorem bX12_putNumber (a1 : Int32) {s : SM} {Q : SM → Prop} (h : ((a1 < (10 : Int32) → BV MX12_putNumber 1 17 [(0, .ref 248), (1, .int a1)] s Q) ∧ (¬ a1 < (10 : Int32) → rX12_put s ((48 : Int32) + (a1 / (10 : Int32))) ∧ BV MX12_putNumber 1 17 [(0, .ref 248), (1, .int a1)] (mX12_put s ((48 : Int32) + (a1 / (10 : Int32)))) Q))) : KV MX12_putNumber 1 [.ref 248, .int a1] s Q := by
  show BV MX12_putNumber 1 0 [(0, .ref 248), (1, .int a1)] s Q
  refine JT_iload_n (q := 1) dX12_putNumber_0 rfl rfl ?_
  refine JT_bipush (v := 10) dX12_putNumber_1 bp_10 ?_
  refine JT_icmp_lt (tgt := 17) dX12_putNumber_3 (by decide) (fun hc2 => ?_) (fun hc2 => ?_)
  · have h := h.1 hc2
    exact JT_sub [0, 1] rfl h
  · have h := h.2 hc2
    refine JT_aload_n (q := 0) dX12_putNumber_6 rfl rfl ?_
    refine JT_bipush (v := 48) dX12_putNumber_7 bp_48 ?_
    refine JT_iload_n (q := 1) dX12_putNumber_9 rfl rfl ?_
    refine JT_bipush (v := 10) dX12_putNumber_10 bp_10 ?_
    refine JT_idiv dX12_putNumber_12 (by decide) ?_
    refine JT_iadd dX12_putNumber_13 ?_
    obtain ⟨o1, h⟩ := h
    refine JS_callVV (M' := MX12_put) (d' := 0) (As := [.int ((48 : Int32) + (a1 / (10 : Int32)))]) (rest := []) (P := (fun wm9 => (mX12_put s ((48 : Int32) + (a1 / (10 : Int32)))) = wm9)) dX12_putNumber_14 cvX12_391 okX12_put rfl (Nat.le_of_ble_eq_true rfl) BS_248 (Nat.le_of_ble_eq_true rfl) (Nat.le_of_ble_eq_true rfl) hci_12 (Nat.le_of_ble_eq_true rfl) (Nat.le_of_ble_eq_true rfl) (pX12_put  (((48 : Int32) + (a1 / (10 : Int32)))) o1 rfl) (fun wm9 hq9 => ?_)
    subst hq9
    exact JT_sub [0, 1] rfl h
set_option maxRecDepth 20000 in
theorem bX12_restore_27 (a1 : Int32) (a2 : Int32) {s : SM} {Q : Int32 → SM → Prop} (h : (((787 : Int32) ≤ a2 → vp_in (((788 : Int32) * a1) + (787 : Int32)) 1576 ∧ BI MX12_restore 1 78 [(0, .ref 248), (1, .int a1), (2, .int (0 : Int32))] (pI s 248 22 (gI s 275 ((((788 : Int32) * a1) + (787 : Int32))).toNatClampNeg)) Q) ∧ (¬ (787 : Int32) ≤ a2 → vp_in (((788 : Int32) * a1) + a2) 1576 ∧ vp_in a2 787 ∧ BI MX12_restore 1 27 [(0, .ref 248), (1, .int a1), (2, .int (a2 + 1))] (pI s 250 (a2).toNatClampNeg (gI s 275 ((((788 : Int32) * a1) + a2)).toNatClampNeg)) Q))) : BI MX12_restore 1 27 [(0, .ref 248), (1, .int a1), (2, .int a2)] s Q := by
  refine JT_iload_n (q := 2) dX12_restore_27 rfl rfl ?_
  refine JT_sipush (v := 787) dX12_restore_28 sp_787 ?_
  refine JT_icmp_ge (tgt := 58) dX12_restore_31 (by decide) (fun hc4 => ?_) (fun hc4 => ?_)
  · have h := h.1 hc4
    refine JT_aload_n (q := 0) dX12_restore_58 rfl rfl ?_
    refine JT_aload_n (q := 0) dX12_restore_59 rfl rfl ?_
    refine JS_getR (x := 275) dX12_restore_60 flX12_116 BS_248 (Nat.le_of_ble_eq_true rfl) (Nat.le_of_ble_eq_true rfl) (Or.inr ⟨_, ct_12_55⟩) RF_248_55 ?_
    refine JT_sipush (v := 788) dX12_restore_63 sp_788 ?_
    refine JT_iload_n (q := 1) dX12_restore_66 rfl rfl ?_
    refine JT_imul dX12_restore_67 ?_
    refine JT_sipush (v := 787) dX12_restore_68 sp_787 ?_
    refine JT_iadd dX12_restore_71 ?_
    obtain ⟨o1, h⟩ := h
    refine JS_iald dX12_restore_72 BS_275 (Nat.le_of_ble_eq_true rfl) (Nat.le_of_ble_eq_true rfl) o1 ?_
    refine JS_putI dX12_restore_73 flX12_256 BS_248 (Nat.le_of_ble_eq_true rfl) (Nat.le_of_ble_eq_true rfl) ct_12_22 ?_
    refine JT_iconst (v := 0) dX12_restore_76 ic_0 ?_
    refine JT_istore_n (lv' := [(2, .int (0 : Int32)), (0, .ref 248), (1, .int a1)]) dX12_restore_77 rfl (Nat.le_of_ble_eq_true rfl) rfl ?_
    exact JT_sub [1, 2, 0] rfl h
  · have h := h.2 hc4
    refine JT_aload_n (q := 0) dX12_restore_34 rfl rfl ?_
    refine JS_getR (x := 250) dX12_restore_35 flX12_33 BS_248 (Nat.le_of_ble_eq_true rfl) (Nat.le_of_ble_eq_true rfl) (Or.inr ⟨_, ct_12_6⟩) RF_248_6 ?_
    refine JT_iload_n (q := 2) dX12_restore_38 rfl rfl ?_
    refine JT_aload_n (q := 0) dX12_restore_39 rfl rfl ?_
    refine JS_getR (x := 275) dX12_restore_40 flX12_116 BS_248 (Nat.le_of_ble_eq_true rfl) (Nat.le_of_ble_eq_true rfl) (Or.inr ⟨_, ct_12_55⟩) RF_248_55 ?_
    refine JT_sipush (v := 788) dX12_restore_43 sp_788 ?_
    refine JT_iload_n (q := 1) dX12_restore_46 rfl rfl ?_
    refine JT_imul dX12_restore_47 ?_
    refine JT_iload_n (q := 2) dX12_restore_48 rfl rfl ?_
    refine JT_iadd dX12_restore_49 ?_
    obtain ⟨o2, h⟩ := h
    refine JS_iald dX12_restore_50 BS_275 (Nat.le_of_ble_eq_true rfl) (Nat.le_of_ble_eq_true rfl) o2 ?_
    obtain ⟨o3, h⟩ := h
    refine JS_iast dX12_restore_51 BS_250 (Nat.le_of_ble_eq_true rfl) (Nat.le_of_ble_eq_true rfl) o3 ?_
    refine JT_iinc (q := 2) (v := (a2 + 1)) (lv' := [(2, .int (a2 + 1)), (0, .ref 248), (1, .int a1)]) dX12_restore_52 rfl (by rfl) (Nat.le_of_ble_eq_true rfl) rfl ?_
    refine JT_goto (tgt := 27) dX12_restore_55 (by decide) ?_
    exact JT_sub [1, 2, 0] rfl h
set_option maxRecDepth 20000 in
theorem bX12_restore_78 (a1 : Int32) (a2 : Int32) {s : SM} {Q : Int32 → SM → Prop} (h : (((15 : Int32) ≤ a2 → Q (1 : Int32) (pI s 248 25 (0 : Int32))) ∧ (¬ (15 : Int32) ≤ a2 → vp_in (((15 : Int32) * a1) + a2) 30 ∧ vp_in a2 30 ∧ BI MX12_restore 1 78 [(0, .ref 248), (1, .int a1), (2, .int (a2 + 1))] (pL s 253 (a2).toNatClampNeg (gL s 276 ((((15 : Int32) * a1) + a2)).toNatClampNeg)) Q))) : BI MX12_restore 1 78 [(0, .ref 248), (1, .int a1), (2, .int a2)] s Q := by
  refine JT_iload_n (q := 2) dX12_restore_78 rfl rfl ?_
  refine JT_bipush (v := 15) dX12_restore_79 bp_15 ?_
  refine JT_icmp_ge (tgt := 107) dX12_restore_81 (by decide) (fun hc3 => ?_) (fun hc3 => ?_)
  · have h := h.1 hc3
    refine JT_aload_n (q := 0) dX12_restore_107 rfl rfl ?_
    refine JT_iconst (v := 0) dX12_restore_108 ic_0 ?_
    refine JS_putI dX12_restore_109 flX12_250 BS_248 (Nat.le_of_ble_eq_true rfl) (Nat.le_of_ble_eq_true rfl) ct_12_25 ?_
    refine JT_iconst (v := 1) dX12_restore_112 ic_1 ?_
    exact JS_iret dX12_restore_113 rfl (n01 (Or.inr rfl)) h
  · have h := h.2 hc3
    refine JT_aload_n (q := 0) dX12_restore_84 rfl rfl ?_
    refine JS_getR (x := 253) dX12_restore_85 flX12_43 BS_248 (Nat.le_of_ble_eq_true rfl) (Nat.le_of_ble_eq_true rfl) (Or.inr ⟨_, ct_12_9⟩) RF_248_9 ?_
    refine JT_iload_n (q := 2) dX12_restore_88 rfl rfl ?_
    refine JT_aload_n (q := 0) dX12_restore_89 rfl rfl ?_
    refine JS_getR (x := 276) dX12_restore_90 flX12_119 BS_248 (Nat.le_of_ble_eq_true rfl) (Nat.le_of_ble_eq_true rfl) (Or.inr ⟨_, ct_12_56⟩) RF_248_56 ?_
    refine JT_bipush (v := 15) dX12_restore_93 bp_15 ?_
    refine JT_iload_n (q := 1) dX12_restore_95 rfl rfl ?_
    refine JT_imul dX12_restore_96 ?_
    refine JT_iload_n (q := 2) dX12_restore_97 rfl rfl ?_
    refine JT_iadd dX12_restore_98 ?_
    obtain ⟨o1, h⟩ := h
    refine JS_lald dX12_restore_99 BS_276 (Nat.le_of_ble_eq_true rfl) (Nat.le_of_ble_eq_true rfl) o1 ?_
    obtain ⟨o2, h⟩ := h
    refine JS_last dX12_restore_100 BS_253 (Nat.le_of_ble_eq_true rfl) (Nat.le_of_ble_eq_true rfl) o2 ?_
    refine JT_iinc (q := 2) (v := (a2 + 1)) (lv' := [(2, .int (a2 + 1)), (0, .ref 248), (1, .int a1)]) dX12_restore_101 rfl (by rfl) (Nat.le_of_ble_eq_true rfl) rfl ?_
    refine JT_goto (tgt := 78) dX12_restore_104 (by decide) ?_
    exact JT_sub [1, 2, 0] rfl h
set_option maxRecDepth 20000 in
theorem bX12_restore (a1 : Int32) {s : SM} {Q : Int32 → SM → Prop} (h : (((vX12_isIn (pI s 248 0 (0 : Int32)) a1 (0 : Int32) (1 : Int32)) = 0 → Q (0 : Int32) (pI s 248 0 (0 : Int32))) ∧ (¬ (vX12_isIn (pI s 248 0 (0 : Int32)) a1 (0 : Int32) (1 : Int32)) = 0 → vp_in a1 2 ∧ ((¬ (gI (pI s 248 0 (0 : Int32)) 277 (a1).toNatClampNeg) = 0 → BI MX12_restore 1 27 [(0, .ref 248), (1, .int a1), (2, .int (0 : Int32))] (pI s 248 0 (0 : Int32)) Q) ∧ ((gI (pI s 248 0 (0 : Int32)) 277 (a1).toNatClampNeg) = 0 → Q (0 : Int32) (pI s 248 0 (0 : Int32))))))) : KI MX12_restore 1 [.ref 248, .int a1] s Q := by
  show BI MX12_restore 1 0 [(0, .ref 248), (1, .int a1)] s Q
  refine JT_aload_n (q := 0) dX12_restore_0 rfl rfl ?_
  refine JT_iconst (v := 0) dX12_restore_1 ic_0 ?_
  refine JS_putI dX12_restore_2 flX12_1 BS_248 (Nat.le_of_ble_eq_true rfl) (Nat.le_of_ble_eq_true rfl) ct_12_0 ?_
  refine JT_iload_n (q := 1) dX12_restore_5 rfl rfl ?_
  refine JT_iconst (v := 0) dX12_restore_6 ic_0 ?_
  refine JT_iconst (v := 1) dX12_restore_7 ic_1 ?_
  refine JS_callSI (M' := MX12_isIn) (d' := 0) (As := [.int a1, .int (0 : Int32), .int (1 : Int32)]) (rest := []) (P := (fun zv9 wm9 => (vX12_isIn (pI s 248 0 (0 : Int32)) a1 (0 : Int32) (1 : Int32)) = zv9 ∧ (pI s 248 0 (0 : Int32)) = wm9)) dX12_restore_8 cvX12_202 okX12_isIn rfl (Nat.le_of_ble_eq_true rfl) (Nat.le_of_ble_eq_true rfl) (Nat.le_of_ble_eq_true rfl) (pX12_isIn  (a1) ((0 : Int32)) ((1 : Int32))  ⟨rfl, rfl⟩) (fun zv9 wm9 hq9 => ?_)
  obtain ⟨rfl, rfl⟩ := hq9
  refine JT_if_eq (tgt := 23) dX12_restore_11 (by decide) (fun hc3 => ?_) (fun hc3 => ?_)
  · have h := h.1 hc3
    refine JT_iconst (v := 0) dX12_restore_23 ic_0 ?_
    exact JS_iret dX12_restore_24 rfl (n01 (Or.inl rfl)) h
  · have h := h.2 hc3
    refine JT_aload_n (q := 0) dX12_restore_14 rfl rfl ?_
    refine JS_getR (x := 277) dX12_restore_15 flX12_122 BS_248 (Nat.le_of_ble_eq_true rfl) (Nat.le_of_ble_eq_true rfl) (Or.inr ⟨_, ct_12_57⟩) RF_248_57 ?_
    refine JT_iload_n (q := 1) dX12_restore_18 rfl rfl ?_
    obtain ⟨o1, h⟩ := h
    refine JS_zald dX12_restore_19 BS_277 (Nat.le_of_ble_eq_true rfl) (Nat.le_of_ble_eq_true rfl) o1 ?_
    refine JT_if_ne (tgt := 25) dX12_restore_20 (by decide) (fun hc2 => ?_) (fun hc2 => ?_)
    · have h := h.1 hc2
      refine JT_iconst (v := 0) dX12_restore_25 ic_0 ?_
      refine JT_istore_n (lv' := [(2, .int (0 : Int32)), (0, .ref 248), (1, .int a1)]) dX12_restore_26 rfl (Nat.le_of_ble_eq_true rfl) rfl ?_
      exact JT_sub [1, 2, 0] rfl h
    · have h := h.2 hc2
      refine JT_iconst (v := 0) dX12_restore_23 ic_0 ?_
      exact JS_iret dX12_restore_24 rfl (n01 (Or.inl rfl)) h
set_option maxRecDepth 20000 in
theorem bX12_ringAt (a1 : Int32) {s : SM} {Q : Int32 → SM → Prop} (h : (((vX12_isIn (pI s 248 0 (0 : Int32)) a1 (0 : Int32) ((gI (pI s 248 0 (0 : Int32)) 248 30) - (1 : Int32))) = 0 → Q (-1 : Int32) (pI s 248 0 (0 : Int32))) ∧ (¬ (vX12_isIn (pI s 248 0 (0 : Int32)) a1 (0 : Int32) ((gI (pI s 248 0 (0 : Int32)) 248 30) - (1 : Int32))) = 0 → vp_in a1 5 ∧ Q (gI (pI s 248 0 (0 : Int32)) 258 (a1).toNatClampNeg) (pI s 248 0 (0 : Int32))))) : KI MX12_ringAt 1 [.ref 248, .int a1] s Q := by
  show BI MX12_ringAt 1 0 [(0, .ref 248), (1, .int a1)] s Q
  refine JT_aload_n (q := 0) dX12_ringAt_0 rfl rfl ?_
  refine JT_iconst (v := 0) dX12_ringAt_1 ic_0 ?_
  refine JS_putI dX12_ringAt_2 flX12_1 BS_248 (Nat.le_of_ble_eq_true rfl) (Nat.le_of_ble_eq_true rfl) ct_12_0 ?_
  refine JT_iload_n (q := 1) dX12_ringAt_5 rfl rfl ?_
  refine JT_iconst (v := 0) dX12_ringAt_6 ic_0 ?_
  refine JT_aload_n (q := 0) dX12_ringAt_7 rfl rfl ?_
  refine JS_getI dX12_ringAt_8 flX12_368 BS_248 (Nat.le_of_ble_eq_true rfl) (Nat.le_of_ble_eq_true rfl) (Or.inl ct_12_30) ?_
  refine JT_iconst (v := 1) dX12_ringAt_11 ic_1 ?_
  refine JT_isub dX12_ringAt_12 ?_
  refine JS_callSI (M' := MX12_isIn) (d' := 0) (As := [.int a1, .int (0 : Int32), .int ((gI (pI s 248 0 (0 : Int32)) 248 30) - (1 : Int32))]) (rest := []) (P := (fun zv9 wm9 => (vX12_isIn (pI s 248 0 (0 : Int32)) a1 (0 : Int32) ((gI (pI s 248 0 (0 : Int32)) 248 30) - (1 : Int32))) = zv9 ∧ (pI s 248 0 (0 : Int32)) = wm9)) dX12_ringAt_13 cvX12_202 okX12_isIn rfl (Nat.le_of_ble_eq_true rfl) (Nat.le_of_ble_eq_true rfl) (Nat.le_of_ble_eq_true rfl) (pX12_isIn  (a1) ((0 : Int32)) (((gI (pI s 248 0 (0 : Int32)) 248 30) - (1 : Int32)))  ⟨rfl, rfl⟩) (fun zv9 wm9 hq9 => ?_)
  obtain ⟨rfl, rfl⟩ := hq9
  refine JT_if_eq (tgt := 28) dX12_ringAt_16 (by decide) (fun hc2 => ?_) (fun hc2 => ?_)
  · have h := h.1 hc2
    refine JT_iconst (v := -1) dX12_ringAt_28 ic_m1 ?_
    exact JS_iret dX12_ringAt_29 rfl rfl h
  · have h := h.2 hc2
    refine JT_aload_n (q := 0) dX12_ringAt_19 rfl rfl ?_
    refine JS_getR (x := 258) dX12_ringAt_20 flX12_59 BS_248 (Nat.le_of_ble_eq_true rfl) (Nat.le_of_ble_eq_true rfl) (Or.inr ⟨_, ct_12_28⟩) RF_248_28 ?_
    refine JT_iload_n (q := 1) dX12_ringAt_23 rfl rfl ?_
    obtain ⟨o1, h⟩ := h
    refine JS_iald dX12_ringAt_24 BS_258 (Nat.le_of_ble_eq_true rfl) (Nat.le_of_ble_eq_true rfl) o1 ?_
    refine JT_goto (tgt := 29) dX12_ringAt_25 (by decide) ?_
    exact JS_iret dX12_ringAt_29 rfl rfl h
set_option maxRecDepth 20000 in
def vX12_ringAt (s : SM) (a1 : Int32) : Int32 := (if (vX12_isIn (pI s 248 0 (0 : Int32)) a1 (0 : Int32) ((gI (pI s 248 0 (0 : Int32)) 248 30) - (1 : Int32))) = 0 then (-1 : Int32) else (gI (pI s 248 0 (0 : Int32)) 258 (a1).toNatClampNeg))
set_option maxRecDepth 20000 in
def mX12_ringAt (s : SM) (a1 : Int32) : SM := (pI s 248 0 (0 : Int32))
set_option maxRecDepth 20000 in
def rX12_ringAt (s : SM) (a1 : Int32) : Prop := (¬ (vX12_isIn (pI s 248 0 (0 : Int32)) a1 (0 : Int32) ((gI (pI s 248 0 (0 : Int32)) 248 30) - (1 : Int32))) = 0 → vp_in a1 5)
set_option maxRecDepth 20000 in
theorem pX12_ringAt (a1 : Int32) {s : SM} {Q : Int32 → SM → Prop} (hr : rX12_ringAt s a1) (h : Q (vX12_ringAt s a1) (mX12_ringAt s a1)) : KI MX12_ringAt 1 [.ref 248, .int a1] s Q := by
  refine bX12_ringAt a1 ?_
  unfold rX12_ringAt at hr
  unfold vX12_ringAt mX12_ringAt at h
  refine ⟨fun c => ?_, fun c => ?_⟩
  · try simp only [if_pos c] at h
    first | exact h | contradiction
  · replace hr := hr c
    try simp only [if_neg c] at h
    refine ⟨hr, ?_⟩
    first | exact h | contradiction
set_option maxRecDepth 20000 in
theorem bX12_sizeOf (a1 : Int32) {s : SM} {Q : Int32 → SM → Prop} (h : rX12_of s a1 (3 : Int32) ∧ vp_in ((22 : Int32) + (vX12_of s a1 (3 : Int32))) 787 ∧ Q (gI s 250 (((22 : Int32) + (vX12_of s a1 (3 : Int32)))).toNatClampNeg) s) : KI MX12_sizeOf 1 [.ref 248, .int a1] s Q := by
  show BI MX12_sizeOf 1 0 [(0, .ref 248), (1, .int a1)] s Q
  refine JT_aload_n (q := 0) dX12_sizeOf_0 rfl rfl ?_
  refine JS_getR (x := 250) dX12_sizeOf_1 flX12_33 BS_248 (Nat.le_of_ble_eq_true rfl) (Nat.le_of_ble_eq_true rfl) (Or.inr ⟨_, ct_12_6⟩) RF_248_6 ?_
  refine JT_bipush (v := 22) dX12_sizeOf_4 bp_22 ?_
  refine JT_aload_n (q := 0) dX12_sizeOf_6 rfl rfl ?_
  refine JT_iload_n (q := 1) dX12_sizeOf_7 rfl rfl ?_
  refine JT_iconst (v := 3) dX12_sizeOf_8 ic_3 ?_
  obtain ⟨o2, h⟩ := h
  refine JS_callVI (M' := MX12_of) (d' := 0) (As := [.int a1, .int (3 : Int32)]) (rest := [.int (22 : Int32), .ref 250]) (P := (fun zv9 wm9 => (vX12_of s a1 (3 : Int32)) = zv9 ∧ s = wm9)) dX12_sizeOf_9 cvX12_265 okX12_of rfl (Nat.le_of_ble_eq_true rfl) BS_248 (Nat.le_of_ble_eq_true rfl) (Nat.le_of_ble_eq_true rfl) hci_12 (Nat.le_of_ble_eq_true rfl) (Nat.le_of_ble_eq_true rfl) (pX12_of  (a1) ((3 : Int32)) o2 ⟨rfl, rfl⟩) (fun zv9 wm9 hq9 => ?_)
  obtain ⟨rfl, rfl⟩ := hq9
  refine JT_iadd dX12_sizeOf_12 ?_
  obtain ⟨o1, h⟩ := h
  refine JS_iald dX12_sizeOf_13 BS_250 (Nat.le_of_ble_eq_true rfl) (Nat.le_of_ble_eq_true rfl) o1 ?_
  exact JS_iret dX12_sizeOf_14 rfl rfl h
set_option maxRecDepth 20000 in
def vX12_sizeOf (s : SM) (a1 : Int32) : Int32 := (gI s 250 (((22 : Int32) + (vX12_of s a1 (3 : Int32)))).toNatClampNeg)
set_option maxRecDepth 20000 in
def rX12_sizeOf (s : SM) (a1 : Int32) : Prop := rX12_of s a1 (3 : Int32) ∧ vp_in ((22 : Int32) + (vX12_of s a1 (3 : Int32))) 787
set_option maxRecDepth 20000 in
theorem pX12_sizeOf (a1 : Int32) {s : SM} {Q : Int32 → SM → Prop} (hr : rX12_sizeOf s a1) (h : Q (vX12_sizeOf s a1) s) : KI MX12_sizeOf 1 [.ref 248, .int a1] s Q := by
  refine bX12_sizeOf a1 ?_
  unfold rX12_sizeOf at hr
  unfold vX12_sizeOf at h
  refine ⟨hr.1, ?_⟩
  replace hr := hr.2
  refine ⟨hr, ?_⟩
  first | exact h | contradiction
set_option maxRecDepth 20000 in
theorem bX12_sortOf (a1 : Int32) {s : SM} {Q : Int32 → SM → Prop} (h : rX12_of s a1 (3 : Int32) ∧ vp_in ((28 : Int32) + (vX12_of s a1 (3 : Int32))) 787 ∧ Q (gI s 250 (((28 : Int32) + (vX12_of s a1 (3 : Int32)))).toNatClampNeg) s) : KI MX12_sortOf 1 [.ref 248, .int a1] s Q := by
  show BI MX12_sortOf 1 0 [(0, .ref 248), (1, .int a1)] s Q
  refine JT_aload_n (q := 0) dX12_sortOf_0 rfl rfl ?_
  refine JS_getR (x := 250) dX12_sortOf_1 flX12_33 BS_248 (Nat.le_of_ble_eq_true rfl) (Nat.le_of_ble_eq_true rfl) (Or.inr ⟨_, ct_12_6⟩) RF_248_6 ?_
  refine JT_bipush (v := 28) dX12_sortOf_4 bp_28 ?_
  refine JT_aload_n (q := 0) dX12_sortOf_6 rfl rfl ?_
  refine JT_iload_n (q := 1) dX12_sortOf_7 rfl rfl ?_
  refine JT_iconst (v := 3) dX12_sortOf_8 ic_3 ?_
  obtain ⟨o2, h⟩ := h
  refine JS_callVI (M' := MX12_of) (d' := 0) (As := [.int a1, .int (3 : Int32)]) (rest := [.int (28 : Int32), .ref 250]) (P := (fun zv9 wm9 => (vX12_of s a1 (3 : Int32)) = zv9 ∧ s = wm9)) dX12_sortOf_9 cvX12_265 okX12_of rfl (Nat.le_of_ble_eq_true rfl) BS_248 (Nat.le_of_ble_eq_true rfl) (Nat.le_of_ble_eq_true rfl) hci_12 (Nat.le_of_ble_eq_true rfl) (Nat.le_of_ble_eq_true rfl) (pX12_of  (a1) ((3 : Int32)) o2 ⟨rfl, rfl⟩) (fun zv9 wm9 hq9 => ?_)
  obtain ⟨rfl, rfl⟩ := hq9
  refine JT_iadd dX12_sortOf_12 ?_
  obtain ⟨o1, h⟩ := h
  refine JS_iald dX12_sortOf_13 BS_250 (Nat.le_of_ble_eq_true rfl) (Nat.le_of_ble_eq_true rfl) o1 ?_
  exact JS_iret dX12_sortOf_14 rfl rfl h
set_option maxRecDepth 20000 in
def vX12_sortOf (s : SM) (a1 : Int32) : Int32 := (gI s 250 (((28 : Int32) + (vX12_of s a1 (3 : Int32)))).toNatClampNeg)
set_option maxRecDepth 20000 in
def rX12_sortOf (s : SM) (a1 : Int32) : Prop := rX12_of s a1 (3 : Int32) ∧ vp_in ((28 : Int32) + (vX12_of s a1 (3 : Int32))) 787
set_option maxRecDepth 20000 in
theorem pX12_sortOf (a1 : Int32) {s : SM} {Q : Int32 → SM → Prop} (hr : rX12_sortOf s a1) (h : Q (vX12_sortOf s a1) s) : KI MX12_sortOf 1 [.ref 248, .int a1] s Q := by
  refine bX12_sortOf a1 ?_
  unfold rX12_sortOf at hr
  unfold vX12_sortOf at h
  refine ⟨hr.1, ?_⟩
  replace hr := hr.2
  refine ⟨hr, ?_⟩
  first | exact h | contradiction
set_option maxRecDepth 20000 in
theorem bX12_year  {s : SM} {Q : Int32 → SM → Prop} (h : ((¬ (gI (pI s 248 0 (0 : Int32)) 250 ((35 : Int32)).toNatClampNeg) = (99 : Int32) → KV MX12_keep 0 [.ref 248] (pI s 248 0 (0 : Int32)) (fun s1 => Q (gI (pI s1 250 ((35 : Int32)).toNatClampNeg ((gI s1 250 ((35 : Int32)).toNatClampNeg) + (1 : Int32))) 250 ((35 : Int32)).toNatClampNeg) (pI s1 250 ((35 : Int32)).toNatClampNeg ((gI s1 250 ((35 : Int32)).toNatClampNeg) + (1 : Int32))))) ∧ ((gI (pI s 248 0 (0 : Int32)) 250 ((35 : Int32)).toNatClampNeg) = (99 : Int32) → Q (-1 : Int32) (pI s 248 0 (0 : Int32))))) : KI MX12_year 1 [.ref 248] s Q := by
  show BI MX12_year 1 0 [(0, .ref 248)] s Q
  refine JT_aload_n (q := 0) dX12_year_0 rfl rfl ?_
  refine JT_iconst (v := 0) dX12_year_1 ic_0 ?_
  refine JS_putI dX12_year_2 flX12_1 BS_248 (Nat.le_of_ble_eq_true rfl) (Nat.le_of_ble_eq_true rfl) ct_12_0 ?_
  refine JT_aload_n (q := 0) dX12_year_5 rfl rfl ?_
  refine JS_getR (x := 250) dX12_year_6 flX12_33 BS_248 (Nat.le_of_ble_eq_true rfl) (Nat.le_of_ble_eq_true rfl) (Or.inr ⟨_, ct_12_6⟩) RF_248_6 ?_
  refine JT_bipush (v := 35) dX12_year_9 bp_35 ?_
  refine JS_iald dX12_year_11 BS_250 (Nat.le_of_ble_eq_true rfl) (Nat.le_of_ble_eq_true rfl) (by unfold vp_in; decide) ?_
  refine JT_bipush (v := 99) dX12_year_12 bp_99 ?_
  refine JT_icmp_ne (tgt := 19) dX12_year_14 (by decide) (fun hc3 => ?_) (fun hc3 => ?_)
  · have h := h.1 hc3
    refine JT_aload_n (q := 0) dX12_year_19 rfl rfl ?_
    refine JS_callVV (M' := MX12_keep) (d' := 0) (As := []) (rest := []) dX12_year_20 cvX12_329 okX12_keep rfl (Nat.le_of_ble_eq_true rfl) BS_248 (Nat.le_of_ble_eq_true rfl) (Nat.le_of_ble_eq_true rfl) hci_12 (Nat.le_of_ble_eq_true rfl) (Nat.le_of_ble_eq_true rfl) h (fun s1 h => ?_)
    refine JT_aload_n (q := 0) dX12_year_23 rfl rfl ?_
    refine JS_getR (x := 250) dX12_year_24 flX12_33 BS_248 (Nat.le_of_ble_eq_true rfl) (Nat.le_of_ble_eq_true rfl) (Or.inr ⟨_, ct_12_6⟩) RF_248_6 ?_
    refine JT_bipush (v := 35) dX12_year_27 bp_35 ?_
    refine JT_dup2 dX12_year_29 rfl rfl ?_
    refine JS_iald dX12_year_30 BS_250 (Nat.le_of_ble_eq_true rfl) (Nat.le_of_ble_eq_true rfl) (by unfold vp_in; decide) ?_
    refine JT_iconst (v := 1) dX12_year_31 ic_1 ?_
    refine JT_iadd dX12_year_32 ?_
    refine JS_iast dX12_year_33 BS_250 (Nat.le_of_ble_eq_true rfl) (Nat.le_of_ble_eq_true rfl) (by unfold vp_in; decide) ?_
    refine JT_aload_n (q := 0) dX12_year_34 rfl rfl ?_
    refine JS_getR (x := 250) dX12_year_35 flX12_33 BS_248 (Nat.le_of_ble_eq_true rfl) (Nat.le_of_ble_eq_true rfl) (Or.inr ⟨_, ct_12_6⟩) RF_248_6 ?_
    refine JT_bipush (v := 35) dX12_year_38 bp_35 ?_
    refine JS_iald dX12_year_40 BS_250 (Nat.le_of_ble_eq_true rfl) (Nat.le_of_ble_eq_true rfl) (by unfold vp_in; decide) ?_
    exact JS_iret dX12_year_41 rfl rfl h
  · have h := h.2 hc3
    refine JT_iconst (v := -1) dX12_year_17 ic_m1 ?_
    exact JS_iret dX12_year_18 rfl rfl h
set_option maxRecDepth 20000 in
theorem bX1_noteWay_2 (a1 : Int32) {s : SM} {Q : SM → Prop} (h : (((gI s 233 6) ≤ a1 → Q (pI s 233 9 ((gI s 233 9) + (1 : Int32)))) ∧ (¬ (gI s 233 6) ≤ a1 → ((¬ (gI s 233 9) = 0 → vp_in a1 4 ∧ vp_in a1 4 ∧ vp_in a1 4 ∧ (∀ s4, s4 = (pI s 236 (a1).toNatClampNeg (if (gI s 235 (a1).toNatClampNeg) < (gI s 236 (a1).toNatClampNeg) then (gI s 235 (a1).toNatClampNeg) else (gI s 236 (a1).toNatClampNeg))) → ((¬ (gI s4 233 9) = 0 → vp_in a1 4 ∧ vp_in a1 4 ∧ vp_in a1 4 ∧ (∀ s8, s8 = (pI s4 237 (a1).toNatClampNeg (if (gI s4 237 (a1).toNatClampNeg) < (gI s4 235 (a1).toNatClampNeg) then (gI s4 235 (a1).toNatClampNeg) else (gI s4 237 (a1).toNatClampNeg))) → BV MX1_noteWay 1 2 [(0, .ref 233), (1, .int (a1 + 1))] s8 Q)) ∧ ((gI s4 233 9) = 0 → vp_in a1 4 ∧ vp_in a1 4 ∧ BV MX1_noteWay 1 2 [(0, .ref 233), (1, .int (a1 + 1))] (pI s4 237 (a1).toNatClampNeg (gI s4 235 (a1).toNatClampNeg)) Q)))) ∧ ((gI s 233 9) = 0 → vp_in a1 4 ∧ vp_in a1 4 ∧ ((¬ (gI (pI s 236 (a1).toNatClampNeg (gI s 235 (a1).toNatClampNeg)) 233 9) = 0 → vp_in a1 4 ∧ vp_in a1 4 ∧ vp_in a1 4 ∧ (∀ s17, s17 = (pI (pI s 236 (a1).toNatClampNeg (gI s 235 (a1).toNatClampNeg)) 237 (a1).toNatClampNeg (if (gI (pI s 236 (a1).toNatClampNeg (gI s 235 (a1).toNatClampNeg)) 237 (a1).toNatClampNeg) < (gI (pI s 236 (a1).toNatClampNeg (gI s 235 (a1).toNatClampNeg)) 235 (a1).toNatClampNeg) then (gI (pI s 236 (a1).toNatClampNeg (gI s 235 (a1).toNatClampNeg)) 235 (a1).toNatClampNeg) else (gI (pI s 236 (a1).toNatClampNeg (gI s 235 (a1).toNatClampNeg)) 237 (a1).toNatClampNeg))) → BV MX1_noteWay 1 2 [(0, .ref 233), (1, .int (a1 + 1))] s17 Q)) ∧ ((gI (pI s 236 (a1).toNatClampNeg (gI s 235 (a1).toNatClampNeg)) 233 9) = 0 → vp_in a1 4 ∧ vp_in a1 4 ∧ (∀ s20, s20 = (pI (pI s 236 (a1).toNatClampNeg (gI s 235 (a1).toNatClampNeg)) 237 (a1).toNatClampNeg (gI (pI s 236 (a1).toNatClampNeg (gI s 235 (a1).toNatClampNeg)) 235 (a1).toNatClampNeg)) → BV MX1_noteWay 1 2 [(0, .ref 233), (1, .int (a1 + 1))] s20 Q)))))))) : BV MX1_noteWay 1 2 [(0, .ref 233), (1, .int a1)] s Q := by
  refine JT_iload_n (q := 1) dX1_noteWay_2 rfl rfl ?_
  refine JT_aload_n (q := 0) dX1_noteWay_3 rfl rfl ?_
  refine JS_getI dX1_noteWay_4 flX1_67 BS_233 (Nat.le_of_ble_eq_true rfl) (Nat.le_of_ble_eq_true rfl) (Or.inl ct_1_6) ?_
  refine JT_icmp_ge (tgt := 90) dX1_noteWay_7 (by decide) (fun hc23 => ?_) (fun hc23 => ?_)
  · have h := h.1 hc23
    refine JT_aload_n (q := 0) dX1_noteWay_90 rfl rfl ?_
    refine JT_dup dX1_noteWay_91 rfl ?_
    refine JS_getI dX1_noteWay_92 flX1_96 BS_233 (Nat.le_of_ble_eq_true rfl) (Nat.le_of_ble_eq_true rfl) (Or.inl ct_1_9) ?_
    refine JT_iconst (v := 1) dX1_noteWay_95 ic_1 ?_
    refine JT_iadd dX1_noteWay_96 ?_
    refine JS_putI dX1_noteWay_97 flX1_96 BS_233 (Nat.le_of_ble_eq_true rfl) (Nat.le_of_ble_eq_true rfl) ct_1_9 ?_
    exact JS_vret dX1_noteWay_100 rfl h
  · have h := h.2 hc23
    refine JT_aload_n (q := 0) dX1_noteWay_10 rfl rfl ?_
    refine JS_getR (x := 236) dX1_noteWay_11 flX1_18 BS_233 (Nat.le_of_ble_eq_true rfl) (Nat.le_of_ble_eq_true rfl) (Or.inr ⟨_, ct_1_2⟩) RF_233_2 ?_
    refine JT_iload_n (q := 1) dX1_noteWay_14 rfl rfl ?_
    refine JT_aload_n (q := 0) dX1_noteWay_15 rfl rfl ?_
    refine JS_getI dX1_noteWay_16 flX1_96 BS_233 (Nat.le_of_ble_eq_true rfl) (Nat.le_of_ble_eq_true rfl) (Or.inl ct_1_9) ?_
    refine JT_if_ne (tgt := 31) dX1_noteWay_19 (by decide) (fun hc22 => ?_) (fun hc22 => ?_)
    · have h := h.1 hc22
      refine JT_aload_n (q := 0) dX1_noteWay_31 rfl rfl ?_
      refine JS_getR (x := 236) dX1_noteWay_32 flX1_18 BS_233 (Nat.le_of_ble_eq_true rfl) (Nat.le_of_ble_eq_true rfl) (Or.inr ⟨_, ct_1_2⟩) RF_233_2 ?_
      refine JT_iload_n (q := 1) dX1_noteWay_35 rfl rfl ?_
      obtain ⟨o1, h⟩ := h
      refine JS_iald dX1_noteWay_36 BS_236 (Nat.le_of_ble_eq_true rfl) (Nat.le_of_ble_eq_true rfl) o1 ?_
      refine JT_aload_n (q := 0) dX1_noteWay_37 rfl rfl ?_
      refine JS_getR (x := 235) dX1_noteWay_38 flX1_15 BS_233 (Nat.le_of_ble_eq_true rfl) (Nat.le_of_ble_eq_true rfl) (Or.inr ⟨_, ct_1_1⟩) RF_233_1 ?_
      refine JT_iload_n (q := 1) dX1_noteWay_41 rfl rfl ?_
      obtain ⟨o2, h⟩ := h
      refine JS_iald dX1_noteWay_42 BS_235 (Nat.le_of_ble_eq_true rfl) (Nat.le_of_ble_eq_true rfl) o2 ?_
      refine JT_mmin (d2 := 0) dX1_noteWay_43 mlX1_115 (Nat.le_of_ble_eq_true rfl) rfl ?_
      obtain ⟨o3, h⟩ := h
      refine JS_iast dX1_noteWay_46 BS_236 (Nat.le_of_ble_eq_true rfl) (Nat.le_of_ble_eq_true rfl) o3 ?_
      obtain ⟨s4, hs4⟩ : ∃ z, z = (pI s 236 (a1).toNatClampNeg (if (gI s 235 (a1).toNatClampNeg) < (gI s 236 (a1).toNatClampNeg) then (gI s 235 (a1).toNatClampNeg) else (gI s 236 (a1).toNatClampNeg))) := ⟨_, rfl⟩
      replace h := h s4 hs4
      rw [← hs4]
      refine JT_aload_n (q := 0) dX1_noteWay_47 rfl rfl ?_
      refine JS_getR (x := 237) dX1_noteWay_48 flX1_21 BS_233 (Nat.le_of_ble_eq_true rfl) (Nat.le_of_ble_eq_true rfl) (Or.inr ⟨_, ct_1_3⟩) RF_233_3 ?_
      refine JT_iload_n (q := 1) dX1_noteWay_51 rfl rfl ?_
      refine JT_aload_n (q := 0) dX1_noteWay_52 rfl rfl ?_
      refine JS_getI dX1_noteWay_53 flX1_96 BS_233 (Nat.le_of_ble_eq_true rfl) (Nat.le_of_ble_eq_true rfl) (Or.inl ct_1_9) ?_
      refine JT_if_ne (tgt := 68) dX1_noteWay_56 (by decide) (fun hc11 => ?_) (fun hc11 => ?_)
      · have h := h.1 hc11
        refine JT_aload_n (q := 0) dX1_noteWay_68 rfl rfl ?_
        refine JS_getR (x := 237) dX1_noteWay_69 flX1_21 BS_233 (Nat.le_of_ble_eq_true rfl) (Nat.le_of_ble_eq_true rfl) (Or.inr ⟨_, ct_1_3⟩) RF_233_3 ?_
        refine JT_iload_n (q := 1) dX1_noteWay_72 rfl rfl ?_
        obtain ⟨o5, h⟩ := h
        refine JS_iald dX1_noteWay_73 BS_237 (Nat.le_of_ble_eq_true rfl) (Nat.le_of_ble_eq_true rfl) o5 ?_
        refine JT_aload_n (q := 0) dX1_noteWay_74 rfl rfl ?_
        refine JS_getR (x := 235) dX1_noteWay_75 flX1_15 BS_233 (Nat.le_of_ble_eq_true rfl) (Nat.le_of_ble_eq_true rfl) (Or.inr ⟨_, ct_1_1⟩) RF_233_1 ?_
        refine JT_iload_n (q := 1) dX1_noteWay_78 rfl rfl ?_
        obtain ⟨o6, h⟩ := h
        refine JS_iald dX1_noteWay_79 BS_235 (Nat.le_of_ble_eq_true rfl) (Nat.le_of_ble_eq_true rfl) o6 ?_
        refine JT_mmax (d2 := 0) dX1_noteWay_80 mlX1_120 (Nat.le_of_ble_eq_true rfl) rfl ?_
        obtain ⟨o7, h⟩ := h
        refine JS_iast dX1_noteWay_83 BS_237 (Nat.le_of_ble_eq_true rfl) (Nat.le_of_ble_eq_true rfl) o7 ?_
        obtain ⟨s8, hs8⟩ : ∃ z, z = (pI s4 237 (a1).toNatClampNeg (if (gI s4 237 (a1).toNatClampNeg) < (gI s4 235 (a1).toNatClampNeg) then (gI s4 235 (a1).toNatClampNeg) else (gI s4 237 (a1).toNatClampNeg))) := ⟨_, rfl⟩
        replace h := h s8 hs8
        rw [← hs8]
        refine JT_iinc (q := 1) (v := (a1 + 1)) (lv' := [(1, .int (a1 + 1)), (0, .ref 233)]) dX1_noteWay_84 rfl (by rfl) (Nat.le_of_ble_eq_true rfl) rfl ?_
        refine JT_goto (tgt := 2) dX1_noteWay_87 (by decide) ?_
        exact JT_sub [1, 0] rfl h
      · have h := h.2 hc11
        refine JT_aload_n (q := 0) dX1_noteWay_59 rfl rfl ?_
        refine JS_getR (x := 235) dX1_noteWay_60 flX1_15 BS_233 (Nat.le_of_ble_eq_true rfl) (Nat.le_of_ble_eq_true rfl) (Or.inr ⟨_, ct_1_1⟩) RF_233_1 ?_
        refine JT_iload_n (q := 1) dX1_noteWay_63 rfl rfl ?_
        obtain ⟨o9, h⟩ := h
        refine JS_iald dX1_noteWay_64 BS_235 (Nat.le_of_ble_eq_true rfl) (Nat.le_of_ble_eq_true rfl) o9 ?_
        refine JT_goto (tgt := 83) dX1_noteWay_65 (by decide) ?_
        obtain ⟨o10, h⟩ := h
        refine JS_iast dX1_noteWay_83 BS_237 (Nat.le_of_ble_eq_true rfl) (Nat.le_of_ble_eq_true rfl) o10 ?_
        refine JT_iinc (q := 1) (v := (a1 + 1)) (lv' := [(1, .int (a1 + 1)), (0, .ref 233)]) dX1_noteWay_84 rfl (by rfl) (Nat.le_of_ble_eq_true rfl) rfl ?_
        refine JT_goto (tgt := 2) dX1_noteWay_87 (by decide) ?_
        exact JT_sub [1, 0] rfl h
    · have h := h.2 hc22
      refine JT_aload_n (q := 0) dX1_noteWay_22 rfl rfl ?_
      refine JS_getR (x := 235) dX1_noteWay_23 flX1_15 BS_233 (Nat.le_of_ble_eq_true rfl) (Nat.le_of_ble_eq_true rfl) (Or.inr ⟨_, ct_1_1⟩) RF_233_1 ?_
      refine JT_iload_n (q := 1) dX1_noteWay_26 rfl rfl ?_
      obtain ⟨o12, h⟩ := h
      refine JS_iald dX1_noteWay_27 BS_235 (Nat.le_of_ble_eq_true rfl) (Nat.le_of_ble_eq_true rfl) o12 ?_
      refine JT_goto (tgt := 46) dX1_noteWay_28 (by decide) ?_
      obtain ⟨o13, h⟩ := h
      refine JS_iast dX1_noteWay_46 BS_236 (Nat.le_of_ble_eq_true rfl) (Nat.le_of_ble_eq_true rfl) o13 ?_
      refine JT_aload_n (q := 0) dX1_noteWay_47 rfl rfl ?_
      refine JS_getR (x := 237) dX1_noteWay_48 flX1_21 BS_233 (Nat.le_of_ble_eq_true rfl) (Nat.le_of_ble_eq_true rfl) (Or.inr ⟨_, ct_1_3⟩) RF_233_3 ?_
      refine JT_iload_n (q := 1) dX1_noteWay_51 rfl rfl ?_
      refine JT_aload_n (q := 0) dX1_noteWay_52 rfl rfl ?_
      refine JS_getI dX1_noteWay_53 flX1_96 BS_233 (Nat.le_of_ble_eq_true rfl) (Nat.le_of_ble_eq_true rfl) (Or.inl ct_1_9) ?_
      refine JT_if_ne (tgt := 68) dX1_noteWay_56 (by decide) (fun hc21 => ?_) (fun hc21 => ?_)
      · have h := h.1 hc21
        refine JT_aload_n (q := 0) dX1_noteWay_68 rfl rfl ?_
        refine JS_getR (x := 237) dX1_noteWay_69 flX1_21 BS_233 (Nat.le_of_ble_eq_true rfl) (Nat.le_of_ble_eq_true rfl) (Or.inr ⟨_, ct_1_3⟩) RF_233_3 ?_
        refine JT_iload_n (q := 1) dX1_noteWay_72 rfl rfl ?_
        obtain ⟨o14, h⟩ := h
        refine JS_iald dX1_noteWay_73 BS_237 (Nat.le_of_ble_eq_true rfl) (Nat.le_of_ble_eq_true rfl) o14 ?_
        refine JT_aload_n (q := 0) dX1_noteWay_74 rfl rfl ?_
        refine JS_getR (x := 235) dX1_noteWay_75 flX1_15 BS_233 (Nat.le_of_ble_eq_true rfl) (Nat.le_of_ble_eq_true rfl) (Or.inr ⟨_, ct_1_1⟩) RF_233_1 ?_
        refine JT_iload_n (q := 1) dX1_noteWay_78 rfl rfl ?_
        obtain ⟨o15, h⟩ := h
        refine JS_iald dX1_noteWay_79 BS_235 (Nat.le_of_ble_eq_true rfl) (Nat.le_of_ble_eq_true rfl) o15 ?_
        refine JT_mmax (d2 := 0) dX1_noteWay_80 mlX1_120 (Nat.le_of_ble_eq_true rfl) rfl ?_
        obtain ⟨o16, h⟩ := h
        refine JS_iast dX1_noteWay_83 BS_237 (Nat.le_of_ble_eq_true rfl) (Nat.le_of_ble_eq_true rfl) o16 ?_
        obtain ⟨s17, hs17⟩ : ∃ z, z = (pI (pI s 236 (a1).toNatClampNeg (gI s 235 (a1).toNatClampNeg)) 237 (a1).toNatClampNeg (if (gI (pI s 236 (a1).toNatClampNeg (gI s 235 (a1).toNatClampNeg)) 237 (a1).toNatClampNeg) < (gI (pI s 236 (a1).toNatClampNeg (gI s 235 (a1).toNatClampNeg)) 235 (a1).toNatClampNeg) then (gI (pI s 236 (a1).toNatClampNeg (gI s 235 (a1).toNatClampNeg)) 235 (a1).toNatClampNeg) else (gI (pI s 236 (a1).toNatClampNeg (gI s 235 (a1).toNatClampNeg)) 237 (a1).toNatClampNeg))) := ⟨_, rfl⟩
        replace h := h s17 hs17
        rw [← hs17]
        refine JT_iinc (q := 1) (v := (a1 + 1)) (lv' := [(1, .int (a1 + 1)), (0, .ref 233)]) dX1_noteWay_84 rfl (by rfl) (Nat.le_of_ble_eq_true rfl) rfl ?_
        refine JT_goto (tgt := 2) dX1_noteWay_87 (by decide) ?_
        exact JT_sub [1, 0] rfl h
      · have h := h.2 hc21
        refine JT_aload_n (q := 0) dX1_noteWay_59 rfl rfl ?_
        refine JS_getR (x := 235) dX1_noteWay_60 flX1_15 BS_233 (Nat.le_of_ble_eq_true rfl) (Nat.le_of_ble_eq_true rfl) (Or.inr ⟨_, ct_1_1⟩) RF_233_1 ?_
        refine JT_iload_n (q := 1) dX1_noteWay_63 rfl rfl ?_
        obtain ⟨o18, h⟩ := h
        refine JS_iald dX1_noteWay_64 BS_235 (Nat.le_of_ble_eq_true rfl) (Nat.le_of_ble_eq_true rfl) o18 ?_
        refine JT_goto (tgt := 83) dX1_noteWay_65 (by decide) ?_
        obtain ⟨o19, h⟩ := h
        refine JS_iast dX1_noteWay_83 BS_237 (Nat.le_of_ble_eq_true rfl) (Nat.le_of_ble_eq_true rfl) o19 ?_
        obtain ⟨s20, hs20⟩ : ∃ z, z = (pI (pI s 236 (a1).toNatClampNeg (gI s 235 (a1).toNatClampNeg)) 237 (a1).toNatClampNeg (gI (pI s 236 (a1).toNatClampNeg (gI s 235 (a1).toNatClampNeg)) 235 (a1).toNatClampNeg)) := ⟨_, rfl⟩
        replace h := h s20 hs20
        rw [← hs20]
        refine JT_iinc (q := 1) (v := (a1 + 1)) (lv' := [(1, .int (a1 + 1)), (0, .ref 233)]) dX1_noteWay_84 rfl (by rfl) (Nat.le_of_ble_eq_true rfl) rfl ?_
        refine JT_goto (tgt := 2) dX1_noteWay_87 (by decide) ?_
        exact JT_sub [1, 0] rfl h
set_option maxRecDepth 20000 in
theorem bX1_noteWay  {s : SM} {Q : SM → Prop} (h : BV MX1_noteWay 1 2 [(0, .ref 233), (1, .int (0 : Int32))] s Q) : KV MX1_noteWay 1 [.ref 233] s Q := by
  show BV MX1_noteWay 1 0 [(0, .ref 233)] s Q
  refine JT_iconst (v := 0) dX1_noteWay_0 ic_0 ?_
  refine JT_istore_n (lv' := [(1, .int (0 : Int32)), (0, .ref 233)]) dX1_noteWay_1 rfl (Nat.le_of_ble_eq_true rfl) rfl ?_
  exact JT_sub [1, 0] rfl h
set_option maxRecDepth 20000 in
theorem bX2_keepNoted  {s : SM} {Q : SM → Prop} (h : (∀ s1, s1 = (pI (pI s 55 1 (((gI s 55 1) + (1 : Int32)) - ((gI s 55 1) + (1 : Int32)) / (9 : Int32) * (9 : Int32))) 55 2 (if (8 : Int32) < ((gI (pI s 55 1 (((gI s 55 1) + (1 : Int32)) - ((gI s 55 1) + (1 : Int32)) / (9 : Int32) * (9 : Int32))) 55 2) + (1 : Int32)) then (8 : Int32) else ((gI (pI s 55 1 (((gI s 55 1) + (1 : Int32)) - ((gI s 55 1) + (1 : Int32)) / (9 : Int32) * (9 : Int32))) 55 2) + (1 : Int32)))) → Q s1)) : KV MX2_keepNoted 1 [.ref 55] s Q := by
  show BV MX2_keepNoted 1 0 [(0, .ref 55)] s Q
  refine JT_aload_n (q := 0) dX2_keepNoted_0 rfl rfl ?_
  refine JT_aload_n (q := 0) dX2_keepNoted_1 rfl rfl ?_
  refine JS_getI dX2_keepNoted_2 flX2_24 BS_55 (Nat.le_of_ble_eq_true rfl) (Nat.le_of_ble_eq_true rfl) (Or.inl ct_2_1) ?_
  refine JT_iconst (v := 1) dX2_keepNoted_5 ic_1 ?_
  refine JT_iadd dX2_keepNoted_6 ?_
  refine JT_aload_n (q := 0) dX2_keepNoted_7 rfl rfl ?_
  refine JS_getR (x := 56) dX2_keepNoted_8 flX2_11 BS_55 (Nat.le_of_ble_eq_true rfl) (Nat.le_of_ble_eq_true rfl) (Or.inr ⟨_, ct_2_0⟩) RF_55_0 ?_
  refine JT_alen (v := 9) dX2_keepNoted_11 BS_56 (Nat.le_of_ble_eq_true rfl) (Nat.le_of_ble_eq_true rfl) (by decide) ?_
  refine JT_irem dX2_keepNoted_12 (by decide) ?_
  refine JS_putI dX2_keepNoted_13 flX2_24 BS_55 (Nat.le_of_ble_eq_true rfl) (Nat.le_of_ble_eq_true rfl) ct_2_1 ?_
  refine JT_aload_n (q := 0) dX2_keepNoted_16 rfl rfl ?_
  refine JT_aload_n (q := 0) dX2_keepNoted_17 rfl rfl ?_
  refine JS_getI dX2_keepNoted_18 flX2_20 BS_55 (Nat.le_of_ble_eq_true rfl) (Nat.le_of_ble_eq_true rfl) (Or.inl ct_2_2) ?_
  refine JT_iconst (v := 1) dX2_keepNoted_21 ic_1 ?_
  refine JT_iadd dX2_keepNoted_22 ?_
  refine JT_bipush (v := 8) dX2_keepNoted_23 bp_8 ?_
  refine JT_mmin (d2 := 0) dX2_keepNoted_25 mlX2_31 (Nat.le_of_ble_eq_true rfl) rfl ?_
  refine JS_putI dX2_keepNoted_28 flX2_20 BS_55 (Nat.le_of_ble_eq_true rfl) (Nat.le_of_ble_eq_true rfl) ct_2_2 ?_
  obtain ⟨s1, hs1⟩ : ∃ z, z = (pI (pI s 55 1 (((gI s 55 1) + (1 : Int32)) - ((gI s 55 1) + (1 : Int32)) / (9 : Int32) * (9 : Int32))) 55 2 (if (8 : Int32) < ((gI (pI s 55 1 (((gI s 55 1) + (1 : Int32)) - ((gI s 55 1) + (1 : Int32)) / (9 : Int32) * (9 : Int32))) 55 2) + (1 : Int32)) then (8 : Int32) else ((gI (pI s 55 1 (((gI s 55 1) + (1 : Int32)) - ((gI s 55 1) + (1 : Int32)) / (9 : Int32) * (9 : Int32))) 55 2) + (1 : Int32)))) := ⟨_, rfl⟩
  replace h := h s1 hs1
  rw [← hs1]
  exact JS_vret dX2_keepNoted_31 rfl h
set_option maxRecDepth 20000 in
def mX2_keepNoted (s : SM)  : SM := ((fun (s1 : SM) => s1) (pI (pI s 55 1 (((gI s 55 1) + (1 : Int32)) - ((gI s 55 1) + (1 : Int32)) / (9 : Int32) * (9 : Int32))) 55 2 (if (8 : Int32) < ((gI (pI s 55 1 (((gI s 55 1) + (1 : Int32)) - ((gI s 55 1) + (1 : Int32)) / (9 : Int32) * (9 : Int32))) 55 2) + (1 : Int32)) then (8 : Int32) else ((gI (pI s 55 1 (((gI s 55 1) + (1 : Int32)) - ((gI s 55 1) + (1 : Int32)) / (9 : Int32) * (9 : Int32))) 55 2) + (1 : Int32)))))
set_option maxRecDepth 20000 in
theorem pX2_keepNoted  {s : SM} {Q : SM → Prop} (h : Q (mX2_keepNoted s )) : KV MX2_keepNoted 1 [.ref 55] s Q := by
  refine bX2_keepNoted  ?_
  unfold mX2_keepNoted at h
  intro s1 e9
  subst e9
  first | exact h | contradiction
set_option maxRecDepth 20000 in
theorem bX4_bearerFor {L0 P0 : Nat} (hL0 : (L0, P0) ∈ LX) (a1 : Int32) (a2 : Int32) {s : SM} {Q : Int32 → SM → Prop} (h : vp_in a1 9 ∧ (((gI s (L0 + 7) (a1).toNatClampNeg) < a2 → vp_in a1 9 ∧ (((gI s (P0 + 3) (a1).toNatClampNeg) = (-1 : Int32) → Q (-1 : Int32) s) ∧ (¬ (gI s (P0 + 3) (a1).toNatClampNeg) = (-1 : Int32) → (((vX4_lives s L0 P0 (gI s (P0 + 3) (a1).toNatClampNeg)) = 0 → Q (-1 : Int32) s) ∧ (¬ (vX4_lives s L0 P0 (gI s (P0 + 3) (a1).toNatClampNeg)) = 0 → vp_in (gI s (P0 + 3) (a1).toNatClampNeg) 9 ∧ Q (if (gI s (L0 + 7) ((gI s (P0 + 3) (a1).toNatClampNeg)).toNatClampNeg) < a2 then (-1 : Int32) else (gI s (P0 + 3) (a1).toNatClampNeg)) s))))) ∧ (¬ (gI s (L0 + 7) (a1).toNatClampNeg) < a2 → Q a1 s))) : KI MX4_bearerFor 1 [.ref L0, .int a1, .int a2] s Q := by
  show BI MX4_bearerFor 1 0 [(0, .ref L0), (1, .int a1), (2, .int a2)] s Q
  refine JT_aload_n (q := 0) dX4_bearerFor_0 rfl rfl ?_
  refine JS_getR (x := (L0 + 7)) dX4_bearerFor_1 flX4_30 (lxB hL0) (lx2 hL0) (lxN hL0) (Or.inr ⟨_, ct_4_6⟩) (lxR6 hL0) ?_
  refine JT_iload_n (q := 1) dX4_bearerFor_4 rfl rfl ?_
  obtain ⟨o1, h⟩ := h
  refine JS_iald dX4_bearerFor_5 (lxB7 hL0) (lx2k hL0 _) (lxNk hL0 (Nat.le_of_ble_eq_true rfl)) o1 ?_
  refine JT_iload_n (q := 2) dX4_bearerFor_6 rfl rfl ?_
  refine JT_icmp_lt (tgt := 12) dX4_bearerFor_7 (by decide) (fun hc9 => ?_) (fun hc9 => ?_)
  · have h := h.1 hc9
    refine JT_aload_n (q := 0) dX4_bearerFor_12 rfl rfl ?_
    refine JS_getR (x := P0) dX4_bearerFor_13 flX4_45 (lxB hL0) (lx2 hL0) (lxN hL0) (Or.inl ⟨_, ct_4_8⟩) (lxR8 hL0) ?_
    refine JS_getR (x := (P0 + 3)) dX4_bearerFor_16 flX4_122 (pxB (lxP hL0)) (px2 (lxP hL0)) (pxN (lxP hL0)) (Or.inr ⟨_, ct_6_2⟩) (pxR2 (lxP hL0)) ?_
    refine JT_iload_n (q := 1) dX4_bearerFor_19 rfl rfl ?_
    obtain ⟨o2, h⟩ := h
    refine JS_iald dX4_bearerFor_20 (pxB3 (lxP hL0)) (px2k (lxP hL0) _) (pxNk (lxP hL0) (Nat.le_of_ble_eq_true rfl)) o2 ?_
    refine JT_istore_n (lv' := [(3, .int (gI s (P0 + 3) (a1).toNatClampNeg)), (0, .ref L0), (1, .int a1), (2, .int a2)]) dX4_bearerFor_21 rfl (Nat.le_of_ble_eq_true rfl) rfl ?_
    refine JT_iload_n (q := 0) dX4_bearerFor_22 rfl rfl ?_
    refine JT_iconst (v := -1) dX4_bearerFor_23 ic_m1 ?_
    refine JT_icmp_eq (tgt := 49) dX4_bearerFor_24 (by decide) (fun hc8 => ?_) (fun hc8 => ?_)
    · have h := h.1 hc8
      refine JT_iconst (v := -1) dX4_bearerFor_49 ic_m1 ?_
      exact JS_iret dX4_bearerFor_50 rfl rfl h
    · have h := h.2 hc8
      refine JT_aload_n (q := 1) dX4_bearerFor_27 rfl rfl ?_
      refine JT_iload_n (q := 0) dX4_bearerFor_28 rfl rfl ?_
      refine JS_callVI (M' := MX4_lives) (d' := 0) (As := [.int (gI s (P0 + 3) (a1).toNatClampNeg)]) (rest := []) (P := (fun zv9 wm9 => (vX4_lives s L0 P0 (gI s (P0 + 3) (a1).toNatClampNeg)) = zv9 ∧ s = wm9)) dX4_bearerFor_29 cvX4_85 okX4_lives rfl (Nat.le_of_ble_eq_true rfl) (lxB hL0) (lx2 hL0) (lxN hL0) hci_4 (Nat.le_of_ble_eq_true rfl) (Nat.le_of_ble_eq_true rfl) (pX4_lives hL0 ((gI s (P0 + 3) (a1).toNatClampNeg))  ⟨rfl, rfl⟩) (fun zv9 wm9 hq9 => ?_)
      obtain ⟨rfl, rfl⟩ := hq9
      refine JT_if_eq (tgt := 49) dX4_bearerFor_32 (by decide) (fun hc6 => ?_) (fun hc6 => ?_)
      · have h := h.1 hc6
        refine JT_iconst (v := -1) dX4_bearerFor_49 ic_m1 ?_
        exact JS_iret dX4_bearerFor_50 rfl rfl h
      · have h := h.2 hc6
        refine JT_aload_n (q := 1) dX4_bearerFor_35 rfl rfl ?_
        refine JS_getR (x := (L0 + 7)) dX4_bearerFor_36 flX4_30 (lxB hL0) (lx2 hL0) (lxN hL0) (Or.inr ⟨_, ct_4_6⟩) (lxR6 hL0) ?_
        refine JT_iload_n (q := 0) dX4_bearerFor_39 rfl rfl ?_
        obtain ⟨o3, h⟩ := h
        refine JS_iald dX4_bearerFor_40 (lxB7 hL0) (lx2k hL0 _) (lxNk hL0 (Nat.le_of_ble_eq_true rfl)) o3 ?_
        refine JT_iload_n (q := 3) dX4_bearerFor_41 rfl rfl ?_
        have hj4 : ∀ v : Int32, v = (if (gI s (L0 + 7) ((gI s (P0 + 3) (a1).toNatClampNeg)).toNatClampNeg) < a2 then (-1 : Int32) else (gI s (P0 + 3) (a1).toNatClampNeg)) → JT MX4_bearerFor 1 0 0 50 [(3, .int (gI s (P0 + 3) (a1).toNatClampNeg)), (0, .ref L0), (1, .int a1), (2, .int a2)] [.int v] (std s) (KQ Q) := by
          intro v hv
          subst hv
          exact JS_iret dX4_bearerFor_50 rfl rfl h
        refine JT_icmp_lt (tgt := 49) dX4_bearerFor_42 (by decide) (fun hc5 => ?_) (fun hc5 => ?_)
        · refine JT_iconst (v := -1) dX4_bearerFor_49 ic_m1 ?_
          exact hj4 _ (by rw [if_pos hc5])
        · refine JT_iload_n (q := 0) dX4_bearerFor_45 rfl rfl ?_
          refine JT_goto (tgt := 50) dX4_bearerFor_46 (by decide) ?_
          exact hj4 _ (by rw [if_neg hc5])
  · have h := h.2 hc9
    refine JT_iload_n (q := 1) dX4_bearerFor_10 rfl rfl ?_
    exact JS_iret dX4_bearerFor_11 rfl rfl h
set_option maxRecDepth 20000 in
def vX4_bearerFor (s : SM) (L0 P0 : Nat) (a1 : Int32) (a2 : Int32) : Int32 := (if (gI s (L0 + 7) (a1).toNatClampNeg) < a2 then (if (gI s (P0 + 3) (a1).toNatClampNeg) = (-1 : Int32) then (-1 : Int32) else (if (vX4_lives s L0 P0 (gI s (P0 + 3) (a1).toNatClampNeg)) = 0 then (-1 : Int32) else (if (gI s (L0 + 7) ((gI s (P0 + 3) (a1).toNatClampNeg)).toNatClampNeg) < a2 then (-1 : Int32) else (gI s (P0 + 3) (a1).toNatClampNeg)))) else a1)
set_option maxRecDepth 20000 in
def rX4_bearerFor (s : SM) (L0 P0 : Nat) (a1 : Int32) (a2 : Int32) : Prop := vp_in a1 9 ∧ ((gI s (L0 + 7) (a1).toNatClampNeg) < a2 → vp_in a1 9 ∧ (¬ (gI s (P0 + 3) (a1).toNatClampNeg) = (-1 : Int32) → (¬ (vX4_lives s L0 P0 (gI s (P0 + 3) (a1).toNatClampNeg)) = 0 → vp_in (gI s (P0 + 3) (a1).toNatClampNeg) 9)))
set_option maxRecDepth 20000 in
theorem pX4_bearerFor {L0 P0 : Nat} (hL0 : (L0, P0) ∈ LX) (a1 : Int32) (a2 : Int32) {s : SM} {Q : Int32 → SM → Prop} (hr : rX4_bearerFor s L0 P0 a1 a2) (h : Q (vX4_bearerFor s L0 P0 a1 a2) s) : KI MX4_bearerFor 1 [.ref L0, .int a1, .int a2] s Q := by
  refine bX4_bearerFor hL0 a1 a2 ?_
  unfold rX4_bearerFor at hr
  unfold vX4_bearerFor at h
  refine ⟨hr.1, ?_⟩
  replace hr := hr.2
  refine ⟨fun c => ?_, fun c => ?_⟩
  · replace hr := hr c
    try simp only [if_pos c] at h
    refine ⟨hr.1, ?_⟩
    replace hr := hr.2
    refine ⟨fun c => ?_, fun c => ?_⟩
    · try simp only [if_pos c] at h
      first | exact h | contradiction
    · replace hr := hr c
      try simp only [if_neg c] at h
      refine ⟨fun c => ?_, fun c => ?_⟩
      · try simp only [if_pos c] at h
        first | exact h | contradiction
      · replace hr := hr c
        try simp only [if_neg c] at h
        refine ⟨hr, ?_⟩
        first | exact h | contradiction
  · try simp only [if_neg c] at h
    first | exact h | contradiction
set_option maxRecDepth 20000 in
theorem bX4_copyFrom {L0 P0 : Nat} (hL0 : (L0, P0) ∈ LX) {L1 P1 : Nat} (hL1 : (L1, P1) ∈ LX) {s : SM} {Q : SM → Prop} (h : (((gI s L1 9) < 0 → Q s) ∧ (¬ (gI s L1 9) < 0 → (((gI s L1 9) ≤ (60 : Int32) → (¬ (gI s L1 9) < 0 ∧ 0 + ((gI s L1 9)).toNatClampNeg ≤ 60) ∧ (∀ s1, s1 = (cI s (L0 + 1) (va_cpy (gI s (L1 + 1)) (gI s (L0 + 1)) ((0 : Int32)).toNatClampNeg ((0 : Int32)).toNatClampNeg ((gI s L1 9)).toNatClampNeg)) → (¬ (gI s L1 9) < 0 ∧ 0 + ((gI s L1 9)).toNatClampNeg ≤ 60) ∧ (∀ s2, s2 = (cI s1 (L0 + 2) (va_cpy (gI s1 (L1 + 2)) (gI s1 (L0 + 2)) ((0 : Int32)).toNatClampNeg ((0 : Int32)).toNatClampNeg ((gI s L1 9)).toNatClampNeg)) → (¬ (gI s L1 9) < 0 ∧ 0 + ((gI s L1 9)).toNatClampNeg ≤ 60) ∧ (∀ s3, s3 = (cI s2 (L0 + 3) (va_cpy (gI s2 (L1 + 3)) (gI s2 (L0 + 3)) ((0 : Int32)).toNatClampNeg ((0 : Int32)).toNatClampNeg ((gI s L1 9)).toNatClampNeg)) → (¬ (gI s L1 9) < 0 ∧ 0 + ((gI s L1 9)).toNatClampNeg ≤ 60) ∧ (∀ s4, s4 = (cI s3 (L0 + 4) (va_cpy (gI s3 (L1 + 4)) (gI s3 (L0 + 4)) ((0 : Int32)).toNatClampNeg ((0 : Int32)).toNatClampNeg ((gI s L1 9)).toNatClampNeg)) → (¬ (gI s L1 9) < 0 ∧ 0 + ((gI s L1 9)).toNatClampNeg ≤ 60) ∧ (∀ s5, s5 = (cI s4 (L0 + 5) (va_cpy (gI s4 (L1 + 5)) (gI s4 (L0 + 5)) ((0 : Int32)).toNatClampNeg ((0 : Int32)).toNatClampNeg ((gI s L1 9)).toNatClampNeg)) → (¬ (gI s L1 9) < 0 ∧ 0 + ((gI s L1 9)).toNatClampNeg ≤ 60) ∧ (∀ s6, s6 = (cI s5 (L0 + 6) (va_cpy (gI s5 (L1 + 6)) (gI s5 (L0 + 6)) ((0 : Int32)).toNatClampNeg ((0 : Int32)).toNatClampNeg ((gI s L1 9)).toNatClampNeg)) → (¬ (gI s L1 9) < 0 ∧ 0 + ((gI s L1 9)).toNatClampNeg ≤ 60) ∧ (∀ s7, s7 = (cI s6 (L0 + 9) (va_cpy (gI s6 (L1 + 9)) (gI s6 (L0 + 9)) ((0 : Int32)).toNatClampNeg ((0 : Int32)).toNatClampNeg ((gI s L1 9)).toNatClampNeg)) → (¬ (gI s L1 9) < 0 ∧ 0 + ((gI s L1 9)).toNatClampNeg ≤ 60) ∧ (∀ s8, s8 = (cI s7 (L0 + 10) (va_cpy (gI s7 (L1 + 10)) (gI s7 (L0 + 10)) ((0 : Int32)).toNatClampNeg ((0 : Int32)).toNatClampNeg ((gI s L1 9)).toNatClampNeg)) → (¬ (gI s L1 9) < 0 ∧ 0 + ((gI s L1 9)).toNatClampNeg ≤ 60) ∧ (∀ s9, s9 = (cI s8 (L0 + 11) (va_cpy (gI s8 (L1 + 11)) (gI s8 (L0 + 11)) ((0 : Int32)).toNatClampNeg ((0 : Int32)).toNatClampNeg ((gI s L1 9)).toNatClampNeg)) → (∀ s10, s10 = (cI s9 (L0 + 7) (va_cpy (gI s9 (L1 + 7)) (gI s9 (L0 + 7)) ((0 : Int32)).toNatClampNeg ((0 : Int32)).toNatClampNeg ((9 : Int32)).toNatClampNeg)) → (∀ s11, s11 = (cI s10 (L0 + 8) (va_cpy (gI s10 (L1 + 8)) (gI s10 (L0 + 8)) ((0 : Int32)).toNatClampNeg ((0 : Int32)).toNatClampNeg ((9 : Int32)).toNatClampNeg)) → (∀ s12, s12 = (pI (pI (pI s11 L0 9 (gI s L1 9)) L0 10 (gI (pI s11 L0 9 (gI s L1 9)) L1 10)) L0 14 (gI (pI (pI s11 L0 9 (gI s L1 9)) L0 10 (gI (pI s11 L0 9 (gI s L1 9)) L1 10)) L1 14)) → Q s12))))))))))))) ∧ (¬ (gI s L1 9) ≤ (60 : Int32) → Q s))))) : KV MX4_copyFrom 1 [.ref L0, .ref L1] s Q := by
  show BV MX4_copyFrom 1 0 [(0, .ref L0), (1, .ref L1)] s Q
  refine JT_aload_n (q := 1) dX4_copyFrom_0 rfl rfl ?_
  refine JS_getI dX4_copyFrom_1 flX4_49 (lxB hL1) (lx2 hL1) (lxN hL1) (Or.inl ct_4_9) ?_
  refine JT_istore_n (lv' := [(2, .int (gI s L1 9)), (0, .ref L0), (1, .ref L1)]) dX4_copyFrom_4 rfl (Nat.le_of_ble_eq_true rfl) rfl ?_
  refine JT_iload_n (q := 0) dX4_copyFrom_5 rfl rfl ?_
  refine JT_if_lt (tgt := 15) dX4_copyFrom_6 (by decide) (fun hc23 => ?_) (fun hc23 => ?_)
  · have h := h.1 hc23
    exact JS_vret dX4_copyFrom_15 rfl h
  · have h := h.2 hc23
    refine JT_iload_n (q := 0) dX4_copyFrom_9 rfl rfl ?_
    refine JT_bipush (v := 60) dX4_copyFrom_10 bp_60 ?_
    refine JT_icmp_le (tgt := 16) dX4_copyFrom_12 (by decide) (fun hc22 => ?_) (fun hc22 => ?_)
    · have h := h.1 hc22
      refine JT_aload_n (q := 2) dX4_copyFrom_16 rfl rfl ?_
      refine JS_getR (x := (L1 + 1)) dX4_copyFrom_17 flX4_9 (lxB hL1) (lx2 hL1) (lxN hL1) (Or.inr ⟨_, ct_4_0⟩) (lxR0 hL1) ?_
      refine JT_iconst (v := 0) dX4_copyFrom_20 ic_0 ?_
      refine JT_aload_n (q := 1) dX4_copyFrom_21 rfl rfl ?_
      refine JS_getR (x := (L0 + 1)) dX4_copyFrom_22 flX4_9 (lxB hL0) (lx2 hL0) (lxN hL0) (Or.inr ⟨_, ct_4_0⟩) (lxR0 hL0) ?_
      refine JT_iconst (v := 0) dX4_copyFrom_25 ic_0 ?_
      refine JT_iload_n (q := 0) dX4_copyFrom_26 rfl rfl ?_
      obtain ⟨o21, h⟩ := h
      refine JS_copyI (d2 := 0) (na := 60) (nb := 60) dX4_copyFrom_27 mlX4_64 (lxB1 hL0) (lx2k hL0 _) (lxNk hL0 (Nat.le_of_ble_eq_true rfl)) (lxB1 hL1) (lx2k hL1 _) (lxNk hL1 (Nat.le_of_ble_eq_true rfl)) (by decide) (by decide) o21.1 (Nat.le_trans o21.2 (by decide)) (Nat.le_trans o21.2 (by decide)) (Nat.le_of_ble_eq_true rfl) rfl ?_
      obtain ⟨s1, hs1⟩ : ∃ z, z = (cI s (L0 + 1) (va_cpy (gI s (L1 + 1)) (gI s (L0 + 1)) ((0 : Int32)).toNatClampNeg ((0 : Int32)).toNatClampNeg ((gI s L1 9)).toNatClampNeg)) := ⟨_, rfl⟩
      replace h := h s1 hs1
      rw [← hs1]
      refine JT_aload_n (q := 2) dX4_copyFrom_30 rfl rfl ?_
      refine JS_getR (x := (L1 + 2)) dX4_copyFrom_31 flX4_15 (lxB hL1) (lx2 hL1) (lxN hL1) (Or.inr ⟨_, ct_4_1⟩) (lxR1 hL1) ?_
      refine JT_iconst (v := 0) dX4_copyFrom_34 ic_0 ?_
      refine JT_aload_n (q := 1) dX4_copyFrom_35 rfl rfl ?_
      refine JS_getR (x := (L0 + 2)) dX4_copyFrom_36 flX4_15 (lxB hL0) (lx2 hL0) (lxN hL0) (Or.inr ⟨_, ct_4_1⟩) (lxR1 hL0) ?_
      refine JT_iconst (v := 0) dX4_copyFrom_39 ic_0 ?_
      refine JT_iload_n (q := 0) dX4_copyFrom_40 rfl rfl ?_
      obtain ⟨o20, h⟩ := h
      refine JS_copyI (d2 := 0) (na := 60) (nb := 60) dX4_copyFrom_41 mlX4_64 (lxB2 hL0) (lx2k hL0 _) (lxNk hL0 (Nat.le_of_ble_eq_true rfl)) (lxB2 hL1) (lx2k hL1 _) (lxNk hL1 (Nat.le_of_ble_eq_true rfl)) (by decide) (by decide) o20.1 (Nat.le_trans o20.2 (by decide)) (Nat.le_trans o20.2 (by decide)) (Nat.le_of_ble_eq_true rfl) rfl ?_
      obtain ⟨s2, hs2⟩ : ∃ z, z = (cI s1 (L0 + 2) (va_cpy (gI s1 (L1 + 2)) (gI s1 (L0 + 2)) ((0 : Int32)).toNatClampNeg ((0 : Int32)).toNatClampNeg ((gI s L1 9)).toNatClampNeg)) := ⟨_, rfl⟩
      replace h := h s2 hs2
      rw [← hs2]
      refine JT_aload_n (q := 2) dX4_copyFrom_44 rfl rfl ?_
      refine JS_getR (x := (L1 + 3)) dX4_copyFrom_45 flX4_18 (lxB hL1) (lx2 hL1) (lxN hL1) (Or.inr ⟨_, ct_4_2⟩) (lxR2 hL1) ?_
      refine JT_iconst (v := 0) dX4_copyFrom_48 ic_0 ?_
      refine JT_aload_n (q := 1) dX4_copyFrom_49 rfl rfl ?_
      refine JS_getR (x := (L0 + 3)) dX4_copyFrom_50 flX4_18 (lxB hL0) (lx2 hL0) (lxN hL0) (Or.inr ⟨_, ct_4_2⟩) (lxR2 hL0) ?_
      refine JT_iconst (v := 0) dX4_copyFrom_53 ic_0 ?_
      refine JT_iload_n (q := 0) dX4_copyFrom_54 rfl rfl ?_
      obtain ⟨o19, h⟩ := h
      refine JS_copyI (d2 := 0) (na := 60) (nb := 60) dX4_copyFrom_55 mlX4_64 (lxB3 hL0) (lx2k hL0 _) (lxNk hL0 (Nat.le_of_ble_eq_true rfl)) (lxB3 hL1) (lx2k hL1 _) (lxNk hL1 (Nat.le_of_ble_eq_true rfl)) (by decide) (by decide) o19.1 (Nat.le_trans o19.2 (by decide)) (Nat.le_trans o19.2 (by decide)) (Nat.le_of_ble_eq_true rfl) rfl ?_
      obtain ⟨s3, hs3⟩ : ∃ z, z = (cI s2 (L0 + 3) (va_cpy (gI s2 (L1 + 3)) (gI s2 (L0 + 3)) ((0 : Int32)).toNatClampNeg ((0 : Int32)).toNatClampNeg ((gI s L1 9)).toNatClampNeg)) := ⟨_, rfl⟩
      replace h := h s3 hs3
      rw [← hs3]
      refine JT_aload_n (q := 2) dX4_copyFrom_58 rfl rfl ?_
      refine JS_getR (x := (L1 + 4)) dX4_copyFrom_59 flX4_21 (lxB hL1) (lx2 hL1) (lxN hL1) (Or.inr ⟨_, ct_4_3⟩) (lxR3 hL1) ?_
      refine JT_iconst (v := 0) dX4_copyFrom_62 ic_0 ?_
      refine JT_aload_n (q := 1) dX4_copyFrom_63 rfl rfl ?_
      refine JS_getR (x := (L0 + 4)) dX4_copyFrom_64 flX4_21 (lxB hL0) (lx2 hL0) (lxN hL0) (Or.inr ⟨_, ct_4_3⟩) (lxR3 hL0) ?_
      refine JT_iconst (v := 0) dX4_copyFrom_67 ic_0 ?_
      refine JT_iload_n (q := 0) dX4_copyFrom_68 rfl rfl ?_
      obtain ⟨o18, h⟩ := h
      refine JS_copyI (d2 := 0) (na := 60) (nb := 60) dX4_copyFrom_69 mlX4_64 (lxB4 hL0) (lx2k hL0 _) (lxNk hL0 (Nat.le_of_ble_eq_true rfl)) (lxB4 hL1) (lx2k hL1 _) (lxNk hL1 (Nat.le_of_ble_eq_true rfl)) (by decide) (by decide) o18.1 (Nat.le_trans o18.2 (by decide)) (Nat.le_trans o18.2 (by decide)) (Nat.le_of_ble_eq_true rfl) rfl ?_
      obtain ⟨s4, hs4⟩ : ∃ z, z = (cI s3 (L0 + 4) (va_cpy (gI s3 (L1 + 4)) (gI s3 (L0 + 4)) ((0 : Int32)).toNatClampNeg ((0 : Int32)).toNatClampNeg ((gI s L1 9)).toNatClampNeg)) := ⟨_, rfl⟩
      replace h := h s4 hs4
      rw [← hs4]
      refine JT_aload_n (q := 2) dX4_copyFrom_72 rfl rfl ?_
      refine JS_getR (x := (L1 + 5)) dX4_copyFrom_73 flX4_24 (lxB hL1) (lx2 hL1) (lxN hL1) (Or.inr ⟨_, ct_4_4⟩) (lxR4 hL1) ?_
      refine JT_iconst (v := 0) dX4_copyFrom_76 ic_0 ?_
      refine JT_aload_n (q := 1) dX4_copyFrom_77 rfl rfl ?_
      refine JS_getR (x := (L0 + 5)) dX4_copyFrom_78 flX4_24 (lxB hL0) (lx2 hL0) (lxN hL0) (Or.inr ⟨_, ct_4_4⟩) (lxR4 hL0) ?_
      refine JT_iconst (v := 0) dX4_copyFrom_81 ic_0 ?_
      refine JT_iload_n (q := 0) dX4_copyFrom_82 rfl rfl ?_
      obtain ⟨o17, h⟩ := h
      refine JS_copyI (d2 := 0) (na := 60) (nb := 60) dX4_copyFrom_83 mlX4_64 (lxB5 hL0) (lx2k hL0 _) (lxNk hL0 (Nat.le_of_ble_eq_true rfl)) (lxB5 hL1) (lx2k hL1 _) (lxNk hL1 (Nat.le_of_ble_eq_true rfl)) (by decide) (by decide) o17.1 (Nat.le_trans o17.2 (by decide)) (Nat.le_trans o17.2 (by decide)) (Nat.le_of_ble_eq_true rfl) rfl ?_
      obtain ⟨s5, hs5⟩ : ∃ z, z = (cI s4 (L0 + 5) (va_cpy (gI s4 (L1 + 5)) (gI s4 (L0 + 5)) ((0 : Int32)).toNatClampNeg ((0 : Int32)).toNatClampNeg ((gI s L1 9)).toNatClampNeg)) := ⟨_, rfl⟩
      replace h := h s5 hs5
      rw [← hs5]
      refine JT_aload_n (q := 2) dX4_copyFrom_86 rfl rfl ?_
      refine JS_getR (x := (L1 + 6)) dX4_copyFrom_87 flX4_27 (lxB hL1) (lx2 hL1) (lxN hL1) (Or.inr ⟨_, ct_4_5⟩) (lxR5 hL1) ?_
      refine JT_iconst (v := 0) dX4_copyFrom_90 ic_0 ?_
      refine JT_aload_n (q := 1) dX4_copyFrom_91 rfl rfl ?_
      refine JS_getR (x := (L0 + 6)) dX4_copyFrom_92 flX4_27 (lxB hL0) (lx2 hL0) (lxN hL0) (Or.inr ⟨_, ct_4_5⟩) (lxR5 hL0) ?_
      refine JT_iconst (v := 0) dX4_copyFrom_95 ic_0 ?_
      refine JT_iload_n (q := 0) dX4_copyFrom_96 rfl rfl ?_
      obtain ⟨o16, h⟩ := h
      refine JS_copyI (d2 := 0) (na := 60) (nb := 60) dX4_copyFrom_97 mlX4_64 (lxB6 hL0) (lx2k hL0 _) (lxNk hL0 (Nat.le_of_ble_eq_true rfl)) (lxB6 hL1) (lx2k hL1 _) (lxNk hL1 (Nat.le_of_ble_eq_true rfl)) (by decide) (by decide) o16.1 (Nat.le_trans o16.2 (by decide)) (Nat.le_trans o16.2 (by decide)) (Nat.le_of_ble_eq_true rfl) rfl ?_
      obtain ⟨s6, hs6⟩ : ∃ z, z = (cI s5 (L0 + 6) (va_cpy (gI s5 (L1 + 6)) (gI s5 (L0 + 6)) ((0 : Int32)).toNatClampNeg ((0 : Int32)).toNatClampNeg ((gI s L1 9)).toNatClampNeg)) := ⟨_, rfl⟩
      replace h := h s6 hs6
      rw [← hs6]
      refine JT_aload_n (q := 2) dX4_copyFrom_100 rfl rfl ?_
      refine JS_getR (x := (L1 + 9)) dX4_copyFrom_101 flX4_36 (lxB hL1) (lx2 hL1) (lxN hL1) (Or.inr ⟨_, ct_4_11⟩) (lxR11 hL1) ?_
      refine JT_iconst (v := 0) dX4_copyFrom_104 ic_0 ?_
      refine JT_aload_n (q := 1) dX4_copyFrom_105 rfl rfl ?_
      refine JS_getR (x := (L0 + 9)) dX4_copyFrom_106 flX4_36 (lxB hL0) (lx2 hL0) (lxN hL0) (Or.inr ⟨_, ct_4_11⟩) (lxR11 hL0) ?_
      refine JT_iconst (v := 0) dX4_copyFrom_109 ic_0 ?_
      refine JT_iload_n (q := 0) dX4_copyFrom_110 rfl rfl ?_
      obtain ⟨o15, h⟩ := h
      refine JS_copyI (d2 := 0) (na := 60) (nb := 60) dX4_copyFrom_111 mlX4_64 (lxB9 hL0) (lx2k hL0 _) (lxNk hL0 (Nat.le_of_ble_eq_true rfl)) (lxB9 hL1) (lx2k hL1 _) (lxNk hL1 (Nat.le_of_ble_eq_true rfl)) (by decide) (by decide) o15.1 (Nat.le_trans o15.2 (by decide)) (Nat.le_trans o15.2 (by decide)) (Nat.le_of_ble_eq_true rfl) rfl ?_
      obtain ⟨s7, hs7⟩ : ∃ z, z = (cI s6 (L0 + 9) (va_cpy (gI s6 (L1 + 9)) (gI s6 (L0 + 9)) ((0 : Int32)).toNatClampNeg ((0 : Int32)).toNatClampNeg ((gI s L1 9)).toNatClampNeg)) := ⟨_, rfl⟩
      replace h := h s7 hs7
      rw [← hs7]
      refine JT_aload_n (q := 2) dX4_copyFrom_114 rfl rfl ?_
      refine JS_getR (x := (L1 + 10)) dX4_copyFrom_115 flX4_39 (lxB hL1) (lx2 hL1) (lxN hL1) (Or.inr ⟨_, ct_4_12⟩) (lxR12 hL1) ?_
      refine JT_iconst (v := 0) dX4_copyFrom_118 ic_0 ?_
      refine JT_aload_n (q := 1) dX4_copyFrom_119 rfl rfl ?_
      refine JS_getR (x := (L0 + 10)) dX4_copyFrom_120 flX4_39 (lxB hL0) (lx2 hL0) (lxN hL0) (Or.inr ⟨_, ct_4_12⟩) (lxR12 hL0) ?_
      refine JT_iconst (v := 0) dX4_copyFrom_123 ic_0 ?_
      refine JT_iload_n (q := 0) dX4_copyFrom_124 rfl rfl ?_
      obtain ⟨o14, h⟩ := h
      refine JS_copyI (d2 := 0) (na := 60) (nb := 60) dX4_copyFrom_125 mlX4_64 (lxB10 hL0) (lx2k hL0 _) (lxNk hL0 (Nat.le_of_ble_eq_true rfl)) (lxB10 hL1) (lx2k hL1 _) (lxNk hL1 (Nat.le_of_ble_eq_true rfl)) (by decide) (by decide) o14.1 (Nat.le_trans o14.2 (by decide)) (Nat.le_trans o14.2 (by decide)) (Nat.le_of_ble_eq_true rfl) rfl ?_
      obtain ⟨s8, hs8⟩ : ∃ z, z = (cI s7 (L0 + 10) (va_cpy (gI s7 (L1 + 10)) (gI s7 (L0 + 10)) ((0 : Int32)).toNatClampNeg ((0 : Int32)).toNatClampNeg ((gI s L1 9)).toNatClampNeg)) := ⟨_, rfl⟩
      replace h := h s8 hs8
      rw [← hs8]
      refine JT_aload_n (q := 2) dX4_copyFrom_128 rfl rfl ?_
      refine JS_getR (x := (L1 + 11)) dX4_copyFrom_129 flX4_42 (lxB hL1) (lx2 hL1) (lxN hL1) (Or.inr ⟨_, ct_4_13⟩) (lxR13 hL1) ?_
      refine JT_iconst (v := 0) dX4_copyFrom_132 ic_0 ?_
      refine JT_aload_n (q := 1) dX4_copyFrom_133 rfl rfl ?_
      refine JS_getR (x := (L0 + 11)) dX4_copyFrom_134 flX4_42 (lxB hL0) (lx2 hL0) (lxN hL0) (Or.inr ⟨_, ct_4_13⟩) (lxR13 hL0) ?_
      refine JT_iconst (v := 0) dX4_copyFrom_137 ic_0 ?_
      refine JT_iload_n (q := 0) dX4_copyFrom_138 rfl rfl ?_
      obtain ⟨o13, h⟩ := h
      refine JS_copyI (d2 := 0) (na := 60) (nb := 60) dX4_copyFrom_139 mlX4_64 (lxB11 hL0) (lx2k hL0 _) (lxNk hL0 (Nat.le_of_ble_eq_true rfl)) (lxB11 hL1) (lx2k hL1 _) (lxNk hL1 (Nat.le_of_ble_eq_true rfl)) (by decide) (by decide) o13.1 (Nat.le_trans o13.2 (by decide)) (Nat.le_trans o13.2 (by decide)) (Nat.le_of_ble_eq_true rfl) rfl ?_
      obtain ⟨s9, hs9⟩ : ∃ z, z = (cI s8 (L0 + 11) (va_cpy (gI s8 (L1 + 11)) (gI s8 (L0 + 11)) ((0 : Int32)).toNatClampNeg ((0 : Int32)).toNatClampNeg ((gI s L1 9)).toNatClampNeg)) := ⟨_, rfl⟩
      replace h := h s9 hs9
      rw [← hs9]
      refine JT_aload_n (q := 2) dX4_copyFrom_142 rfl rfl ?_
      refine JS_getR (x := (L1 + 7)) dX4_copyFrom_143 flX4_30 (lxB hL1) (lx2 hL1) (lxN hL1) (Or.inr ⟨_, ct_4_6⟩) (lxR6 hL1) ?_
      refine JT_iconst (v := 0) dX4_copyFrom_146 ic_0 ?_
      refine JT_aload_n (q := 1) dX4_copyFrom_147 rfl rfl ?_
      refine JS_getR (x := (L0 + 7)) dX4_copyFrom_148 flX4_30 (lxB hL0) (lx2 hL0) (lxN hL0) (Or.inr ⟨_, ct_4_6⟩) (lxR6 hL0) ?_
      refine JT_iconst (v := 0) dX4_copyFrom_151 ic_0 ?_
      refine JT_bipush (v := 9) dX4_copyFrom_152 bp_9 ?_
      refine JS_copyI (d2 := 0) (na := 9) (nb := 9) dX4_copyFrom_154 mlX4_64 (lxB7 hL0) (lx2k hL0 _) (lxNk hL0 (Nat.le_of_ble_eq_true rfl)) (lxB7 hL1) (lx2k hL1 _) (lxNk hL1 (Nat.le_of_ble_eq_true rfl)) (by decide) (by decide) (by decide) (by decide) (by decide) (Nat.le_of_ble_eq_true rfl) rfl ?_
      obtain ⟨s10, hs10⟩ : ∃ z, z = (cI s9 (L0 + 7) (va_cpy (gI s9 (L1 + 7)) (gI s9 (L0 + 7)) ((0 : Int32)).toNatClampNeg ((0 : Int32)).toNatClampNeg ((9 : Int32)).toNatClampNeg)) := ⟨_, rfl⟩
      replace h := h s10 hs10
      rw [← hs10]
      refine JT_aload_n (q := 2) dX4_copyFrom_157 rfl rfl ?_
      refine JS_getR (x := (L1 + 8)) dX4_copyFrom_158 flX4_33 (lxB hL1) (lx2 hL1) (lxN hL1) (Or.inr ⟨_, ct_4_7⟩) (lxR7 hL1) ?_
      refine JT_iconst (v := 0) dX4_copyFrom_161 ic_0 ?_
      refine JT_aload_n (q := 1) dX4_copyFrom_162 rfl rfl ?_
      refine JS_getR (x := (L0 + 8)) dX4_copyFrom_163 flX4_33 (lxB hL0) (lx2 hL0) (lxN hL0) (Or.inr ⟨_, ct_4_7⟩) (lxR7 hL0) ?_
      refine JT_iconst (v := 0) dX4_copyFrom_166 ic_0 ?_
      refine JT_bipush (v := 9) dX4_copyFrom_167 bp_9 ?_
      refine JS_copyI (d2 := 0) (na := 9) (nb := 9) dX4_copyFrom_169 mlX4_64 (lxB8 hL0) (lx2k hL0 _) (lxNk hL0 (Nat.le_of_ble_eq_true rfl)) (lxB8 hL1) (lx2k hL1 _) (lxNk hL1 (Nat.le_of_ble_eq_true rfl)) (by decide) (by decide) (by decide) (by decide) (by decide) (Nat.le_of_ble_eq_true rfl) rfl ?_
      obtain ⟨s11, hs11⟩ : ∃ z, z = (cI s10 (L0 + 8) (va_cpy (gI s10 (L1 + 8)) (gI s10 (L0 + 8)) ((0 : Int32)).toNatClampNeg ((0 : Int32)).toNatClampNeg ((9 : Int32)).toNatClampNeg)) := ⟨_, rfl⟩
      replace h := h s11 hs11
      rw [← hs11]
      refine JT_aload_n (q := 1) dX4_copyFrom_172 rfl rfl ?_
      refine JT_iload_n (q := 0) dX4_copyFrom_173 rfl rfl ?_
      refine JS_putI dX4_copyFrom_174 flX4_49 (lxB hL0) (lx2 hL0) (lxN hL0) ct_4_9 ?_
      refine JT_aload_n (q := 1) dX4_copyFrom_177 rfl rfl ?_
      refine JT_aload_n (q := 2) dX4_copyFrom_178 rfl rfl ?_
      refine JS_getI dX4_copyFrom_179 flX4_53 (lxB hL1) (lx2 hL1) (lxN hL1) (Or.inl ct_4_10) ?_
      refine JS_putI dX4_copyFrom_182 flX4_53 (lxB hL0) (lx2 hL0) (lxN hL0) ct_4_10 ?_
      refine JT_aload_n (q := 1) dX4_copyFrom_185 rfl rfl ?_
      refine JT_aload_n (q := 2) dX4_copyFrom_186 rfl rfl ?_
      refine JS_getI dX4_copyFrom_187 flX4_56 (lxB hL1) (lx2 hL1) (lxN hL1) (Or.inl ct_4_14) ?_
      refine JS_putI dX4_copyFrom_190 flX4_56 (lxB hL0) (lx2 hL0) (lxN hL0) ct_4_14 ?_
      obtain ⟨s12, hs12⟩ : ∃ z, z = (pI (pI (pI s11 L0 9 (gI s L1 9)) L0 10 (gI (pI s11 L0 9 (gI s L1 9)) L1 10)) L0 14 (gI (pI (pI s11 L0 9 (gI s L1 9)) L0 10 (gI (pI s11 L0 9 (gI s L1 9)) L1 10)) L1 14)) := ⟨_, rfl⟩
      replace h := h s12 hs12
      rw [← hs12]
      exact JS_vret dX4_copyFrom_193 rfl h
    · have h := h.2 hc22
      exact JS_vret dX4_copyFrom_15 rfl h
set_option maxRecDepth 20000 in
def mX4_copyFrom (s : SM) (L0 P0 : Nat) (L1 P1 : Nat) : SM := (if (gI s L1 9) < 0 then s else (if (gI s L1 9) ≤ (60 : Int32) then ((fun (s1 : SM) => ((fun (s2 : SM) => ((fun (s3 : SM) => ((fun (s4 : SM) => ((fun (s5 : SM) => ((fun (s6 : SM) => ((fun (s7 : SM) => ((fun (s8 : SM) => ((fun (s9 : SM) => ((fun (s10 : SM) => ((fun (s11 : SM) => ((fun (s12 : SM) => s12) (pI (pI (pI s11 L0 9 (gI s L1 9)) L0 10 (gI (pI s11 L0 9 (gI s L1 9)) L1 10)) L0 14 (gI (pI (pI s11 L0 9 (gI s L1 9)) L0 10 (gI (pI s11 L0 9 (gI s L1 9)) L1 10)) L1 14)))) (cI s10 (L0 + 8) (va_cpy (gI s10 (L1 + 8)) (gI s10 (L0 + 8)) ((0 : Int32)).toNatClampNeg ((0 : Int32)).toNatClampNeg ((9 : Int32)).toNatClampNeg)))) (cI s9 (L0 + 7) (va_cpy (gI s9 (L1 + 7)) (gI s9 (L0 + 7)) ((0 : Int32)).toNatClampNeg ((0 : Int32)).toNatClampNeg ((9 : Int32)).toNatClampNeg)))) (cI s8 (L0 + 11) (va_cpy (gI s8 (L1 + 11)) (gI s8 (L0 + 11)) ((0 : Int32)).toNatClampNeg ((0 : Int32)).toNatClampNeg ((gI s L1 9)).toNatClampNeg)))) (cI s7 (L0 + 10) (va_cpy (gI s7 (L1 + 10)) (gI s7 (L0 + 10)) ((0 : Int32)).toNatClampNeg ((0 : Int32)).toNatClampNeg ((gI s L1 9)).toNatClampNeg)))) (cI s6 (L0 + 9) (va_cpy (gI s6 (L1 + 9)) (gI s6 (L0 + 9)) ((0 : Int32)).toNatClampNeg ((0 : Int32)).toNatClampNeg ((gI s L1 9)).toNatClampNeg)))) (cI s5 (L0 + 6) (va_cpy (gI s5 (L1 + 6)) (gI s5 (L0 + 6)) ((0 : Int32)).toNatClampNeg ((0 : Int32)).toNatClampNeg ((gI s L1 9)).toNatClampNeg)))) (cI s4 (L0 + 5) (va_cpy (gI s4 (L1 + 5)) (gI s4 (L0 + 5)) ((0 : Int32)).toNatClampNeg ((0 : Int32)).toNatClampNeg ((gI s L1 9)).toNatClampNeg)))) (cI s3 (L0 + 4) (va_cpy (gI s3 (L1 + 4)) (gI s3 (L0 + 4)) ((0 : Int32)).toNatClampNeg ((0 : Int32)).toNatClampNeg ((gI s L1 9)).toNatClampNeg)))) (cI s2 (L0 + 3) (va_cpy (gI s2 (L1 + 3)) (gI s2 (L0 + 3)) ((0 : Int32)).toNatClampNeg ((0 : Int32)).toNatClampNeg ((gI s L1 9)).toNatClampNeg)))) (cI s1 (L0 + 2) (va_cpy (gI s1 (L1 + 2)) (gI s1 (L0 + 2)) ((0 : Int32)).toNatClampNeg ((0 : Int32)).toNatClampNeg ((gI s L1 9)).toNatClampNeg)))) (cI s (L0 + 1) (va_cpy (gI s (L1 + 1)) (gI s (L0 + 1)) ((0 : Int32)).toNatClampNeg ((0 : Int32)).toNatClampNeg ((gI s L1 9)).toNatClampNeg))) else s))
set_option maxRecDepth 20000 in
def rX4_copyFrom (s : SM) (L0 P0 : Nat) (L1 P1 : Nat) : Prop := (¬ (gI s L1 9) < 0 → ((gI s L1 9) ≤ (60 : Int32) → (¬ (gI s L1 9) < 0 ∧ 0 + ((gI s L1 9)).toNatClampNeg ≤ 60) ∧ (∀ s1, s1 = (cI s (L0 + 1) (va_cpy (gI s (L1 + 1)) (gI s (L0 + 1)) ((0 : Int32)).toNatClampNeg ((0 : Int32)).toNatClampNeg ((gI s L1 9)).toNatClampNeg)) → (¬ (gI s L1 9) < 0 ∧ 0 + ((gI s L1 9)).toNatClampNeg ≤ 60) ∧ (∀ s2, s2 = (cI s1 (L0 + 2) (va_cpy (gI s1 (L1 + 2)) (gI s1 (L0 + 2)) ((0 : Int32)).toNatClampNeg ((0 : Int32)).toNatClampNeg ((gI s L1 9)).toNatClampNeg)) → (¬ (gI s L1 9) < 0 ∧ 0 + ((gI s L1 9)).toNatClampNeg ≤ 60) ∧ (∀ s3, s3 = (cI s2 (L0 + 3) (va_cpy (gI s2 (L1 + 3)) (gI s2 (L0 + 3)) ((0 : Int32)).toNatClampNeg ((0 : Int32)).toNatClampNeg ((gI s L1 9)).toNatClampNeg)) → (¬ (gI s L1 9) < 0 ∧ 0 + ((gI s L1 9)).toNatClampNeg ≤ 60) ∧ (∀ s4, s4 = (cI s3 (L0 + 4) (va_cpy (gI s3 (L1 + 4)) (gI s3 (L0 + 4)) ((0 : Int32)).toNatClampNeg ((0 : Int32)).toNatClampNeg ((gI s L1 9)).toNatClampNeg)) → (¬ (gI s L1 9) < 0 ∧ 0 + ((gI s L1 9)).toNatClampNeg ≤ 60) ∧ (∀ s5, s5 = (cI s4 (L0 + 5) (va_cpy (gI s4 (L1 + 5)) (gI s4 (L0 + 5)) ((0 : Int32)).toNatClampNeg ((0 : Int32)).toNatClampNeg ((gI s L1 9)).toNatClampNeg)) → (¬ (gI s L1 9) < 0 ∧ 0 + ((gI s L1 9)).toNatClampNeg ≤ 60) ∧ (∀ s6, s6 = (cI s5 (L0 + 6) (va_cpy (gI s5 (L1 + 6)) (gI s5 (L0 + 6)) ((0 : Int32)).toNatClampNeg ((0 : Int32)).toNatClampNeg ((gI s L1 9)).toNatClampNeg)) → (¬ (gI s L1 9) < 0 ∧ 0 + ((gI s L1 9)).toNatClampNeg ≤ 60) ∧ (∀ s7, s7 = (cI s6 (L0 + 9) (va_cpy (gI s6 (L1 + 9)) (gI s6 (L0 + 9)) ((0 : Int32)).toNatClampNeg ((0 : Int32)).toNatClampNeg ((gI s L1 9)).toNatClampNeg)) → (¬ (gI s L1 9) < 0 ∧ 0 + ((gI s L1 9)).toNatClampNeg ≤ 60) ∧ (∀ s8, s8 = (cI s7 (L0 + 10) (va_cpy (gI s7 (L1 + 10)) (gI s7 (L0 + 10)) ((0 : Int32)).toNatClampNeg ((0 : Int32)).toNatClampNeg ((gI s L1 9)).toNatClampNeg)) → (¬ (gI s L1 9) < 0 ∧ 0 + ((gI s L1 9)).toNatClampNeg ≤ 60)))))))))))
set_option maxRecDepth 20000 in
theorem pX4_copyFrom {L0 P0 : Nat} (hL0 : (L0, P0) ∈ LX) {L1 P1 : Nat} (hL1 : (L1, P1) ∈ LX) {s : SM} {Q : SM → Prop} (hr : rX4_copyFrom s L0 P0 L1 P1) (h : Q (mX4_copyFrom s L0 P0 L1 P1)) : KV MX4_copyFrom 1 [.ref L0, .ref L1] s Q := by
  refine bX4_copyFrom hL0 hL1 ?_
  unfold rX4_copyFrom at hr
  unfold mX4_copyFrom at h
  refine ⟨fun c => ?_, fun c => ?_⟩
  · try simp only [if_pos c] at h
    first | exact h | contradiction
  · replace hr := hr c
    try simp only [if_neg c] at h
    refine ⟨fun c => ?_, fun c => ?_⟩
    · replace hr := hr c
      try simp only [if_pos c] at h
      refine ⟨hr.1, ?_⟩
      replace hr := hr.2
      intro s1 e9
      replace hr := hr s1 e9
      subst e9
      refine ⟨hr.1, ?_⟩
      replace hr := hr.2
      intro s2 e9
      replace hr := hr s2 e9
      subst e9
      refine ⟨hr.1, ?_⟩
      replace hr := hr.2
      intro s3 e9
      replace hr := hr s3 e9
      subst e9
      refine ⟨hr.1, ?_⟩
      replace hr := hr.2
      intro s4 e9
      replace hr := hr s4 e9
      subst e9
      refine ⟨hr.1, ?_⟩
      replace hr := hr.2
      intro s5 e9
      replace hr := hr s5 e9
      subst e9
      refine ⟨hr.1, ?_⟩
      replace hr := hr.2
      intro s6 e9
      replace hr := hr s6 e9
      subst e9
      refine ⟨hr.1, ?_⟩
      replace hr := hr.2
      intro s7 e9
      replace hr := hr s7 e9
      subst e9
      refine ⟨hr.1, ?_⟩
      replace hr := hr.2
      intro s8 e9
      replace hr := hr s8 e9
      subst e9
      refine ⟨hr, ?_⟩
      intro s9 e9
      subst e9
      intro s10 e9
      subst e9
      intro s11 e9
      subst e9
      intro s12 e9
      subst e9
      first | exact h | contradiction
    · try simp only [if_neg c] at h
      first | exact h | contradiction
set_option maxRecDepth 20000 in
theorem bX4_isBuried {L0 P0 : Nat} (hL0 : (L0, P0) ∈ LX) (a1 : Int32) {s : SM} {Q : Int32 → SM → Prop} (h : ((a1 = (-1 : Int32) → Q (1 : Int32) s) ∧ (¬ a1 = (-1 : Int32) → Q (if (vX4_lives s L0 P0 a1) = 0 then (1 : Int32) else (0 : Int32)) s))) : KI MX4_isBuried 1 [.ref L0, .int a1] s Q := by
  show BI MX4_isBuried 1 0 [(0, .ref L0), (1, .int a1)] s Q
  refine JT_iload_n (q := 1) dX4_isBuried_0 rfl rfl ?_
  refine JT_iconst (v := -1) dX4_isBuried_1 ic_m1 ?_
  refine JT_icmp_eq (tgt := 13) dX4_isBuried_2 (by decide) (fun hc4 => ?_) (fun hc4 => ?_)
  · have h := h.1 hc4
    refine JT_iconst (v := 1) dX4_isBuried_13 ic_1 ?_
    refine JT_goto (tgt := 18) dX4_isBuried_14 (by decide) ?_
    exact JS_iret dX4_isBuried_18 rfl (n01 (Or.inr rfl)) h
  · have h := h.2 hc4
    refine JT_aload_n (q := 0) dX4_isBuried_5 rfl rfl ?_
    refine JT_iload_n (q := 1) dX4_isBuried_6 rfl rfl ?_
    refine JS_callVI (M' := MX4_lives) (d' := 0) (As := [.int a1]) (rest := []) (P := (fun zv9 wm9 => (vX4_lives s L0 P0 a1) = zv9 ∧ s = wm9)) dX4_isBuried_7 cvX4_85 okX4_lives rfl (Nat.le_of_ble_eq_true rfl) (lxB hL0) (lx2 hL0) (lxN hL0) hci_4 (Nat.le_of_ble_eq_true rfl) (Nat.le_of_ble_eq_true rfl) (pX4_lives hL0 (a1)  ⟨rfl, rfl⟩) (fun zv9 wm9 hq9 => ?_)
    obtain ⟨rfl, rfl⟩ := hq9
    have hj1 : ∀ v : Int32, v = (if (vX4_lives s L0 P0 a1) = 0 then (1 : Int32) else (0 : Int32)) → JT MX4_isBuried 1 0 0 18 [(0, .ref L0), (1, .int a1)] [.int v] (std s) (KQ Q) := by
      intro v hv
      subst hv
      exact JS_iret dX4_isBuried_18 rfl (n01 (i01 (Or.inr rfl) (Or.inl rfl))) h
    refine JT_if_ne (tgt := 17) dX4_isBuried_10 (by decide) (fun hc2 => ?_) (fun hc2 => ?_)
    · refine JT_iconst (v := 0) dX4_isBuried_17 ic_0 ?_
      exact hj1 _ (by rw [if_neg hc2])
    · refine JT_iconst (v := 1) dX4_isBuried_13 ic_1 ?_
      refine JT_goto (tgt := 18) dX4_isBuried_14 (by decide) ?_
      exact hj1 _ (by rw [if_pos hc2])
set_option maxRecDepth 20000 in
def vX4_isBuried (s : SM) (L0 P0 : Nat) (a1 : Int32) : Int32 := (if a1 = (-1 : Int32) then (1 : Int32) else (if (vX4_lives s L0 P0 a1) = 0 then (1 : Int32) else (0 : Int32)))
set_option maxRecDepth 20000 in
theorem zX4_isBuried (s : SM) (L0 P0 : Nat) (a1 : Int32) : vX4_isBuried s L0 P0 a1 = 0 ∨ vX4_isBuried s L0 P0 a1 = 1 := (i01 (Or.inr rfl) (i01 (Or.inr rfl) (Or.inl rfl)))
set_option maxRecDepth 20000 in
theorem pX4_isBuried {L0 P0 : Nat} (hL0 : (L0, P0) ∈ LX) (a1 : Int32) {s : SM} {Q : Int32 → SM → Prop} (h : Q (vX4_isBuried s L0 P0 a1) s) : KI MX4_isBuried 1 [.ref L0, .int a1] s Q := by
  refine bX4_isBuried hL0 a1 ?_
  unfold vX4_isBuried at h
  refine ⟨fun c => ?_, fun c => ?_⟩
  · try simp only [if_pos c] at h
    first | exact h | contradiction
  · try simp only [if_neg c] at h
    first | exact h | contradiction
set_option maxRecDepth 20000 in
theorem bX4_isOnAny_27 {L0 P0 : Nat} (hL0 : (L0, P0) ∈ LX) (a1 : Int32) (a2 : Int32) {s : SM} {Q : Int32 → SM → Prop} (h : vp_in a1 60 ∧ (((gI s (L0 + 10) (a1).toNatClampNeg) = (-1 : Int32) → BI MX4_isOnAny 1 56 [(0, .ref L0), (1, .int a1), (2, .int a2), (3, .int (0 : Int32))] s Q) ∧ (¬ (gI s (L0 + 10) (a1).toNatClampNeg) = (-1 : Int32) → vp_in a1 60 ∧ (((vX11_isIn s (gI s (L0 + 10) (a1).toNatClampNeg) a2) = 0 → BI MX4_isOnAny 1 56 [(0, .ref L0), (1, .int a1), (2, .int a2), (3, .int (0 : Int32))] s Q) ∧ (¬ (vX11_isIn s (gI s (L0 + 10) (a1).toNatClampNeg) a2) = 0 → Q (if (0 : Int32) = 0 then (if (1 : Int32) = 0 then (0 : Int32) else (1 : Int32)) else (1 : Int32)) s))))) : BI MX4_isOnAny 1 27 [(0, .ref L0), (1, .int a1), (2, .int a2)] s Q := by
  refine JT_iconst (v := 0) dX4_isOnAny_27 ic_0 ?_
  refine JT_istore_n (lv' := [(3, .int (0 : Int32)), (0, .ref L0), (1, .int a1), (2, .int a2)]) dX4_isOnAny_28 rfl (Nat.le_of_ble_eq_true rfl) rfl ?_
  refine JT_aload_n (q := 1) dX4_isOnAny_29 rfl rfl ?_
  refine JS_getR (x := (L0 + 10)) dX4_isOnAny_30 flX4_39 (lxB hL0) (lx2 hL0) (lxN hL0) (Or.inr ⟨_, ct_4_12⟩) (lxR12 hL0) ?_
  refine JT_iload_n (q := 2) dX4_isOnAny_33 rfl rfl ?_
  obtain ⟨o1, h⟩ := h
  refine JS_iald dX4_isOnAny_34 (lxB10 hL0) (lx2k hL0 _) (lxNk hL0 (Nat.le_of_ble_eq_true rfl)) o1 ?_
  refine JT_iconst (v := -1) dX4_isOnAny_35 ic_m1 ?_
  refine JT_icmp_eq (tgt := 56) dX4_isOnAny_36 (by decide) (fun hc8 => ?_) (fun hc8 => ?_)
  · have h := h.1 hc8
    exact JT_sub [1, 2, 3, 0] rfl h
  · have h := h.2 hc8
    refine JT_aload_n (q := 1) dX4_isOnAny_39 rfl rfl ?_
    refine JS_getR (x := (L0 + 10)) dX4_isOnAny_40 flX4_39 (lxB hL0) (lx2 hL0) (lxN hL0) (Or.inr ⟨_, ct_4_12⟩) (lxR12 hL0) ?_
    refine JT_iload_n (q := 2) dX4_isOnAny_43 rfl rfl ?_
    obtain ⟨o2, h⟩ := h
    refine JS_iald dX4_isOnAny_44 (lxB10 hL0) (lx2k hL0 _) (lxNk hL0 (Nat.le_of_ble_eq_true rfl)) o2 ?_
    refine JT_iload_n (q := 3) dX4_isOnAny_45 rfl rfl ?_
    refine JS_callSNI (M' := MX11_isIn) (d' := 0) (As := [.int (gI s (L0 + 10) (a1).toNatClampNeg), .int a2]) (rest := []) (P := (fun zv9 wm9 => (vX11_isIn s (gI s (L0 + 10) (a1).toNatClampNeg) a2) = zv9 ∧ s = wm9)) dX4_isOnAny_46 cvX4_74 okX11_isIn rfl (Nat.le_of_ble_eq_true rfl) (Nat.le_of_ble_eq_true rfl) (Nat.le_of_ble_eq_true rfl) (pX11_isIn  ((gI s (L0 + 10) (a1).toNatClampNeg)) (a2)  ⟨rfl, rfl⟩) (fun zv9 wm9 hq9 => ?_)
    obtain ⟨rfl, rfl⟩ := hq9
    refine JT_if_eq (tgt := 56) dX4_isOnAny_49 (by decide) (fun hc6 => ?_) (fun hc6 => ?_)
    · have h := h.1 hc6
      exact JT_sub [1, 2, 3, 0] rfl h
    · have h := h.2 hc6
      refine JT_iconst (v := 1) dX4_isOnAny_52 ic_1 ?_
      refine JT_goto (tgt := 57) dX4_isOnAny_53 (by decide) ?_
      refine JT_istore (lv' := [(4, .int (1 : Int32)), (3, .int (0 : Int32)), (0, .ref L0), (1, .int a1), (2, .int a2)]) dX4_isOnAny_57 (Nat.le_of_ble_eq_true rfl) rfl ?_
      refine JT_iload_n (q := 1) dX4_isOnAny_59 rfl rfl ?_
      have hj3 : ∀ v : Int32, v = (if (0 : Int32) = 0 then (if (1 : Int32) = 0 then (0 : Int32) else (1 : Int32)) else (1 : Int32)) → JT MX4_isOnAny 1 0 0 73 [(4, .int (1 : Int32)), (3, .int (0 : Int32)), (0, .ref L0), (1, .int a1), (2, .int a2)] [.int v] (std s) (KQ Q) := by
        intro v hv
        subst hv
        exact JS_iret dX4_isOnAny_73 rfl (n01 (i01 (i01 (Or.inl rfl) (Or.inr rfl)) (Or.inr rfl))) h
      refine JT_if_ne (tgt := 68) dX4_isOnAny_60 (by decide) (fun hc4 => ?_) (fun hc4 => ?_)
      · refine JT_iconst (v := 1) dX4_isOnAny_68 ic_1 ?_
        refine JT_goto (tgt := 73) dX4_isOnAny_69 (by decide) ?_
        exact hj3 _ (by rw [if_neg hc4])
      · refine JT_iload (q := 0) dX4_isOnAny_63 rfl ?_
        refine JT_if_eq (tgt := 72) dX4_isOnAny_65 (by decide) (fun hc5 => ?_) (fun hc5 => ?_)
        · refine JT_iconst (v := 0) dX4_isOnAny_72 ic_0 ?_
          exact hj3 _ (by rw [if_pos hc4, if_pos hc5])
        · refine JT_iconst (v := 1) dX4_isOnAny_68 ic_1 ?_
          refine JT_goto (tgt := 73) dX4_isOnAny_69 (by decide) ?_
          exact hj3 _ (by rw [if_pos hc4, if_neg hc5])
set_option maxRecDepth 20000 in
theorem bX4_isOnAny_56 {L0 P0 : Nat} (hL0 : (L0, P0) ∈ LX) (a1 : Int32) (a2 : Int32) (a3 : Int32) {s : SM} {Q : Int32 → SM → Prop} (h : Q (if a3 = 0 then (if (0 : Int32) = 0 then (0 : Int32) else (1 : Int32)) else (1 : Int32)) s) : BI MX4_isOnAny 1 56 [(0, .ref L0), (1, .int a1), (2, .int a2), (3, .int a3)] s Q := by
  refine JT_iconst (v := 0) dX4_isOnAny_56 ic_0 ?_
  refine JT_istore (lv' := [(4, .int (0 : Int32)), (0, .ref L0), (1, .int a1), (2, .int a2), (3, .int a3)]) dX4_isOnAny_57 (Nat.le_of_ble_eq_true rfl) rfl ?_
  refine JT_iload_n (q := 4) dX4_isOnAny_59 rfl rfl ?_
  have hj1 : ∀ v : Int32, v = (if a3 = 0 then (if (0 : Int32) = 0 then (0 : Int32) else (1 : Int32)) else (1 : Int32)) → JT MX4_isOnAny 1 0 0 73 [(4, .int (0 : Int32)), (0, .ref L0), (1, .int a1), (2, .int a2), (3, .int a3)] [.int v] (std s) (KQ Q) := by
    intro v hv
    subst hv
    exact JS_iret dX4_isOnAny_73 rfl (n01 (i01 (i01 (Or.inl rfl) (Or.inr rfl)) (Or.inr rfl))) h
  refine JT_if_ne (tgt := 68) dX4_isOnAny_60 (by decide) (fun hc2 => ?_) (fun hc2 => ?_)
  · refine JT_iconst (v := 1) dX4_isOnAny_68 ic_1 ?_
    refine JT_goto (tgt := 73) dX4_isOnAny_69 (by decide) ?_
    exact hj1 _ (by rw [if_neg hc2])
  · refine JT_iload (q := 0) dX4_isOnAny_63 rfl ?_
    refine JT_if_eq (tgt := 72) dX4_isOnAny_65 (by decide) (fun hc3 => ?_) (fun hc3 => ?_)
    · refine JT_iconst (v := 0) dX4_isOnAny_72 ic_0 ?_
      exact hj1 _ (by rw [if_pos hc2, if_pos hc3])
    · refine JT_iconst (v := 1) dX4_isOnAny_68 ic_1 ?_
      refine JT_goto (tgt := 73) dX4_isOnAny_69 (by decide) ?_
      exact hj1 _ (by rw [if_pos hc2, if_neg hc3])
set_option maxRecDepth 20000 in
theorem bX4_isOnAny {L0 P0 : Nat} (hL0 : (L0, P0) ∈ LX) (a1 : Int32) (a2 : Int32) {s : SM} {Q : Int32 → SM → Prop} (h : vp_in a1 60 ∧ (((gI s (L0 + 9) (a1).toNatClampNeg) = (-1 : Int32) → BI MX4_isOnAny 1 27 [(0, .ref L0), (1, .int a1), (2, .int a2)] s Q) ∧ (¬ (gI s (L0 + 9) (a1).toNatClampNeg) = (-1 : Int32) → vp_in a1 60 ∧ (((vX11_isIn s (gI s (L0 + 9) (a1).toNatClampNeg) a2) = 0 → BI MX4_isOnAny 1 27 [(0, .ref L0), (1, .int a1), (2, .int a2)] s Q) ∧ (¬ (vX11_isIn s (gI s (L0 + 9) (a1).toNatClampNeg) a2) = 0 → vp_in a1 60 ∧ (((gI s (L0 + 10) (a1).toNatClampNeg) = (-1 : Int32) → BI MX4_isOnAny 1 56 [(0, .ref L0), (1, .int a1), (2, .int a2), (3, .int (1 : Int32))] s Q) ∧ (¬ (gI s (L0 + 10) (a1).toNatClampNeg) = (-1 : Int32) → vp_in a1 60 ∧ (((vX11_isIn s (gI s (L0 + 10) (a1).toNatClampNeg) a2) = 0 → BI MX4_isOnAny 1 56 [(0, .ref L0), (1, .int a1), (2, .int a2), (3, .int (1 : Int32))] s Q) ∧ (¬ (vX11_isIn s (gI s (L0 + 10) (a1).toNatClampNeg) a2) = 0 → Q (if (1 : Int32) = 0 then (if (1 : Int32) = 0 then (0 : Int32) else (1 : Int32)) else (1 : Int32)) s))))))))) : KI MX4_isOnAny 1 [.ref L0, .int a1, .int a2] s Q := by
  show BI MX4_isOnAny 1 0 [(0, .ref L0), (1, .int a1), (2, .int a2)] s Q
  refine JT_aload_n (q := 0) dX4_isOnAny_0 rfl rfl ?_
  refine JS_getR (x := (L0 + 9)) dX4_isOnAny_1 flX4_36 (lxB hL0) (lx2 hL0) (lxN hL0) (Or.inr ⟨_, ct_4_11⟩) (lxR11 hL0) ?_
  refine JT_iload_n (q := 1) dX4_isOnAny_4 rfl rfl ?_
  obtain ⟨o1, h⟩ := h
  refine JS_iald dX4_isOnAny_5 (lxB9 hL0) (lx2k hL0 _) (lxNk hL0 (Nat.le_of_ble_eq_true rfl)) o1 ?_
  refine JT_iconst (v := -1) dX4_isOnAny_6 ic_m1 ?_
  refine JT_icmp_eq (tgt := 27) dX4_isOnAny_7 (by decide) (fun hc13 => ?_) (fun hc13 => ?_)
  · have h := h.1 hc13
    exact JT_sub [0, 1, 2] rfl h
  · have h := h.2 hc13
    refine JT_aload_n (q := 0) dX4_isOnAny_10 rfl rfl ?_
    refine JS_getR (x := (L0 + 9)) dX4_isOnAny_11 flX4_36 (lxB hL0) (lx2 hL0) (lxN hL0) (Or.inr ⟨_, ct_4_11⟩) (lxR11 hL0) ?_
    refine JT_iload_n (q := 1) dX4_isOnAny_14 rfl rfl ?_
    obtain ⟨o2, h⟩ := h
    refine JS_iald dX4_isOnAny_15 (lxB9 hL0) (lx2k hL0 _) (lxNk hL0 (Nat.le_of_ble_eq_true rfl)) o2 ?_
    refine JT_iload_n (q := 2) dX4_isOnAny_16 rfl rfl ?_
    refine JS_callSNI (M' := MX11_isIn) (d' := 0) (As := [.int (gI s (L0 + 9) (a1).toNatClampNeg), .int a2]) (rest := []) (P := (fun zv9 wm9 => (vX11_isIn s (gI s (L0 + 9) (a1).toNatClampNeg) a2) = zv9 ∧ s = wm9)) dX4_isOnAny_17 cvX4_74 okX11_isIn rfl (Nat.le_of_ble_eq_true rfl) (Nat.le_of_ble_eq_true rfl) (Nat.le_of_ble_eq_true rfl) (pX11_isIn  ((gI s (L0 + 9) (a1).toNatClampNeg)) (a2)  ⟨rfl, rfl⟩) (fun zv9 wm9 hq9 => ?_)
    obtain ⟨rfl, rfl⟩ := hq9
    refine JT_if_eq (tgt := 27) dX4_isOnAny_20 (by decide) (fun hc11 => ?_) (fun hc11 => ?_)
    · have h := h.1 hc11
      exact JT_sub [0, 1, 2] rfl h
    · have h := h.2 hc11
      refine JT_iconst (v := 1) dX4_isOnAny_23 ic_1 ?_
      refine JT_goto (tgt := 28) dX4_isOnAny_24 (by decide) ?_
      refine JT_istore_n (lv' := [(3, .int (1 : Int32)), (0, .ref L0), (1, .int a1), (2, .int a2)]) dX4_isOnAny_28 rfl (Nat.le_of_ble_eq_true rfl) rfl ?_
      refine JT_aload_n (q := 1) dX4_isOnAny_29 rfl rfl ?_
      refine JS_getR (x := (L0 + 10)) dX4_isOnAny_30 flX4_39 (lxB hL0) (lx2 hL0) (lxN hL0) (Or.inr ⟨_, ct_4_12⟩) (lxR12 hL0) ?_
      refine JT_iload_n (q := 2) dX4_isOnAny_33 rfl rfl ?_
      obtain ⟨o3, h⟩ := h
      refine JS_iald dX4_isOnAny_34 (lxB10 hL0) (lx2k hL0 _) (lxNk hL0 (Nat.le_of_ble_eq_true rfl)) o3 ?_
      refine JT_iconst (v := -1) dX4_isOnAny_35 ic_m1 ?_
      refine JT_icmp_eq (tgt := 56) dX4_isOnAny_36 (by decide) (fun hc10 => ?_) (fun hc10 => ?_)
      · have h := h.1 hc10
        exact JT_sub [1, 2, 3, 0] rfl h
      · have h := h.2 hc10
        refine JT_aload_n (q := 1) dX4_isOnAny_39 rfl rfl ?_
        refine JS_getR (x := (L0 + 10)) dX4_isOnAny_40 flX4_39 (lxB hL0) (lx2 hL0) (lxN hL0) (Or.inr ⟨_, ct_4_12⟩) (lxR12 hL0) ?_
        refine JT_iload_n (q := 2) dX4_isOnAny_43 rfl rfl ?_
        obtain ⟨o4, h⟩ := h
        refine JS_iald dX4_isOnAny_44 (lxB10 hL0) (lx2k hL0 _) (lxNk hL0 (Nat.le_of_ble_eq_true rfl)) o4 ?_
        refine JT_iload_n (q := 3) dX4_isOnAny_45 rfl rfl ?_
        refine JS_callSNI (M' := MX11_isIn) (d' := 0) (As := [.int (gI s (L0 + 10) (a1).toNatClampNeg), .int a2]) (rest := []) (P := (fun zv9 wm9 => (vX11_isIn s (gI s (L0 + 10) (a1).toNatClampNeg) a2) = zv9 ∧ s = wm9)) dX4_isOnAny_46 cvX4_74 okX11_isIn rfl (Nat.le_of_ble_eq_true rfl) (Nat.le_of_ble_eq_true rfl) (Nat.le_of_ble_eq_true rfl) (pX11_isIn  ((gI s (L0 + 10) (a1).toNatClampNeg)) (a2)  ⟨rfl, rfl⟩) (fun zv9 wm9 hq9 => ?_)
        obtain ⟨rfl, rfl⟩ := hq9
        refine JT_if_eq (tgt := 56) dX4_isOnAny_49 (by decide) (fun hc8 => ?_) (fun hc8 => ?_)
        · have h := h.1 hc8
          exact JT_sub [1, 2, 3, 0] rfl h
        · have h := h.2 hc8
          refine JT_iconst (v := 1) dX4_isOnAny_52 ic_1 ?_
          refine JT_goto (tgt := 57) dX4_isOnAny_53 (by decide) ?_
          refine JT_istore (lv' := [(4, .int (1 : Int32)), (3, .int (1 : Int32)), (0, .ref L0), (1, .int a1), (2, .int a2)]) dX4_isOnAny_57 (Nat.le_of_ble_eq_true rfl) rfl ?_
          refine JT_iload_n (q := 1) dX4_isOnAny_59 rfl rfl ?_
          have hj5 : ∀ v : Int32, v = (if (1 : Int32) = 0 then (if (1 : Int32) = 0 then (0 : Int32) else (1 : Int32)) else (1 : Int32)) → JT MX4_isOnAny 1 0 0 73 [(4, .int (1 : Int32)), (3, .int (1 : Int32)), (0, .ref L0), (1, .int a1), (2, .int a2)] [.int v] (std s) (KQ Q) := by
            intro v hv
            subst hv
            exact JS_iret dX4_isOnAny_73 rfl (n01 (i01 (i01 (Or.inl rfl) (Or.inr rfl)) (Or.inr rfl))) h
          refine JT_if_ne (tgt := 68) dX4_isOnAny_60 (by decide) (fun hc6 => ?_) (fun hc6 => ?_)
          · refine JT_iconst (v := 1) dX4_isOnAny_68 ic_1 ?_
            refine JT_goto (tgt := 73) dX4_isOnAny_69 (by decide) ?_
            exact hj5 _ (by rw [if_neg hc6])
          · refine JT_iload (q := 0) dX4_isOnAny_63 rfl ?_
            refine JT_if_eq (tgt := 72) dX4_isOnAny_65 (by decide) (fun hc7 => ?_) (fun hc7 => ?_)
            · refine JT_iconst (v := 0) dX4_isOnAny_72 ic_0 ?_
              exact hj5 _ (by rw [if_pos hc6, if_pos hc7])
            · refine JT_iconst (v := 1) dX4_isOnAny_68 ic_1 ?_
              refine JT_goto (tgt := 73) dX4_isOnAny_69 (by decide) ?_
              exact hj5 _ (by rw [if_pos hc6, if_neg hc7])
set_option maxRecDepth 20000 in
theorem bX4_isOpen {L0 P0 : Nat} (hL0 : (L0, P0) ∈ LX) (a1 : Int32) {s : SM} {Q : Int32 → SM → Prop} (h : (((vX4_hasDeal s L0 P0 a1) = 0 → Q (0 : Int32) s) ∧ (¬ (vX4_hasDeal s L0 P0 a1) = 0 → vp_in a1 60 ∧ Q (if (gI s (L0 + 6) (a1).toNatClampNeg) = 0 then (1 : Int32) else (0 : Int32)) s))) : KI MX4_isOpen 1 [.ref L0, .int a1] s Q := by
  show BI MX4_isOpen 1 0 [(0, .ref L0), (1, .int a1)] s Q
  refine JT_aload_n (q := 0) dX4_isOpen_0 rfl rfl ?_
  refine JT_iload_n (q := 1) dX4_isOpen_1 rfl rfl ?_
  refine JS_callVI (M' := MX4_hasDeal) (d' := 0) (As := [.int a1]) (rest := []) (P := (fun zv9 wm9 => (vX4_hasDeal s L0 P0 a1) = zv9 ∧ s = wm9)) dX4_isOpen_2 cvX4_70 okX4_hasDeal rfl (Nat.le_of_ble_eq_true rfl) (lxB hL0) (lx2 hL0) (lxN hL0) hci_4 (Nat.le_of_ble_eq_true rfl) (Nat.le_of_ble_eq_true rfl) (pX4_hasDeal hL0 (a1)  ⟨rfl, rfl⟩) (fun zv9 wm9 hq9 => ?_)
  obtain ⟨rfl, rfl⟩ := hq9
  refine JT_if_eq (tgt := 21) dX4_isOpen_5 (by decide) (fun hc4 => ?_) (fun hc4 => ?_)
  · have h := h.1 hc4
    refine JT_iconst (v := 0) dX4_isOpen_21 ic_0 ?_
    exact JS_iret dX4_isOpen_22 rfl (n01 (Or.inl rfl)) h
  · have h := h.2 hc4
    refine JT_aload_n (q := 0) dX4_isOpen_8 rfl rfl ?_
    refine JS_getR (x := (L0 + 6)) dX4_isOpen_9 flX4_27 (lxB hL0) (lx2 hL0) (lxN hL0) (Or.inr ⟨_, ct_4_5⟩) (lxR5 hL0) ?_
    refine JT_iload_n (q := 1) dX4_isOpen_12 rfl rfl ?_
    obtain ⟨o1, h⟩ := h
    refine JS_iald dX4_isOpen_13 (lxB6 hL0) (lx2k hL0 _) (lxNk hL0 (Nat.le_of_ble_eq_true rfl)) o1 ?_
    have hj2 : ∀ v : Int32, v = (if (gI s (L0 + 6) (a1).toNatClampNeg) = 0 then (1 : Int32) else (0 : Int32)) → JT MX4_isOpen 1 0 0 22 [(0, .ref L0), (1, .int a1)] [.int v] (std s) (KQ Q) := by
      intro v hv
      subst hv
      exact JS_iret dX4_isOpen_22 rfl (n01 (i01 (Or.inr rfl) (Or.inl rfl))) h
    refine JT_if_ne (tgt := 21) dX4_isOpen_14 (by decide) (fun hc3 => ?_) (fun hc3 => ?_)
    · refine JT_iconst (v := 0) dX4_isOpen_21 ic_0 ?_
      exact hj2 _ (by rw [if_neg hc3])
    · refine JT_iconst (v := 1) dX4_isOpen_17 ic_1 ?_
      refine JT_goto (tgt := 22) dX4_isOpen_18 (by decide) ?_
      exact hj2 _ (by rw [if_pos hc3])
set_option maxRecDepth 20000 in
def vX4_isOpen (s : SM) (L0 P0 : Nat) (a1 : Int32) : Int32 := (if (vX4_hasDeal s L0 P0 a1) = 0 then (0 : Int32) else (if (gI s (L0 + 6) (a1).toNatClampNeg) = 0 then (1 : Int32) else (0 : Int32)))
set_option maxRecDepth 20000 in
def rX4_isOpen (s : SM) (L0 P0 : Nat) (a1 : Int32) : Prop := (¬ (vX4_hasDeal s L0 P0 a1) = 0 → vp_in a1 60)
set_option maxRecDepth 20000 in
theorem zX4_isOpen (s : SM) (L0 P0 : Nat) (a1 : Int32) : vX4_isOpen s L0 P0 a1 = 0 ∨ vX4_isOpen s L0 P0 a1 = 1 := (i01 (Or.inl rfl) (i01 (Or.inr rfl) (Or.inl rfl)))
set_option maxRecDepth 20000 in
theorem pX4_isOpen {L0 P0 : Nat} (hL0 : (L0, P0) ∈ LX) (a1 : Int32) {s : SM} {Q : Int32 → SM → Prop} (hr : rX4_isOpen s L0 P0 a1) (h : Q (vX4_isOpen s L0 P0 a1) s) : KI MX4_isOpen 1 [.ref L0, .int a1] s Q := by
  refine bX4_isOpen hL0 a1 ?_
  unfold rX4_isOpen at hr
  unfold vX4_isOpen at h
  refine ⟨fun c => ?_, fun c => ?_⟩
  · try simp only [if_pos c] at h
    first | exact h | contradiction
  · replace hr := hr c
    try simp only [if_neg c] at h
    refine ⟨hr, ?_⟩
    first | exact h | contradiction
set_option maxRecDepth 20000 in
theorem bX4_isScarred {L0 P0 : Nat} (hL0 : (L0, P0) ∈ LX) (a1 : Int32) (a2 : Int32) {s : SM} {Q : Int32 → SM → Prop} (h : vp_in a1 60 ∧ Q (vX11_isIn s a2 (gI s (L0 + 11) (a1).toNatClampNeg)) s) : KI MX4_isScarred 1 [.ref L0, .int a1, .int a2] s Q := by
  show BI MX4_isScarred 1 0 [(0, .ref L0), (1, .int a1), (2, .int a2)] s Q
  refine JT_iload_n (q := 2) dX4_isScarred_0 rfl rfl ?_
  refine JT_aload_n (q := 0) dX4_isScarred_1 rfl rfl ?_
  refine JS_getR (x := (L0 + 11)) dX4_isScarred_2 flX4_42 (lxB hL0) (lx2 hL0) (lxN hL0) (Or.inr ⟨_, ct_4_13⟩) (lxR13 hL0) ?_
  refine JT_iload_n (q := 1) dX4_isScarred_5 rfl rfl ?_
  obtain ⟨o1, h⟩ := h
  refine JS_iald dX4_isScarred_6 (lxB11 hL0) (lx2k hL0 _) (lxNk hL0 (Nat.le_of_ble_eq_true rfl)) o1 ?_
  refine JS_callSNI (M' := MX11_isIn) (d' := 0) (As := [.int a2, .int (gI s (L0 + 11) (a1).toNatClampNeg)]) (rest := []) (P := (fun zv9 wm9 => (vX11_isIn s a2 (gI s (L0 + 11) (a1).toNatClampNeg)) = zv9 ∧ s = wm9)) dX4_isScarred_7 cvX4_74 okX11_isIn rfl (Nat.le_of_ble_eq_true rfl) (Nat.le_of_ble_eq_true rfl) (Nat.le_of_ble_eq_true rfl) (pX11_isIn  (a2) ((gI s (L0 + 11) (a1).toNatClampNeg))  ⟨rfl, rfl⟩) (fun zv9 wm9 hq9 => ?_)
  obtain ⟨rfl, rfl⟩ := hq9
  exact JS_iret dX4_isScarred_10 rfl (n01 (zX11_isIn s a2 (gI s (L0 + 11) (a1).toNatClampNeg))) h
set_option maxRecDepth 20000 in
def vX4_isScarred (s : SM) (L0 P0 : Nat) (a1 : Int32) (a2 : Int32) : Int32 := (vX11_isIn s a2 (gI s (L0 + 11) (a1).toNatClampNeg))
set_option maxRecDepth 20000 in
def rX4_isScarred (s : SM) (L0 P0 : Nat) (a1 : Int32) (a2 : Int32) : Prop := vp_in a1 60
set_option maxRecDepth 20000 in
theorem zX4_isScarred (s : SM) (L0 P0 : Nat) (a1 : Int32) (a2 : Int32) : vX4_isScarred s L0 P0 a1 a2 = 0 ∨ vX4_isScarred s L0 P0 a1 a2 = 1 := (zX11_isIn s a2 (gI s (L0 + 11) (a1).toNatClampNeg))
set_option maxRecDepth 20000 in
theorem pX4_isScarred {L0 P0 : Nat} (hL0 : (L0, P0) ∈ LX) (a1 : Int32) (a2 : Int32) {s : SM} {Q : Int32 → SM → Prop} (hr : rX4_isScarred s L0 P0 a1 a2) (h : Q (vX4_isScarred s L0 P0 a1 a2) s) : KI MX4_isScarred 1 [.ref L0, .int a1, .int a2] s Q := by
  refine bX4_isScarred hL0 a1 a2 ?_
  unfold rX4_isScarred at hr
  unfold vX4_isScarred at h
  refine ⟨hr, ?_⟩
  first | exact h | contradiction
set_option maxRecDepth 20000 in
theorem bX4_leastLeft_4 {L0 P0 : Nat} (hL0 : (L0, P0) ∈ LX) (a1 : Int32) (a2 : Int32) (a3 : Int32) {s : SM} {Q : Int32 → SM → Prop} (h : (((gI s P0 6) ≤ a3 → Q a2 s) ∧ (¬ (gI s P0 6) ≤ a3 → (((vX4_lives s L0 P0 a3) = 0 → BI MX4_leastLeft 1 4 [(0, .ref L0), (1, .int a1), (2, .int a2), (3, .int (a3 + 1))] s Q) ∧ (¬ (vX4_lives s L0 P0 a3) = 0 → ((¬ (vX11_isIn s a3 a1) = 0 → BI MX4_leastLeft 1 4 [(0, .ref L0), (1, .int a1), (2, .int a2), (3, .int (a3 + 1))] s Q) ∧ ((vX11_isIn s a3 a1) = 0 → ((a2 = (-1 : Int32) → BI MX4_leastLeft 1 4 [(0, .ref L0), (1, .int a1), (2, .int a3), (3, .int (a3 + 1))] s Q) ∧ (¬ a2 = (-1 : Int32) → vp_in a3 9 ∧ vp_in a2 9 ∧ (((gI s (L0 + 7) (a2).toNatClampNeg) ≤ (gI s (L0 + 7) (a3).toNatClampNeg) → BI MX4_leastLeft 1 4 [(0, .ref L0), (1, .int a1), (2, .int a2), (3, .int (a3 + 1))] s Q) ∧ (¬ (gI s (L0 + 7) (a2).toNatClampNeg) ≤ (gI s (L0 + 7) (a3).toNatClampNeg) → BI MX4_leastLeft 1 4 [(0, .ref L0), (1, .int a1), (2, .int a3), (3, .int (a3 + 1))] s Q))))))))))) : BI MX4_leastLeft 1 4 [(0, .ref L0), (1, .int a1), (2, .int a2), (3, .int a3)] s Q := by
  refine JT_iload_n (q := 3) dX4_leastLeft_4 rfl rfl ?_
  refine JT_aload_n (q := 0) dX4_leastLeft_5 rfl rfl ?_
  refine JS_getR (x := P0) dX4_leastLeft_6 flX4_45 (lxB hL0) (lx2 hL0) (lxN hL0) (Or.inl ⟨_, ct_4_8⟩) (lxR8 hL0) ?_
  refine JS_getI dX4_leastLeft_9 flX4_106 (pxB (lxP hL0)) (px2 (lxP hL0)) (pxN (lxP hL0)) (Or.inl ct_6_6) ?_
  refine JT_icmp_ge (tgt := 59) dX4_leastLeft_12 (by decide) (fun hc9 => ?_) (fun hc9 => ?_)
  · have h := h.1 hc9
    refine JT_iload_n (q := 2) dX4_leastLeft_59 rfl rfl ?_
    exact JS_iret dX4_leastLeft_60 rfl rfl h
  · have h := h.2 hc9
    refine JT_aload_n (q := 0) dX4_leastLeft_15 rfl rfl ?_
    refine JT_iload_n (q := 3) dX4_leastLeft_16 rfl rfl ?_
    refine JS_callVI (M' := MX4_lives) (d' := 0) (As := [.int a3]) (rest := []) (P := (fun zv9 wm9 => (vX4_lives s L0 P0 a3) = zv9 ∧ s = wm9)) dX4_leastLeft_17 cvX4_85 okX4_lives rfl (Nat.le_of_ble_eq_true rfl) (lxB hL0) (lx2 hL0) (lxN hL0) hci_4 (Nat.le_of_ble_eq_true rfl) (Nat.le_of_ble_eq_true rfl) (pX4_lives hL0 (a3)  ⟨rfl, rfl⟩) (fun zv9 wm9 hq9 => ?_)
    obtain ⟨rfl, rfl⟩ := hq9
    refine JT_if_eq (tgt := 53) dX4_leastLeft_20 (by decide) (fun hc7 => ?_) (fun hc7 => ?_)
    · have h := h.1 hc7
      refine JT_iinc (q := 3) (v := (a3 + 1)) (lv' := [(3, .int (a3 + 1)), (0, .ref L0), (1, .int a1), (2, .int a2)]) dX4_leastLeft_53 rfl (by rfl) (Nat.le_of_ble_eq_true rfl) rfl ?_
      refine JT_goto (tgt := 4) dX4_leastLeft_56 (by decide) ?_
      exact JT_sub [1, 2, 3, 0] rfl h
    · have h := h.2 hc7
      refine JT_iload_n (q := 3) dX4_leastLeft_23 rfl rfl ?_
      refine JT_iload_n (q := 1) dX4_leastLeft_24 rfl rfl ?_
      refine JS_callSNI (M' := MX11_isIn) (d' := 0) (As := [.int a3, .int a1]) (rest := []) (P := (fun zv9 wm9 => (vX11_isIn s a3 a1) = zv9 ∧ s = wm9)) dX4_leastLeft_25 cvX4_74 okX11_isIn rfl (Nat.le_of_ble_eq_true rfl) (Nat.le_of_ble_eq_true rfl) (Nat.le_of_ble_eq_true rfl) (pX11_isIn  (a3) (a1)  ⟨rfl, rfl⟩) (fun zv9 wm9 hq9 => ?_)
      obtain ⟨rfl, rfl⟩ := hq9
      refine JT_if_ne (tgt := 53) dX4_leastLeft_28 (by decide) (fun hc5 => ?_) (fun hc5 => ?_)
      · have h := h.1 hc5
        refine JT_iinc (q := 3) (v := (a3 + 1)) (lv' := [(3, .int (a3 + 1)), (0, .ref L0), (1, .int a1), (2, .int a2)]) dX4_leastLeft_53 rfl (by rfl) (Nat.le_of_ble_eq_true rfl) rfl ?_
        refine JT_goto (tgt := 4) dX4_leastLeft_56 (by decide) ?_
        exact JT_sub [1, 2, 3, 0] rfl h
      · have h := h.2 hc5
        refine JT_iload_n (q := 2) dX4_leastLeft_31 rfl rfl ?_
        refine JT_iconst (v := -1) dX4_leastLeft_32 ic_m1 ?_
        refine JT_icmp_eq (tgt := 51) dX4_leastLeft_33 (by decide) (fun hc4 => ?_) (fun hc4 => ?_)
        · have h := h.1 hc4
          refine JT_iload_n (q := 3) dX4_leastLeft_51 rfl rfl ?_
          refine JT_istore_n (lv' := [(2, .int a3), (0, .ref L0), (1, .int a1), (3, .int a3)]) dX4_leastLeft_52 rfl (Nat.le_of_ble_eq_true rfl) rfl ?_
          refine JT_iinc (q := 3) (v := (a3 + 1)) (lv' := [(3, .int (a3 + 1)), (2, .int a3), (0, .ref L0), (1, .int a1)]) dX4_leastLeft_53 rfl (by rfl) (Nat.le_of_ble_eq_true rfl) rfl ?_
          refine JT_goto (tgt := 4) dX4_leastLeft_56 (by decide) ?_
          exact JT_sub [2, 3, 1, 0] rfl h
        · have h := h.2 hc4
          refine JT_aload_n (q := 0) dX4_leastLeft_36 rfl rfl ?_
          refine JS_getR (x := (L0 + 7)) dX4_leastLeft_37 flX4_30 (lxB hL0) (lx2 hL0) (lxN hL0) (Or.inr ⟨_, ct_4_6⟩) (lxR6 hL0) ?_
          refine JT_iload_n (q := 3) dX4_leastLeft_40 rfl rfl ?_
          obtain ⟨o1, h⟩ := h
          refine JS_iald dX4_leastLeft_41 (lxB7 hL0) (lx2k hL0 _) (lxNk hL0 (Nat.le_of_ble_eq_true rfl)) o1 ?_
          refine JT_aload_n (q := 0) dX4_leastLeft_42 rfl rfl ?_
          refine JS_getR (x := (L0 + 7)) dX4_leastLeft_43 flX4_30 (lxB hL0) (lx2 hL0) (lxN hL0) (Or.inr ⟨_, ct_4_6⟩) (lxR6 hL0) ?_
          refine JT_iload_n (q := 2) dX4_leastLeft_46 rfl rfl ?_
          obtain ⟨o2, h⟩ := h
          refine JS_iald dX4_leastLeft_47 (lxB7 hL0) (lx2k hL0 _) (lxNk hL0 (Nat.le_of_ble_eq_true rfl)) o2 ?_
          refine JT_icmp_ge (tgt := 53) dX4_leastLeft_48 (by decide) (fun hc3 => ?_) (fun hc3 => ?_)
          · have h := h.1 hc3
            refine JT_iinc (q := 3) (v := (a3 + 1)) (lv' := [(3, .int (a3 + 1)), (0, .ref L0), (1, .int a1), (2, .int a2)]) dX4_leastLeft_53 rfl (by rfl) (Nat.le_of_ble_eq_true rfl) rfl ?_
            refine JT_goto (tgt := 4) dX4_leastLeft_56 (by decide) ?_
            exact JT_sub [1, 2, 3, 0] rfl h
          · have h := h.2 hc3
            refine JT_iload_n (q := 3) dX4_leastLeft_51 rfl rfl ?_
            refine JT_istore_n (lv' := [(2, .int a3), (0, .ref L0), (1, .int a1), (3, .int a3)]) dX4_leastLeft_52 rfl (Nat.le_of_ble_eq_true rfl) rfl ?_
            refine JT_iinc (q := 3) (v := (a3 + 1)) (lv' := [(3, .int (a3 + 1)), (2, .int a3), (0, .ref L0), (1, .int a1)]) dX4_leastLeft_53 rfl (by rfl) (Nat.le_of_ble_eq_true rfl) rfl ?_
            refine JT_goto (tgt := 4) dX4_leastLeft_56 (by decide) ?_
            exact JT_sub [2, 3, 1, 0] rfl h
set_option maxRecDepth 20000 in
theorem bX4_leastLeft {L0 P0 : Nat} (hL0 : (L0, P0) ∈ LX) (a1 : Int32) {s : SM} {Q : Int32 → SM → Prop} (h : BI MX4_leastLeft 1 4 [(0, .ref L0), (1, .int a1), (2, .int (-1 : Int32)), (3, .int (0 : Int32))] s Q) : KI MX4_leastLeft 1 [.ref L0, .int a1] s Q := by
  show BI MX4_leastLeft 1 0 [(0, .ref L0), (1, .int a1)] s Q
  refine JT_iconst (v := -1) dX4_leastLeft_0 ic_m1 ?_
  refine JT_istore_n (lv' := [(2, .int (-1 : Int32)), (0, .ref L0), (1, .int a1)]) dX4_leastLeft_1 rfl (Nat.le_of_ble_eq_true rfl) rfl ?_
  refine JT_iconst (v := 0) dX4_leastLeft_2 ic_0 ?_
  refine JT_istore_n (lv' := [(3, .int (0 : Int32)), (2, .int (-1 : Int32)), (0, .ref L0), (1, .int a1)]) dX4_leastLeft_3 rfl (Nat.le_of_ble_eq_true rfl) rfl ?_
  exact JT_sub [2, 3, 1, 0] rfl h
set_option maxRecDepth 20000 in
theorem bX4_leftOfLiving_4 {L0 P0 : Nat} (hL0 : (L0, P0) ∈ LX) (a1 : Int32) (a2 : Int32) {s : SM} {Q : Int32 → SM → Prop} (h : (((gI s P0 6) ≤ a2 → Q a1 s) ∧ (¬ (gI s P0 6) ≤ a2 → (((vX4_lives s L0 P0 a2) = 0 → BI MX4_leftOfLiving 1 4 [(0, .ref L0), (1, .int (a1 + (0 : Int32))), (2, .int (a2 + 1))] s Q) ∧ (¬ (vX4_lives s L0 P0 a2) = 0 → vp_in a2 9 ∧ BI MX4_leftOfLiving 1 4 [(0, .ref L0), (1, .int (a1 + (gI s (L0 + 7) (a2).toNatClampNeg))), (2, .int (a2 + 1))] s Q))))) : BI MX4_leftOfLiving 1 4 [(0, .ref L0), (1, .int a1), (2, .int a2)] s Q := by
  refine JT_iload_n (q := 2) dX4_leftOfLiving_4 rfl rfl ?_
  refine JT_aload_n (q := 0) dX4_leftOfLiving_5 rfl rfl ?_
  refine JS_getR (x := P0) dX4_leftOfLiving_6 flX4_45 (lxB hL0) (lx2 hL0) (lxN hL0) (Or.inl ⟨_, ct_4_8⟩) (lxR8 hL0) ?_
  refine JS_getI dX4_leftOfLiving_9 flX4_106 (pxB (lxP hL0)) (px2 (lxP hL0)) (pxN (lxP hL0)) (Or.inl ct_6_6) ?_
  refine JT_icmp_ge (tgt := 42) dX4_leftOfLiving_12 (by decide) (fun hc4 => ?_) (fun hc4 => ?_)
  · have h := h.1 hc4
    refine JT_iload_n (q := 1) dX4_leftOfLiving_42 rfl rfl ?_
    exact JS_iret dX4_leftOfLiving_43 rfl rfl h
  · have h := h.2 hc4
    refine JT_iload_n (q := 1) dX4_leftOfLiving_15 rfl rfl ?_
    refine JT_aload_n (q := 0) dX4_leftOfLiving_16 rfl rfl ?_
    refine JT_iload_n (q := 2) dX4_leftOfLiving_17 rfl rfl ?_
    refine JS_callVI (M' := MX4_lives) (d' := 0) (As := [.int a2]) (rest := [.int a1]) (P := (fun zv9 wm9 => (vX4_lives s L0 P0 a2) = zv9 ∧ s = wm9)) dX4_leftOfLiving_18 cvX4_85 okX4_lives rfl (Nat.le_of_ble_eq_true rfl) (lxB hL0) (lx2 hL0) (lxN hL0) hci_4 (Nat.le_of_ble_eq_true rfl) (Nat.le_of_ble_eq_true rfl) (pX4_lives hL0 (a2)  ⟨rfl, rfl⟩) (fun zv9 wm9 hq9 => ?_)
    obtain ⟨rfl, rfl⟩ := hq9
    refine JT_if_eq (tgt := 33) dX4_leftOfLiving_21 (by decide) (fun hc2 => ?_) (fun hc2 => ?_)
    · have h := h.1 hc2
      refine JT_iconst (v := 0) dX4_leftOfLiving_33 ic_0 ?_
      refine JT_iadd dX4_leftOfLiving_34 ?_
      refine JT_istore_n (lv' := [(1, .int (a1 + (0 : Int32))), (0, .ref L0), (2, .int a2)]) dX4_leftOfLiving_35 rfl (Nat.le_of_ble_eq_true rfl) rfl ?_
      refine JT_iinc (q := 2) (v := (a2 + 1)) (lv' := [(2, .int (a2 + 1)), (1, .int (a1 + (0 : Int32))), (0, .ref L0)]) dX4_leftOfLiving_36 rfl (by rfl) (Nat.le_of_ble_eq_true rfl) rfl ?_
      refine JT_goto (tgt := 4) dX4_leftOfLiving_39 (by decide) ?_
      exact JT_sub [2, 1, 0] rfl h
    · have h := h.2 hc2
      refine JT_aload_n (q := 0) dX4_leftOfLiving_24 rfl rfl ?_
      refine JS_getR (x := (L0 + 7)) dX4_leftOfLiving_25 flX4_30 (lxB hL0) (lx2 hL0) (lxN hL0) (Or.inr ⟨_, ct_4_6⟩) (lxR6 hL0) ?_
      refine JT_iload_n (q := 2) dX4_leftOfLiving_28 rfl rfl ?_
      obtain ⟨o1, h⟩ := h
      refine JS_iald dX4_leftOfLiving_29 (lxB7 hL0) (lx2k hL0 _) (lxNk hL0 (Nat.le_of_ble_eq_true rfl)) o1 ?_
      refine JT_goto (tgt := 34) dX4_leftOfLiving_30 (by decide) ?_
      refine JT_iadd dX4_leftOfLiving_34 ?_
      refine JT_istore_n (lv' := [(1, .int (a1 + (gI s (L0 + 7) (a2).toNatClampNeg))), (0, .ref L0), (2, .int a2)]) dX4_leftOfLiving_35 rfl (Nat.le_of_ble_eq_true rfl) rfl ?_
      refine JT_iinc (q := 2) (v := (a2 + 1)) (lv' := [(2, .int (a2 + 1)), (1, .int (a1 + (gI s (L0 + 7) (a2).toNatClampNeg))), (0, .ref L0)]) dX4_leftOfLiving_36 rfl (by rfl) (Nat.le_of_ble_eq_true rfl) rfl ?_
      refine JT_goto (tgt := 4) dX4_leftOfLiving_39 (by decide) ?_
      exact JT_sub [2, 1, 0] rfl h
set_option maxRecDepth 20000 in
theorem bX4_leftOfLiving {L0 P0 : Nat} (hL0 : (L0, P0) ∈ LX) {s : SM} {Q : Int32 → SM → Prop} (h : BI MX4_leftOfLiving 1 4 [(0, .ref L0), (1, .int (0 : Int32)), (2, .int (0 : Int32))] s Q) : KI MX4_leftOfLiving 1 [.ref L0] s Q := by
  show BI MX4_leftOfLiving 1 0 [(0, .ref L0)] s Q
  refine JT_iconst (v := 0) dX4_leftOfLiving_0 ic_0 ?_
  refine JT_istore_n (lv' := [(1, .int (0 : Int32)), (0, .ref L0)]) dX4_leftOfLiving_1 rfl (Nat.le_of_ble_eq_true rfl) rfl ?_
  refine JT_iconst (v := 0) dX4_leftOfLiving_2 ic_0 ?_
  refine JT_istore_n (lv' := [(2, .int (0 : Int32)), (1, .int (0 : Int32)), (0, .ref L0)]) dX4_leftOfLiving_3 rfl (Nat.le_of_ble_eq_true rfl) rfl ?_
  exact JT_sub [2, 1, 0] rfl h
set_option maxRecDepth 20000 in
theorem bX4_unscarredBearer {L0 P0 : Nat} (hL0 : (L0, P0) ∈ LX) (a1 : Int32) (a2 : Int32) {s : SM} {Q : Int32 → SM → Prop} (h : vp_in a1 60 ∧ ((¬ (((gI s (L0 + 11) (a1).toNatClampNeg) >>> (a2 &&& 31)) &&& (1 : Int32)) = (1 : Int32) → rX4_bearer s L0 P0 a1 a2 ∧ Q (vX4_bearer s L0 P0 a1 a2) s) ∧ ((((gI s (L0 + 11) (a1).toNatClampNeg) >>> (a2 &&& 31)) &&& (1 : Int32)) = (1 : Int32) → Q (-1 : Int32) s))) : KI MX4_unscarredBearer 1 [.ref L0, .int a1, .int a2] s Q := by
  show BI MX4_unscarredBearer 1 0 [(0, .ref L0), (1, .int a1), (2, .int a2)] s Q
  refine JT_aload_n (q := 0) dX4_unscarredBearer_0 rfl rfl ?_
  refine JS_getR (x := (L0 + 11)) dX4_unscarredBearer_1 flX4_42 (lxB hL0) (lx2 hL0) (lxN hL0) (Or.inr ⟨_, ct_4_13⟩) (lxR13 hL0) ?_
  refine JT_iload_n (q := 1) dX4_unscarredBearer_4 rfl rfl ?_
  obtain ⟨o1, h⟩ := h
  refine JS_iald dX4_unscarredBearer_5 (lxB11 hL0) (lx2k hL0 _) (lxNk hL0 (Nat.le_of_ble_eq_true rfl)) o1 ?_
  refine JT_iload_n (q := 2) dX4_unscarredBearer_6 rfl rfl ?_
  refine JT_ishr dX4_unscarredBearer_7 ?_
  refine JT_iconst (v := 1) dX4_unscarredBearer_8 ic_1 ?_
  refine JT_iand dX4_unscarredBearer_9 ?_
  refine JT_iconst (v := 1) dX4_unscarredBearer_10 ic_1 ?_
  refine JT_icmp_ne (tgt := 18) dX4_unscarredBearer_11 (by decide) (fun hc3 => ?_) (fun hc3 => ?_)
  · have h := h.1 hc3
    refine JT_aload_n (q := 0) dX4_unscarredBearer_18 rfl rfl ?_
    refine JT_iload_n (q := 1) dX4_unscarredBearer_19 rfl rfl ?_
    refine JT_iload_n (q := 2) dX4_unscarredBearer_20 rfl rfl ?_
    obtain ⟨o2, h⟩ := h
    refine JS_callVI (M' := MX4_bearer) (d' := 0) (As := [.int a1, .int a2]) (rest := []) (P := (fun zv9 wm9 => (vX4_bearer s L0 P0 a1 a2) = zv9 ∧ s = wm9)) dX4_unscarredBearer_21 cvX4_78 okX4_bearer rfl (Nat.le_of_ble_eq_true rfl) (lxB hL0) (lx2 hL0) (lxN hL0) hci_4 (Nat.le_of_ble_eq_true rfl) (Nat.le_of_ble_eq_true rfl) (pX4_bearer hL0 (a1) (a2) o2 ⟨rfl, rfl⟩) (fun zv9 wm9 hq9 => ?_)
    obtain ⟨rfl, rfl⟩ := hq9
    exact JS_iret dX4_unscarredBearer_24 rfl rfl h
  · have h := h.2 hc3
    refine JT_iconst (v := -1) dX4_unscarredBearer_14 ic_m1 ?_
    refine JT_goto (tgt := 24) dX4_unscarredBearer_15 (by decide) ?_
    exact JS_iret dX4_unscarredBearer_24 rfl rfl h
set_option maxRecDepth 20000 in
def vX4_unscarredBearer (s : SM) (L0 P0 : Nat) (a1 : Int32) (a2 : Int32) : Int32 := (if (((gI s (L0 + 11) (a1).toNatClampNeg) >>> (a2 &&& 31)) &&& (1 : Int32)) = (1 : Int32) then (-1 : Int32) else (vX4_bearer s L0 P0 a1 a2))
set_option maxRecDepth 20000 in
def rX4_unscarredBearer (s : SM) (L0 P0 : Nat) (a1 : Int32) (a2 : Int32) : Prop := vp_in a1 60 ∧ (¬ (((gI s (L0 + 11) (a1).toNatClampNeg) >>> (a2 &&& 31)) &&& (1 : Int32)) = (1 : Int32) → rX4_bearer s L0 P0 a1 a2)
set_option maxRecDepth 20000 in
theorem pX4_unscarredBearer {L0 P0 : Nat} (hL0 : (L0, P0) ∈ LX) (a1 : Int32) (a2 : Int32) {s : SM} {Q : Int32 → SM → Prop} (hr : rX4_unscarredBearer s L0 P0 a1 a2) (h : Q (vX4_unscarredBearer s L0 P0 a1 a2) s) : KI MX4_unscarredBearer 1 [.ref L0, .int a1, .int a2] s Q := by
  refine bX4_unscarredBearer hL0 a1 a2 ?_
  unfold rX4_unscarredBearer at hr
  unfold vX4_unscarredBearer at h
  refine ⟨hr.1, ?_⟩
  replace hr := hr.2
  refine ⟨fun c => ?_, fun c => ?_⟩
  · replace hr := hr c
    try simp only [if_neg c] at h
    refine ⟨hr, ?_⟩
    first | exact h | contradiction
  · try simp only [if_pos c] at h
    first | exact h | contradiction
set_option maxRecDepth 20000 in
theorem bX4_valueOf {L0 P0 : Nat} (hL0 : (L0, P0) ∈ LX) (a1 : Int32) {s : SM} {Q : Int32 → SM → Prop} (h : vp_in a1 60 ∧ vp_in a1 60 ∧ rX6_valueOf s P0 (gI s (L0 + 4) (a1).toNatClampNeg) (gI s (L0 + 3) (a1).toNatClampNeg) ∧ Q (vX6_valueOf s P0 (gI s (L0 + 4) (a1).toNatClampNeg) (gI s (L0 + 3) (a1).toNatClampNeg)) s) : KI MX4_valueOf 1 [.ref L0, .int a1] s Q := by
  show BI MX4_valueOf 1 0 [(0, .ref L0), (1, .int a1)] s Q
  refine JT_aload_n (q := 0) dX4_valueOf_0 rfl rfl ?_
  refine JS_getR (x := P0) dX4_valueOf_1 flX4_45 (lxB hL0) (lx2 hL0) (lxN hL0) (Or.inl ⟨_, ct_4_8⟩) (lxR8 hL0) ?_
  refine JT_aload_n (q := 0) dX4_valueOf_4 rfl rfl ?_
  refine JS_getR (x := (L0 + 4)) dX4_valueOf_5 flX4_21 (lxB hL0) (lx2 hL0) (lxN hL0) (Or.inr ⟨_, ct_4_3⟩) (lxR3 hL0) ?_
  refine JT_iload_n (q := 1) dX4_valueOf_8 rfl rfl ?_
  obtain ⟨o1, h⟩ := h
  refine JS_iald dX4_valueOf_9 (lxB4 hL0) (lx2k hL0 _) (lxNk hL0 (Nat.le_of_ble_eq_true rfl)) o1 ?_
  refine JT_aload_n (q := 0) dX4_valueOf_10 rfl rfl ?_
  refine JS_getR (x := (L0 + 3)) dX4_valueOf_11 flX4_18 (lxB hL0) (lx2 hL0) (lxN hL0) (Or.inr ⟨_, ct_4_2⟩) (lxR2 hL0) ?_
  refine JT_iload_n (q := 1) dX4_valueOf_14 rfl rfl ?_
  obtain ⟨o2, h⟩ := h
  refine JS_iald dX4_valueOf_15 (lxB3 hL0) (lx2k hL0 _) (lxNk hL0 (Nat.le_of_ble_eq_true rfl)) o2 ?_
  obtain ⟨o3, h⟩ := h
  refine JS_callVI (M' := MX6_valueOf) (d' := 0) (As := [.int (gI s (L0 + 4) (a1).toNatClampNeg), .int (gI s (L0 + 3) (a1).toNatClampNeg)]) (rest := []) (P := (fun zv9 wm9 => (vX6_valueOf s P0 (gI s (L0 + 4) (a1).toNatClampNeg) (gI s (L0 + 3) (a1).toNatClampNeg)) = zv9 ∧ s = wm9)) dX4_valueOf_16 cvX4_100 okX6_valueOf rfl (Nat.le_of_ble_eq_true rfl) (pxB (lxP hL0)) (px2 (lxP hL0)) (pxN (lxP hL0)) hci_6 (Nat.le_of_ble_eq_true rfl) (Nat.le_of_ble_eq_true rfl) (pX6_valueOf (lxP hL0) ((gI s (L0 + 4) (a1).toNatClampNeg)) ((gI s (L0 + 3) (a1).toNatClampNeg)) o3 ⟨rfl, rfl⟩) (fun zv9 wm9 hq9 => ?_)
  obtain ⟨rfl, rfl⟩ := hq9
  exact JS_iret dX4_valueOf_19 rfl rfl h
set_option maxRecDepth 20000 in
def vX4_valueOf (s : SM) (L0 P0 : Nat) (a1 : Int32) : Int32 := (vX6_valueOf s P0 (gI s (L0 + 4) (a1).toNatClampNeg) (gI s (L0 + 3) (a1).toNatClampNeg))
set_option maxRecDepth 20000 in
def rX4_valueOf (s : SM) (L0 P0 : Nat) (a1 : Int32) : Prop := vp_in a1 60 ∧ vp_in a1 60 ∧ rX6_valueOf s P0 (gI s (L0 + 4) (a1).toNatClampNeg) (gI s (L0 + 3) (a1).toNatClampNeg)
set_option maxRecDepth 20000 in
theorem pX4_valueOf {L0 P0 : Nat} (hL0 : (L0, P0) ∈ LX) (a1 : Int32) {s : SM} {Q : Int32 → SM → Prop} (hr : rX4_valueOf s L0 P0 a1) (h : Q (vX4_valueOf s L0 P0 a1) s) : KI MX4_valueOf 1 [.ref L0, .int a1] s Q := by
  refine bX4_valueOf hL0 a1 ?_
  unfold rX4_valueOf at hr
  unfold vX4_valueOf at h
  refine ⟨hr.1, ?_⟩
  replace hr := hr.2
  refine ⟨hr.1, ?_⟩
  replace hr := hr.2
  refine ⟨hr, ?_⟩
  first | exact h | contradiction
set_option maxRecDepth 20000 in
theorem bX5_keepTold  {s : SM} {Q : SM → Prop} (h : (∀ s1, s1 = (cI s 231 (va_cpy (gI s 230) (gI s 231) ((0 : Int32)).toNatClampNeg ((0 : Int32)).toNatClampNeg ((6 : Int32)).toNatClampNeg)) → Q s1)) : KV MX5_keepTold 1 [.ref 225] s Q := by
  show BV MX5_keepTold 1 0 [(0, .ref 225)] s Q
  refine JT_aload_n (q := 0) dX5_keepTold_0 rfl rfl ?_
  refine JS_getR (x := 230) dX5_keepTold_1 flX5_24 BS_225 (Nat.le_of_ble_eq_true rfl) (Nat.le_of_ble_eq_true rfl) (Or.inr ⟨_, ct_5_6⟩) RF_225_6 ?_
  refine JT_iconst (v := 0) dX5_keepTold_4 ic_0 ?_
  refine JT_aload_n (q := 0) dX5_keepTold_5 rfl rfl ?_
  refine JS_getR (x := 231) dX5_keepTold_6 flX5_27 BS_225 (Nat.le_of_ble_eq_true rfl) (Nat.le_of_ble_eq_true rfl) (Or.inr ⟨_, ct_5_7⟩) RF_225_7 ?_
  refine JT_iconst (v := 0) dX5_keepTold_9 ic_0 ?_
  refine JT_bipush (v := 6) dX5_keepTold_10 bp_6 ?_
  refine JS_copyI (d2 := 0) (na := 6) (nb := 6) dX5_keepTold_12 mlX5_65 BS_231 (Nat.le_of_ble_eq_true rfl) (Nat.le_of_ble_eq_true rfl) BS_230 (Nat.le_of_ble_eq_true rfl) (Nat.le_of_ble_eq_true rfl) (by decide) (by decide) (by decide) (by decide) (by decide) (Nat.le_of_ble_eq_true rfl) rfl ?_
  obtain ⟨s1, hs1⟩ : ∃ z, z = (cI s 231 (va_cpy (gI s 230) (gI s 231) ((0 : Int32)).toNatClampNeg ((0 : Int32)).toNatClampNeg ((6 : Int32)).toNatClampNeg)) := ⟨_, rfl⟩
  replace h := h s1 hs1
  rw [← hs1]
  exact JS_vret dX5_keepTold_15 rfl h
set_option maxRecDepth 20000 in
def mX5_keepTold (s : SM)  : SM := ((fun (s1 : SM) => s1) (cI s 231 (va_cpy (gI s 230) (gI s 231) ((0 : Int32)).toNatClampNeg ((0 : Int32)).toNatClampNeg ((6 : Int32)).toNatClampNeg)))
set_option maxRecDepth 20000 in
theorem pX5_keepTold  {s : SM} {Q : SM → Prop} (h : Q (mX5_keepTold s )) : KV MX5_keepTold 1 [.ref 225] s Q := by
  refine bX5_keepTold  ?_
  unfold mX5_keepTold at h
  intro s1 e9
  subst e9
  first | exact h | contradiction
set_option maxRecDepth 20000 in
theorem bX6_copyFrom {p0 : Nat} (hp0 : p0 ∈ PX) {p1 : Nat} (hp1 : p1 ∈ PX) {s : SM} {Q : SM → Prop} (h : (∀ s1, s1 = (cL s (p0 + 1) (va_cpy (gL s (p1 + 1)) (gL s (p0 + 1)) ((0 : Int32)).toNatClampNeg ((0 : Int32)).toNatClampNeg ((9 : Int32)).toNatClampNeg)) → (∀ s2, s2 = (cI s1 (p0 + 2) (va_cpy (gI s1 (p1 + 2)) (gI s1 (p0 + 2)) ((0 : Int32)).toNatClampNeg ((0 : Int32)).toNatClampNeg ((9 : Int32)).toNatClampNeg)) → (∀ s3, s3 = (cI s2 (p0 + 3) (va_cpy (gI s2 (p1 + 3)) (gI s2 (p0 + 3)) ((0 : Int32)).toNatClampNeg ((0 : Int32)).toNatClampNeg ((9 : Int32)).toNatClampNeg)) → (∀ s4, s4 = (cL s3 (p0 + 4) (va_cpy (gL s3 (p1 + 4)) (gL s3 (p0 + 4)) ((0 : Int32)).toNatClampNeg ((0 : Int32)).toNatClampNeg ((6 : Int32)).toNatClampNeg)) → (∀ s5, s5 = (cI s4 (p0 + 5) (va_cpy (gI s4 (p1 + 5)) (gI s4 (p0 + 5)) ((0 : Int32)).toNatClampNeg ((0 : Int32)).toNatClampNeg ((6 : Int32)).toNatClampNeg)) → (∀ s6, s6 = (cI s5 (p0 + 6) (va_cpy (gI s5 (p1 + 6)) (gI s5 (p0 + 6)) ((0 : Int32)).toNatClampNeg ((0 : Int32)).toNatClampNeg ((6 : Int32)).toNatClampNeg)) → (∀ s7, s7 = (pI (pI (pI s6 p0 6 (gI s6 p1 6)) p0 7 (gI (pI s6 p0 6 (gI s6 p1 6)) p1 7)) p0 8 (gI (pI (pI s6 p0 6 (gI s6 p1 6)) p0 7 (gI (pI s6 p0 6 (gI s6 p1 6)) p1 7)) p1 8)) → (∀ s8, s8 = (pI (pI (pI s7 p0 9 (gI s7 p1 9)) p0 10 (gI (pI s7 p0 9 (gI s7 p1 9)) p1 10)) p0 11 (gI (pI (pI s7 p0 9 (gI s7 p1 9)) p0 10 (gI (pI s7 p0 9 (gI s7 p1 9)) p1 10)) p1 11)) → Q s8))))))))) : KV MX6_copyFrom 1 [.ref p0, .ref p1] s Q := by
  show BV MX6_copyFrom 1 0 [(0, .ref p0), (1, .ref p1)] s Q
  refine JT_aload_n (q := 1) dX6_copyFrom_0 rfl rfl ?_
  refine JS_getR (x := (p1 + 1)) dX6_copyFrom_1 flX6_9 (pxB hp1) (px2 hp1) (pxN hp1) (Or.inr ⟨_, ct_6_0⟩) (pxR0 hp1) ?_
  refine JT_iconst (v := 0) dX6_copyFrom_4 ic_0 ?_
  refine JT_aload_n (q := 0) dX6_copyFrom_5 rfl rfl ?_
  refine JS_getR (x := (p0 + 1)) dX6_copyFrom_6 flX6_9 (pxB hp0) (px2 hp0) (pxN hp0) (Or.inr ⟨_, ct_6_0⟩) (pxR0 hp0) ?_
  refine JT_iconst (v := 0) dX6_copyFrom_9 ic_0 ?_
  refine JT_bipush (v := 9) dX6_copyFrom_10 bp_9 ?_
  refine JS_copyL (d2 := 0) (na := 9) (nb := 9) dX6_copyFrom_12 mlX6_54 (pxB1 hp0) (px2k hp0 _) (pxNk hp0 (Nat.le_of_ble_eq_true rfl)) (pxB1 hp1) (px2k hp1 _) (pxNk hp1 (Nat.le_of_ble_eq_true rfl)) (by decide) (by decide) (by decide) (by decide) (by decide) (Nat.le_of_ble_eq_true rfl) rfl ?_
  obtain ⟨s1, hs1⟩ : ∃ z, z = (cL s (p0 + 1) (va_cpy (gL s (p1 + 1)) (gL s (p0 + 1)) ((0 : Int32)).toNatClampNeg ((0 : Int32)).toNatClampNeg ((9 : Int32)).toNatClampNeg)) := ⟨_, rfl⟩
  replace h := h s1 hs1
  rw [← hs1]
  refine JT_aload_n (q := 1) dX6_copyFrom_15 rfl rfl ?_
  refine JS_getR (x := (p1 + 2)) dX6_copyFrom_16 flX6_15 (pxB hp1) (px2 hp1) (pxN hp1) (Or.inr ⟨_, ct_6_1⟩) (pxR1 hp1) ?_
  refine JT_iconst (v := 0) dX6_copyFrom_19 ic_0 ?_
  refine JT_aload_n (q := 0) dX6_copyFrom_20 rfl rfl ?_
  refine JS_getR (x := (p0 + 2)) dX6_copyFrom_21 flX6_15 (pxB hp0) (px2 hp0) (pxN hp0) (Or.inr ⟨_, ct_6_1⟩) (pxR1 hp0) ?_
  refine JT_iconst (v := 0) dX6_copyFrom_24 ic_0 ?_
  refine JT_bipush (v := 9) dX6_copyFrom_25 bp_9 ?_
  refine JS_copyI (d2 := 0) (na := 9) (nb := 9) dX6_copyFrom_27 mlX6_54 (pxB2 hp0) (px2k hp0 _) (pxNk hp0 (Nat.le_of_ble_eq_true rfl)) (pxB2 hp1) (px2k hp1 _) (pxNk hp1 (Nat.le_of_ble_eq_true rfl)) (by decide) (by decide) (by decide) (by decide) (by decide) (Nat.le_of_ble_eq_true rfl) rfl ?_
  obtain ⟨s2, hs2⟩ : ∃ z, z = (cI s1 (p0 + 2) (va_cpy (gI s1 (p1 + 2)) (gI s1 (p0 + 2)) ((0 : Int32)).toNatClampNeg ((0 : Int32)).toNatClampNeg ((9 : Int32)).toNatClampNeg)) := ⟨_, rfl⟩
  replace h := h s2 hs2
  rw [← hs2]
  refine JT_aload_n (q := 1) dX6_copyFrom_30 rfl rfl ?_
  refine JS_getR (x := (p1 + 3)) dX6_copyFrom_31 flX6_19 (pxB hp1) (px2 hp1) (pxN hp1) (Or.inr ⟨_, ct_6_2⟩) (pxR2 hp1) ?_
  refine JT_iconst (v := 0) dX6_copyFrom_34 ic_0 ?_
  refine JT_aload_n (q := 0) dX6_copyFrom_35 rfl rfl ?_
  refine JS_getR (x := (p0 + 3)) dX6_copyFrom_36 flX6_19 (pxB hp0) (px2 hp0) (pxN hp0) (Or.inr ⟨_, ct_6_2⟩) (pxR2 hp0) ?_
  refine JT_iconst (v := 0) dX6_copyFrom_39 ic_0 ?_
  refine JT_bipush (v := 9) dX6_copyFrom_40 bp_9 ?_
  refine JS_copyI (d2 := 0) (na := 9) (nb := 9) dX6_copyFrom_42 mlX6_54 (pxB3 hp0) (px2k hp0 _) (pxNk hp0 (Nat.le_of_ble_eq_true rfl)) (pxB3 hp1) (px2k hp1 _) (pxNk hp1 (Nat.le_of_ble_eq_true rfl)) (by decide) (by decide) (by decide) (by decide) (by decide) (Nat.le_of_ble_eq_true rfl) rfl ?_
  obtain ⟨s3, hs3⟩ : ∃ z, z = (cI s2 (p0 + 3) (va_cpy (gI s2 (p1 + 3)) (gI s2 (p0 + 3)) ((0 : Int32)).toNatClampNeg ((0 : Int32)).toNatClampNeg ((9 : Int32)).toNatClampNeg)) := ⟨_, rfl⟩
  replace h := h s3 hs3
  rw [← hs3]
  refine JT_aload_n (q := 1) dX6_copyFrom_45 rfl rfl ?_
  refine JS_getR (x := (p1 + 4)) dX6_copyFrom_46 flX6_22 (pxB hp1) (px2 hp1) (pxN hp1) (Or.inr ⟨_, ct_6_3⟩) (pxR3 hp1) ?_
  refine JT_iconst (v := 0) dX6_copyFrom_49 ic_0 ?_
  refine JT_aload_n (q := 0) dX6_copyFrom_50 rfl rfl ?_
  refine JS_getR (x := (p0 + 4)) dX6_copyFrom_51 flX6_22 (pxB hp0) (px2 hp0) (pxN hp0) (Or.inr ⟨_, ct_6_3⟩) (pxR3 hp0) ?_
  refine JT_iconst (v := 0) dX6_copyFrom_54 ic_0 ?_
  refine JT_bipush (v := 6) dX6_copyFrom_55 bp_6 ?_
  refine JS_copyL (d2 := 0) (na := 6) (nb := 6) dX6_copyFrom_57 mlX6_54 (pxB4 hp0) (px2k hp0 _) (pxNk hp0 (Nat.le_of_ble_eq_true rfl)) (pxB4 hp1) (px2k hp1 _) (pxNk hp1 (Nat.le_of_ble_eq_true rfl)) (by decide) (by decide) (by decide) (by decide) (by decide) (Nat.le_of_ble_eq_true rfl) rfl ?_
  obtain ⟨s4, hs4⟩ : ∃ z, z = (cL s3 (p0 + 4) (va_cpy (gL s3 (p1 + 4)) (gL s3 (p0 + 4)) ((0 : Int32)).toNatClampNeg ((0 : Int32)).toNatClampNeg ((6 : Int32)).toNatClampNeg)) := ⟨_, rfl⟩
  replace h := h s4 hs4
  rw [← hs4]
  refine JT_aload_n (q := 1) dX6_copyFrom_60 rfl rfl ?_
  refine JS_getR (x := (p1 + 5)) dX6_copyFrom_61 flX6_25 (pxB hp1) (px2 hp1) (pxN hp1) (Or.inr ⟨_, ct_6_4⟩) (pxR4 hp1) ?_
  refine JT_iconst (v := 0) dX6_copyFrom_64 ic_0 ?_
  refine JT_aload_n (q := 0) dX6_copyFrom_65 rfl rfl ?_
  refine JS_getR (x := (p0 + 5)) dX6_copyFrom_66 flX6_25 (pxB hp0) (px2 hp0) (pxN hp0) (Or.inr ⟨_, ct_6_4⟩) (pxR4 hp0) ?_
  refine JT_iconst (v := 0) dX6_copyFrom_69 ic_0 ?_
  refine JT_bipush (v := 6) dX6_copyFrom_70 bp_6 ?_
  refine JS_copyI (d2 := 0) (na := 6) (nb := 6) dX6_copyFrom_72 mlX6_54 (pxB5 hp0) (px2k hp0 _) (pxNk hp0 (Nat.le_of_ble_eq_true rfl)) (pxB5 hp1) (px2k hp1 _) (pxNk hp1 (Nat.le_of_ble_eq_true rfl)) (by decide) (by decide) (by decide) (by decide) (by decide) (Nat.le_of_ble_eq_true rfl) rfl ?_
  obtain ⟨s5, hs5⟩ : ∃ z, z = (cI s4 (p0 + 5) (va_cpy (gI s4 (p1 + 5)) (gI s4 (p0 + 5)) ((0 : Int32)).toNatClampNeg ((0 : Int32)).toNatClampNeg ((6 : Int32)).toNatClampNeg)) := ⟨_, rfl⟩
  replace h := h s5 hs5
  rw [← hs5]
  refine JT_aload_n (q := 1) dX6_copyFrom_75 rfl rfl ?_
  refine JS_getR (x := (p1 + 6)) dX6_copyFrom_76 flX6_28 (pxB hp1) (px2 hp1) (pxN hp1) (Or.inr ⟨_, ct_6_5⟩) (pxR5 hp1) ?_
  refine JT_iconst (v := 0) dX6_copyFrom_79 ic_0 ?_
  refine JT_aload_n (q := 0) dX6_copyFrom_80 rfl rfl ?_
  refine JS_getR (x := (p0 + 6)) dX6_copyFrom_81 flX6_28 (pxB hp0) (px2 hp0) (pxN hp0) (Or.inr ⟨_, ct_6_5⟩) (pxR5 hp0) ?_
  refine JT_iconst (v := 0) dX6_copyFrom_84 ic_0 ?_
  refine JT_bipush (v := 6) dX6_copyFrom_85 bp_6 ?_
  refine JS_copyI (d2 := 0) (na := 6) (nb := 6) dX6_copyFrom_87 mlX6_54 (pxB6 hp0) (px2k hp0 _) (pxNk hp0 (Nat.le_of_ble_eq_true rfl)) (pxB6 hp1) (px2k hp1 _) (pxNk hp1 (Nat.le_of_ble_eq_true rfl)) (by decide) (by decide) (by decide) (by decide) (by decide) (Nat.le_of_ble_eq_true rfl) rfl ?_
  obtain ⟨s6, hs6⟩ : ∃ z, z = (cI s5 (p0 + 6) (va_cpy (gI s5 (p1 + 6)) (gI s5 (p0 + 6)) ((0 : Int32)).toNatClampNeg ((0 : Int32)).toNatClampNeg ((6 : Int32)).toNatClampNeg)) := ⟨_, rfl⟩
  replace h := h s6 hs6
  rw [← hs6]
  refine JT_aload_n (q := 0) dX6_copyFrom_90 rfl rfl ?_
  refine JT_aload_n (q := 1) dX6_copyFrom_91 rfl rfl ?_
  refine JS_getI dX6_copyFrom_92 flX6_35 (pxB hp1) (px2 hp1) (pxN hp1) (Or.inl ct_6_6) ?_
  refine JS_putI dX6_copyFrom_95 flX6_35 (pxB hp0) (px2 hp0) (pxN hp0) ct_6_6 ?_
  refine JT_aload_n (q := 0) dX6_copyFrom_98 rfl rfl ?_
  refine JT_aload_n (q := 1) dX6_copyFrom_99 rfl rfl ?_
  refine JS_getI dX6_copyFrom_100 flX6_38 (pxB hp1) (px2 hp1) (pxN hp1) (Or.inl ct_6_7) ?_
  refine JS_putI dX6_copyFrom_103 flX6_38 (pxB hp0) (px2 hp0) (pxN hp0) ct_6_7 ?_
  refine JT_aload_n (q := 0) dX6_copyFrom_106 rfl rfl ?_
  refine JT_aload_n (q := 1) dX6_copyFrom_107 rfl rfl ?_
  refine JS_getI dX6_copyFrom_108 flX6_31 (pxB hp1) (px2 hp1) (pxN hp1) (Or.inl ct_6_8) ?_
  refine JS_putI dX6_copyFrom_111 flX6_31 (pxB hp0) (px2 hp0) (pxN hp0) ct_6_8 ?_
  obtain ⟨s7, hs7⟩ : ∃ z, z = (pI (pI (pI s6 p0 6 (gI s6 p1 6)) p0 7 (gI (pI s6 p0 6 (gI s6 p1 6)) p1 7)) p0 8 (gI (pI (pI s6 p0 6 (gI s6 p1 6)) p0 7 (gI (pI s6 p0 6 (gI s6 p1 6)) p1 7)) p1 8)) := ⟨_, rfl⟩
  replace h := h s7 hs7
  rw [← hs7]
  refine JT_aload_n (q := 0) dX6_copyFrom_114 rfl rfl ?_
  refine JT_aload_n (q := 1) dX6_copyFrom_115 rfl rfl ?_
  refine JS_getI dX6_copyFrom_116 flX6_41 (pxB hp1) (px2 hp1) (pxN hp1) (Or.inl ct_6_9) ?_
  refine JS_putI dX6_copyFrom_119 flX6_41 (pxB hp0) (px2 hp0) (pxN hp0) ct_6_9 ?_
  refine JT_aload_n (q := 0) dX6_copyFrom_122 rfl rfl ?_
  refine JT_aload_n (q := 1) dX6_copyFrom_123 rfl rfl ?_
  refine JS_getI dX6_copyFrom_124 flX6_44 (pxB hp1) (px2 hp1) (pxN hp1) (Or.inl ct_6_10) ?_
  refine JS_putI dX6_copyFrom_127 flX6_44 (pxB hp0) (px2 hp0) (pxN hp0) ct_6_10 ?_
  refine JT_aload_n (q := 0) dX6_copyFrom_130 rfl rfl ?_
  refine JT_aload_n (q := 1) dX6_copyFrom_131 rfl rfl ?_
  refine JS_getI dX6_copyFrom_132 flX6_60 (pxB hp1) (px2 hp1) (pxN hp1) (Or.inl ct_6_11) ?_
  refine JS_putI dX6_copyFrom_135 flX6_60 (pxB hp0) (px2 hp0) (pxN hp0) ct_6_11 ?_
  obtain ⟨s8, hs8⟩ : ∃ z, z = (pI (pI (pI s7 p0 9 (gI s7 p1 9)) p0 10 (gI (pI s7 p0 9 (gI s7 p1 9)) p1 10)) p0 11 (gI (pI (pI s7 p0 9 (gI s7 p1 9)) p0 10 (gI (pI s7 p0 9 (gI s7 p1 9)) p1 10)) p1 11)) := ⟨_, rfl⟩
  replace h := h s8 hs8
  rw [← hs8]
  exact JS_vret dX6_copyFrom_138 rfl h
set_option maxRecDepth 20000 in
def mX6_copyFrom (s : SM) (p0 : Nat) (p1 : Nat) : SM := ((fun (s1 : SM) => ((fun (s2 : SM) => ((fun (s3 : SM) => ((fun (s4 : SM) => ((fun (s5 : SM) => ((fun (s6 : SM) => ((fun (s7 : SM) => ((fun (s8 : SM) => s8) (pI (pI (pI s7 p0 9 (gI s7 p1 9)) p0 10 (gI (pI s7 p0 9 (gI s7 p1 9)) p1 10)) p0 11 (gI (pI (pI s7 p0 9 (gI s7 p1 9)) p0 10 (gI (pI s7 p0 9 (gI s7 p1 9)) p1 10)) p1 11)))) (pI (pI (pI s6 p0 6 (gI s6 p1 6)) p0 7 (gI (pI s6 p0 6 (gI s6 p1 6)) p1 7)) p0 8 (gI (pI (pI s6 p0 6 (gI s6 p1 6)) p0 7 (gI (pI s6 p0 6 (gI s6 p1 6)) p1 7)) p1 8)))) (cI s5 (p0 + 6) (va_cpy (gI s5 (p1 + 6)) (gI s5 (p0 + 6)) ((0 : Int32)).toNatClampNeg ((0 : Int32)).toNatClampNeg ((6 : Int32)).toNatClampNeg)))) (cI s4 (p0 + 5) (va_cpy (gI s4 (p1 + 5)) (gI s4 (p0 + 5)) ((0 : Int32)).toNatClampNeg ((0 : Int32)).toNatClampNeg ((6 : Int32)).toNatClampNeg)))) (cL s3 (p0 + 4) (va_cpy (gL s3 (p1 + 4)) (gL s3 (p0 + 4)) ((0 : Int32)).toNatClampNeg ((0 : Int32)).toNatClampNeg ((6 : Int32)).toNatClampNeg)))) (cI s2 (p0 + 3) (va_cpy (gI s2 (p1 + 3)) (gI s2 (p0 + 3)) ((0 : Int32)).toNatClampNeg ((0 : Int32)).toNatClampNeg ((9 : Int32)).toNatClampNeg)))) (cI s1 (p0 + 2) (va_cpy (gI s1 (p1 + 2)) (gI s1 (p0 + 2)) ((0 : Int32)).toNatClampNeg ((0 : Int32)).toNatClampNeg ((9 : Int32)).toNatClampNeg)))) (cL s (p0 + 1) (va_cpy (gL s (p1 + 1)) (gL s (p0 + 1)) ((0 : Int32)).toNatClampNeg ((0 : Int32)).toNatClampNeg ((9 : Int32)).toNatClampNeg)))
set_option maxRecDepth 20000 in
theorem pX6_copyFrom {p0 : Nat} (hp0 : p0 ∈ PX) {p1 : Nat} (hp1 : p1 ∈ PX) {s : SM} {Q : SM → Prop} (h : Q (mX6_copyFrom s p0 p1)) : KV MX6_copyFrom 1 [.ref p0, .ref p1] s Q := by
  refine bX6_copyFrom hp0 hp1 ?_
  unfold mX6_copyFrom at h
  intro s1 e9
  subst e9
  intro s2 e9
  subst e9
  intro s3 e9
  subst e9
  intro s4 e9
  subst e9
  intro s5 e9
  subst e9
  intro s6 e9
  subst e9
  intro s7 e9
  subst e9
  intro s8 e9
  subst e9
  first | exact h | contradiction
set_option maxRecDepth 20000 in
theorem bX6_dotOn {p0 : Nat} (hp0 : p0 ∈ PX) (a1 : Int32) {s : SM} {Q : Int32 → SM → Prop} (h : vp_in a1 6 ∧ Q (if (gI s (p0 + 5) (a1).toNatClampNeg) < (gI s p0 9) then (gI s (p0 + 5) (a1).toNatClampNeg) else (gI s p0 9)) s) : KI MX6_dotOn 1 [.ref p0, .int a1] s Q := by
  show BI MX6_dotOn 1 0 [(0, .ref p0), (1, .int a1)] s Q
  refine JT_aload_n (q := 0) dX6_dotOn_0 rfl rfl ?_
  refine JS_getI dX6_dotOn_1 flX6_41 (pxB hp0) (px2 hp0) (pxN hp0) (Or.inl ct_6_9) ?_
  refine JT_aload_n (q := 0) dX6_dotOn_4 rfl rfl ?_
  refine JS_getR (x := (p0 + 5)) dX6_dotOn_5 flX6_25 (pxB hp0) (px2 hp0) (pxN hp0) (Or.inr ⟨_, ct_6_4⟩) (pxR4 hp0) ?_
  refine JT_iload_n (q := 1) dX6_dotOn_8 rfl rfl ?_
  obtain ⟨o1, h⟩ := h
  refine JS_iald dX6_dotOn_9 (pxB5 hp0) (px2k hp0 _) (pxNk hp0 (Nat.le_of_ble_eq_true rfl)) o1 ?_
  refine JT_mmin (d2 := 0) dX6_dotOn_10 mlX6_70 (Nat.le_of_ble_eq_true rfl) rfl ?_
  exact JS_iret dX6_dotOn_13 rfl rfl h
set_option maxRecDepth 20000 in
def vX6_dotOn (s : SM) (p0 : Nat) (a1 : Int32) : Int32 := (if (gI s (p0 + 5) (a1).toNatClampNeg) < (gI s p0 9) then (gI s (p0 + 5) (a1).toNatClampNeg) else (gI s p0 9))
set_option maxRecDepth 20000 in
def rX6_dotOn (s : SM) (p0 : Nat) (a1 : Int32) : Prop := vp_in a1 6
set_option maxRecDepth 20000 in
theorem pX6_dotOn {p0 : Nat} (hp0 : p0 ∈ PX) (a1 : Int32) {s : SM} {Q : Int32 → SM → Prop} (hr : rX6_dotOn s p0 a1) (h : Q (vX6_dotOn s p0 a1) s) : KI MX6_dotOn 1 [.ref p0, .int a1] s Q := by
  refine bX6_dotOn hp0 a1 ?_
  unfold rX6_dotOn at hr
  unfold vX6_dotOn at h
  refine ⟨hr, ?_⟩
  first | exact h | contradiction
