set_option maxRecDepth 1000000 in
theorem bJ6_bitCount_0f7a4 (a0 : Int32) {s : SM} {Q : Int32 → SM → Prop} (h : Q ((((((((a0 - ((((a0).toUInt32 >>> (((1 : Int32)).toUInt32 &&& Int32.toUInt32 31)).toInt32) &&& (1431655765 : Int32))) &&& (858993459 : Int32)) + (((((a0 - ((((a0).toUInt32 >>> (((1 : Int32)).toUInt32 &&& Int32.toUInt32 31)).toInt32) &&& (1431655765 : Int32)))).toUInt32 >>> (((2 : Int32)).toUInt32 &&& Int32.toUInt32 31)).toInt32) &&& (858993459 : Int32))) + ((((((a0 - ((((a0).toUInt32 >>> (((1 : Int32)).toUInt32 &&& Int32.toUInt32 31)).toInt32) &&& (1431655765 : Int32))) &&& (858993459 : Int32)) + (((((a0 - ((((a0).toUInt32 >>> (((1 : Int32)).toUInt32 &&& Int32.toUInt32 31)).toInt32) &&& (1431655765 : Int32)))).toUInt32 >>> (((2 : Int32)).toUInt32 &&& Int32.toUInt32 31)).toInt32) &&& (858993459 : Int32)))).toUInt32 >>> (((4 : Int32)).toUInt32 &&& Int32.toUInt32 31)).toInt32)) &&& (252645135 : Int32)) + ((((((((a0 - ((((a0).toUInt32 >>> (((1 : Int32)).toUInt32 &&& Int32.toUInt32 31)).toInt32) &&& (1431655765 : Int32))) &&& (858993459 : Int32)) + (((((a0 - ((((a0).toUInt32 >>> (((1 : Int32)).toUInt32 &&& Int32.toUInt32 31)).toInt32) &&& (1431655765 : Int32)))).toUInt32 >>> (((2 : Int32)).toUInt32 &&& Int32.toUInt32 31)).toInt32) &&& (858993459 : Int32))) + ((((((a0 - ((((a0).toUInt32 >>> (((1 : Int32)).toUInt32 &&& Int32.toUInt32 31)).toInt32) &&& (1431655765 : Int32))) &&& (858993459 : Int32)) + (((((a0 - ((((a0).toUInt32 >>> (((1 : Int32)).toUInt32 &&& Int32.toUInt32 31)).toInt32) &&& (1431655765 : Int32)))).toUInt32 >>> (((2 : Int32)).toUInt32 &&& Int32.toUInt32 31)).toInt32) &&& (858993459 : Int32)))).toUInt32 >>> (((4 : Int32)).toUInt32 &&& Int32.toUInt32 31)).toInt32)) &&& (252645135 : Int32))).toUInt32 >>> (((8 : Int32)).toUInt32 &&& Int32.toUInt32 31)).toInt32)) + (((((((((a0 - ((((a0).toUInt32 >>> (((1 : Int32)).toUInt32 &&& Int32.toUInt32 31)).toInt32) &&& (1431655765 : Int32))) &&& (858993459 : Int32)) + (((((a0 - ((((a0).toUInt32 >>> (((1 : Int32)).toUInt32 &&& Int32.toUInt32 31)).toInt32) &&& (1431655765 : Int32)))).toUInt32 >>> (((2 : Int32)).toUInt32 &&& Int32.toUInt32 31)).toInt32) &&& (858993459 : Int32))) + ((((((a0 - ((((a0).toUInt32 >>> (((1 : Int32)).toUInt32 &&& Int32.toUInt32 31)).toInt32) &&& (1431655765 : Int32))) &&& (858993459 : Int32)) + (((((a0 - ((((a0).toUInt32 >>> (((1 : Int32)).toUInt32 &&& Int32.toUInt32 31)).toInt32) &&& (1431655765 : Int32)))).toUInt32 >>> (((2 : Int32)).toUInt32 &&& Int32.toUInt32 31)).toInt32) &&& (858993459 : Int32)))).toUInt32 >>> (((4 : Int32)).toUInt32 &&& Int32.toUInt32 31)).toInt32)) &&& (252645135 : Int32)) + ((((((((a0 - ((((a0).toUInt32 >>> (((1 : Int32)).toUInt32 &&& Int32.toUInt32 31)).toInt32) &&& (1431655765 : Int32))) &&& (858993459 : Int32)) + (((((a0 - ((((a0).toUInt32 >>> (((1 : Int32)).toUInt32 &&& Int32.toUInt32 31)).toInt32) &&& (1431655765 : Int32)))).toUInt32 >>> (((2 : Int32)).toUInt32 &&& Int32.toUInt32 31)).toInt32) &&& (858993459 : Int32))) + ((((((a0 - ((((a0).toUInt32 >>> (((1 : Int32)).toUInt32 &&& Int32.toUInt32 31)).toInt32) &&& (1431655765 : Int32))) &&& (858993459 : Int32)) + (((((a0 - ((((a0).toUInt32 >>> (((1 : Int32)).toUInt32 &&& Int32.toUInt32 31)).toInt32) &&& (1431655765 : Int32)))).toUInt32 >>> (((2 : Int32)).toUInt32 &&& Int32.toUInt32 31)).toInt32) &&& (858993459 : Int32)))).toUInt32 >>> (((4 : Int32)).toUInt32 &&& Int32.toUInt32 31)).toInt32)) &&& (252645135 : Int32))).toUInt32 >>> (((8 : Int32)).toUInt32 &&& Int32.toUInt32 31)).toInt32))).toUInt32 >>> (((16 : Int32)).toUInt32 &&& Int32.toUInt32 31)).toInt32)) &&& (63 : Int32)) s) : KI MJ6_bitCount_0f7a4 0 [.int a0] s Q := by
  show BI MJ6_bitCount_0f7a4 0 0 [(0, .int a0)] s Q
  refine JT_iload_n (q := 0) dJ6_bitCount_0f7a4_0 rfl rfl ?_
  refine JT_iload_n (q := 0) dJ6_bitCount_0f7a4_1 rfl rfl ?_
  refine JT_iconst (v := 1) dJ6_bitCount_0f7a4_2 ic_1 ?_
  refine JT_iushr dJ6_bitCount_0f7a4_3 ?_
  refine JT_ldcw dJ6_bitCount_0f7a4_4 kwJ6_265 ?_
  refine JT_iand dJ6_bitCount_0f7a4_7 ?_
  refine JT_isub dJ6_bitCount_0f7a4_8 ?_
  refine JT_istore_n (lv' := [(0, .int (a0 - ((((a0).toUInt32 >>> (((1 : Int32)).toUInt32 &&& Int32.toUInt32 31)).toInt32) &&& (1431655765 : Int32))))]) dJ6_bitCount_0f7a4_9 rfl (Nat.le_of_ble_eq_true rfl) rfl ?_
  refine JT_iload_n (q := 0) dJ6_bitCount_0f7a4_10 rfl rfl ?_
  refine JT_ldcw dJ6_bitCount_0f7a4_11 kwJ6_266 ?_
  refine JT_iand dJ6_bitCount_0f7a4_14 ?_
  refine JT_iload_n (q := 0) dJ6_bitCount_0f7a4_15 rfl rfl ?_
  refine JT_iconst (v := 2) dJ6_bitCount_0f7a4_16 ic_2 ?_
  refine JT_iushr dJ6_bitCount_0f7a4_17 ?_
  refine JT_ldcw dJ6_bitCount_0f7a4_18 kwJ6_266 ?_
  refine JT_iand dJ6_bitCount_0f7a4_21 ?_
  refine JT_iadd dJ6_bitCount_0f7a4_22 ?_
  refine JT_istore_n (lv' := [(0, .int (((a0 - ((((a0).toUInt32 >>> (((1 : Int32)).toUInt32 &&& Int32.toUInt32 31)).toInt32) &&& (1431655765 : Int32))) &&& (858993459 : Int32)) + (((((a0 - ((((a0).toUInt32 >>> (((1 : Int32)).toUInt32 &&& Int32.toUInt32 31)).toInt32) &&& (1431655765 : Int32)))).toUInt32 >>> (((2 : Int32)).toUInt32 &&& Int32.toUInt32 31)).toInt32) &&& (858993459 : Int32))))]) dJ6_bitCount_0f7a4_23 rfl (Nat.le_of_ble_eq_true rfl) rfl ?_
  refine JT_iload_n (q := 0) dJ6_bitCount_0f7a4_24 rfl rfl ?_
  refine JT_iload_n (q := 0) dJ6_bitCount_0f7a4_25 rfl rfl ?_
  refine JT_iconst (v := 4) dJ6_bitCount_0f7a4_26 ic_4 ?_
  refine JT_iushr dJ6_bitCount_0f7a4_27 ?_
  refine JT_iadd dJ6_bitCount_0f7a4_28 ?_
  refine JT_ldcw dJ6_bitCount_0f7a4_29 kwJ6_267 ?_
  refine JT_iand dJ6_bitCount_0f7a4_32 ?_
  refine JT_istore_n (lv' := [(0, .int (((((a0 - ((((a0).toUInt32 >>> (((1 : Int32)).toUInt32 &&& Int32.toUInt32 31)).toInt32) &&& (1431655765 : Int32))) &&& (858993459 : Int32)) + (((((a0 - ((((a0).toUInt32 >>> (((1 : Int32)).toUInt32 &&& Int32.toUInt32 31)).toInt32) &&& (1431655765 : Int32)))).toUInt32 >>> (((2 : Int32)).toUInt32 &&& Int32.toUInt32 31)).toInt32) &&& (858993459 : Int32))) + ((((((a0 - ((((a0).toUInt32 >>> (((1 : Int32)).toUInt32 &&& Int32.toUInt32 31)).toInt32) &&& (1431655765 : Int32))) &&& (858993459 : Int32)) + (((((a0 - ((((a0).toUInt32 >>> (((1 : Int32)).toUInt32 &&& Int32.toUInt32 31)).toInt32) &&& (1431655765 : Int32)))).toUInt32 >>> (((2 : Int32)).toUInt32 &&& Int32.toUInt32 31)).toInt32) &&& (858993459 : Int32)))).toUInt32 >>> (((4 : Int32)).toUInt32 &&& Int32.toUInt32 31)).toInt32)) &&& (252645135 : Int32)))]) dJ6_bitCount_0f7a4_33 rfl (Nat.le_of_ble_eq_true rfl) rfl ?_
  refine JT_iload_n (q := 0) dJ6_bitCount_0f7a4_34 rfl rfl ?_
  refine JT_iload_n (q := 0) dJ6_bitCount_0f7a4_35 rfl rfl ?_
  refine JT_bipush (v := 8) dJ6_bitCount_0f7a4_36 bp_8 ?_
  refine JT_iushr dJ6_bitCount_0f7a4_38 ?_
  refine JT_iadd dJ6_bitCount_0f7a4_39 ?_
  refine JT_istore_n (lv' := [(0, .int ((((((a0 - ((((a0).toUInt32 >>> (((1 : Int32)).toUInt32 &&& Int32.toUInt32 31)).toInt32) &&& (1431655765 : Int32))) &&& (858993459 : Int32)) + (((((a0 - ((((a0).toUInt32 >>> (((1 : Int32)).toUInt32 &&& Int32.toUInt32 31)).toInt32) &&& (1431655765 : Int32)))).toUInt32 >>> (((2 : Int32)).toUInt32 &&& Int32.toUInt32 31)).toInt32) &&& (858993459 : Int32))) + ((((((a0 - ((((a0).toUInt32 >>> (((1 : Int32)).toUInt32 &&& Int32.toUInt32 31)).toInt32) &&& (1431655765 : Int32))) &&& (858993459 : Int32)) + (((((a0 - ((((a0).toUInt32 >>> (((1 : Int32)).toUInt32 &&& Int32.toUInt32 31)).toInt32) &&& (1431655765 : Int32)))).toUInt32 >>> (((2 : Int32)).toUInt32 &&& Int32.toUInt32 31)).toInt32) &&& (858993459 : Int32)))).toUInt32 >>> (((4 : Int32)).toUInt32 &&& Int32.toUInt32 31)).toInt32)) &&& (252645135 : Int32)) + ((((((((a0 - ((((a0).toUInt32 >>> (((1 : Int32)).toUInt32 &&& Int32.toUInt32 31)).toInt32) &&& (1431655765 : Int32))) &&& (858993459 : Int32)) + (((((a0 - ((((a0).toUInt32 >>> (((1 : Int32)).toUInt32 &&& Int32.toUInt32 31)).toInt32) &&& (1431655765 : Int32)))).toUInt32 >>> (((2 : Int32)).toUInt32 &&& Int32.toUInt32 31)).toInt32) &&& (858993459 : Int32))) + ((((((a0 - ((((a0).toUInt32 >>> (((1 : Int32)).toUInt32 &&& Int32.toUInt32 31)).toInt32) &&& (1431655765 : Int32))) &&& (858993459 : Int32)) + (((((a0 - ((((a0).toUInt32 >>> (((1 : Int32)).toUInt32 &&& Int32.toUInt32 31)).toInt32) &&& (1431655765 : Int32)))).toUInt32 >>> (((2 : Int32)).toUInt32 &&& Int32.toUInt32 31)).toInt32) &&& (858993459 : Int32)))).toUInt32 >>> (((4 : Int32)).toUInt32 &&& Int32.toUInt32 31)).toInt32)) &&& (252645135 : Int32))).toUInt32 >>> (((8 : Int32)).toUInt32 &&& Int32.toUInt32 31)).toInt32)))]) dJ6_bitCount_0f7a4_40 rfl (Nat.le_of_ble_eq_true rfl) rfl ?_
  refine JT_iload_n (q := 0) dJ6_bitCount_0f7a4_41 rfl rfl ?_
  refine JT_iload_n (q := 0) dJ6_bitCount_0f7a4_42 rfl rfl ?_
  refine JT_bipush (v := 16) dJ6_bitCount_0f7a4_43 bp_16 ?_
  refine JT_iushr dJ6_bitCount_0f7a4_45 ?_
  refine JT_iadd dJ6_bitCount_0f7a4_46 ?_
  refine JT_istore_n (lv' := [(0, .int (((((((a0 - ((((a0).toUInt32 >>> (((1 : Int32)).toUInt32 &&& Int32.toUInt32 31)).toInt32) &&& (1431655765 : Int32))) &&& (858993459 : Int32)) + (((((a0 - ((((a0).toUInt32 >>> (((1 : Int32)).toUInt32 &&& Int32.toUInt32 31)).toInt32) &&& (1431655765 : Int32)))).toUInt32 >>> (((2 : Int32)).toUInt32 &&& Int32.toUInt32 31)).toInt32) &&& (858993459 : Int32))) + ((((((a0 - ((((a0).toUInt32 >>> (((1 : Int32)).toUInt32 &&& Int32.toUInt32 31)).toInt32) &&& (1431655765 : Int32))) &&& (858993459 : Int32)) + (((((a0 - ((((a0).toUInt32 >>> (((1 : Int32)).toUInt32 &&& Int32.toUInt32 31)).toInt32) &&& (1431655765 : Int32)))).toUInt32 >>> (((2 : Int32)).toUInt32 &&& Int32.toUInt32 31)).toInt32) &&& (858993459 : Int32)))).toUInt32 >>> (((4 : Int32)).toUInt32 &&& Int32.toUInt32 31)).toInt32)) &&& (252645135 : Int32)) + ((((((((a0 - ((((a0).toUInt32 >>> (((1 : Int32)).toUInt32 &&& Int32.toUInt32 31)).toInt32) &&& (1431655765 : Int32))) &&& (858993459 : Int32)) + (((((a0 - ((((a0).toUInt32 >>> (((1 : Int32)).toUInt32 &&& Int32.toUInt32 31)).toInt32) &&& (1431655765 : Int32)))).toUInt32 >>> (((2 : Int32)).toUInt32 &&& Int32.toUInt32 31)).toInt32) &&& (858993459 : Int32))) + ((((((a0 - ((((a0).toUInt32 >>> (((1 : Int32)).toUInt32 &&& Int32.toUInt32 31)).toInt32) &&& (1431655765 : Int32))) &&& (858993459 : Int32)) + (((((a0 - ((((a0).toUInt32 >>> (((1 : Int32)).toUInt32 &&& Int32.toUInt32 31)).toInt32) &&& (1431655765 : Int32)))).toUInt32 >>> (((2 : Int32)).toUInt32 &&& Int32.toUInt32 31)).toInt32) &&& (858993459 : Int32)))).toUInt32 >>> (((4 : Int32)).toUInt32 &&& Int32.toUInt32 31)).toInt32)) &&& (252645135 : Int32))).toUInt32 >>> (((8 : Int32)).toUInt32 &&& Int32.toUInt32 31)).toInt32)) + (((((((((a0 - ((((a0).toUInt32 >>> (((1 : Int32)).toUInt32 &&& Int32.toUInt32 31)).toInt32) &&& (1431655765 : Int32))) &&& (858993459 : Int32)) + (((((a0 - ((((a0).toUInt32 >>> (((1 : Int32)).toUInt32 &&& Int32.toUInt32 31)).toInt32) &&& (1431655765 : Int32)))).toUInt32 >>> (((2 : Int32)).toUInt32 &&& Int32.toUInt32 31)).toInt32) &&& (858993459 : Int32))) + ((((((a0 - ((((a0).toUInt32 >>> (((1 : Int32)).toUInt32 &&& Int32.toUInt32 31)).toInt32) &&& (1431655765 : Int32))) &&& (858993459 : Int32)) + (((((a0 - ((((a0).toUInt32 >>> (((1 : Int32)).toUInt32 &&& Int32.toUInt32 31)).toInt32) &&& (1431655765 : Int32)))).toUInt32 >>> (((2 : Int32)).toUInt32 &&& Int32.toUInt32 31)).toInt32) &&& (858993459 : Int32)))).toUInt32 >>> (((4 : Int32)).toUInt32 &&& Int32.toUInt32 31)).toInt32)) &&& (252645135 : Int32)) + ((((((((a0 - ((((a0).toUInt32 >>> (((1 : Int32)).toUInt32 &&& Int32.toUInt32 31)).toInt32) &&& (1431655765 : Int32))) &&& (858993459 : Int32)) + (((((a0 - ((((a0).toUInt32 >>> (((1 : Int32)).toUInt32 &&& Int32.toUInt32 31)).toInt32) &&& (1431655765 : Int32)))).toUInt32 >>> (((2 : Int32)).toUInt32 &&& Int32.toUInt32 31)).toInt32) &&& (858993459 : Int32))) + ((((((a0 - ((((a0).toUInt32 >>> (((1 : Int32)).toUInt32 &&& Int32.toUInt32 31)).toInt32) &&& (1431655765 : Int32))) &&& (858993459 : Int32)) + (((((a0 - ((((a0).toUInt32 >>> (((1 : Int32)).toUInt32 &&& Int32.toUInt32 31)).toInt32) &&& (1431655765 : Int32)))).toUInt32 >>> (((2 : Int32)).toUInt32 &&& Int32.toUInt32 31)).toInt32) &&& (858993459 : Int32)))).toUInt32 >>> (((4 : Int32)).toUInt32 &&& Int32.toUInt32 31)).toInt32)) &&& (252645135 : Int32))).toUInt32 >>> (((8 : Int32)).toUInt32 &&& Int32.toUInt32 31)).toInt32))).toUInt32 >>> (((16 : Int32)).toUInt32 &&& Int32.toUInt32 31)).toInt32)))]) dJ6_bitCount_0f7a4_47 rfl (Nat.le_of_ble_eq_true rfl) rfl ?_
  refine JT_iload_n (q := 0) dJ6_bitCount_0f7a4_48 rfl rfl ?_
  refine JT_bipush (v := 63) dJ6_bitCount_0f7a4_49 bp_63 ?_
  refine JT_iand dJ6_bitCount_0f7a4_51 ?_
  exact JS_iret dJ6_bitCount_0f7a4_52 rfl rfl h
set_option maxRecDepth 1000000 in
theorem pJ6_bitCount_0f7a4 (a0 : Int32) {s : SM} {Q : Int32 → SM → Prop} (h : Q (vJ6_bitCount_0f7a4 s a0) s) : KI MJ6_bitCount_0f7a4 0 [.int a0] s Q := by
  refine bJ6_bitCount_0f7a4 a0 ?_
  unfold vJ6_bitCount_0f7a4 at h
  first | exact h | contradiction
set_option maxRecDepth 1000000 in
theorem bX10_add (a1 : Int32) {s : SM} {Q : SM → Prop} (h : (((2640 : Int32) ≤ (gI s 244 0) → Q s) ∧ (¬ (2640 : Int32) ≤ (gI s 244 0) → vp_in (gI s 244 0) 2640 ∧ (∀ s2, s2 = (pI (pI s 245 ((gI s 244 0)).toNatClampNeg a1) 244 0 ((gI (pI s 245 ((gI s 244 0)).toNatClampNeg a1) 244 0) + (1 : Int32))) → Q s2)))) : KV MX10_add 0 [.ref 244, .int a1] s Q := by
  show BV MX10_add 0 0 [(0, .ref 244), (1, .int a1)] s Q
  refine JT_aload_n (q := 0) dX10_add_0 rfl rfl ?_
  refine JS_getI dX10_add_1 flX10_15 BS_244 (Nat.le_of_ble_eq_true rfl) (Nat.le_of_ble_eq_true rfl) (Or.inl ct_10_0) ?_
  refine JT_sipush (v := 2640) dX10_add_4 sp_2640 ?_
  refine JT_icmp_ge (tgt := 30) dX10_add_7 (by decide) (fun hc3 => ?_) (fun hc3 => ?_)
  · have h := h.1 hc3
    exact JS_vret dX10_add_30 rfl h
  · have h := h.2 hc3
    refine JT_aload_n (q := 0) dX10_add_10 rfl rfl ?_
    refine JS_getR (x := 245) dX10_add_11 flX10_11 BS_244 (Nat.le_of_ble_eq_true rfl) (Nat.le_of_ble_eq_true rfl) (Or.inr ⟨_, ct_10_1⟩) RF_244_1 ?_
    refine JT_aload_n (q := 0) dX10_add_14 rfl rfl ?_
    refine JS_getI dX10_add_15 flX10_15 BS_244 (Nat.le_of_ble_eq_true rfl) (Nat.le_of_ble_eq_true rfl) (Or.inl ct_10_0) ?_
    refine JT_iload_n (q := 1) dX10_add_18 rfl rfl ?_
    obtain ⟨o1, h⟩ := h
    refine JS_iast dX10_add_19 BS_245 (Nat.le_of_ble_eq_true rfl) (Nat.le_of_ble_eq_true rfl) o1 ?_
    refine JT_aload_n (q := 0) dX10_add_20 rfl rfl ?_
    refine JT_dup dX10_add_21 rfl ?_
    refine JS_getI dX10_add_22 flX10_15 BS_244 (Nat.le_of_ble_eq_true rfl) (Nat.le_of_ble_eq_true rfl) (Or.inl ct_10_0) ?_
    refine JT_iconst (v := 1) dX10_add_25 ic_1 ?_
    refine JT_iadd dX10_add_26 ?_
    refine JS_putI dX10_add_27 flX10_15 BS_244 (Nat.le_of_ble_eq_true rfl) (Nat.le_of_ble_eq_true rfl) ct_10_0 ?_
    obtain ⟨s2, hs2⟩ : ∃ z, z = (pI (pI s 245 ((gI s 244 0)).toNatClampNeg a1) 244 0 ((gI (pI s 245 ((gI s 244 0)).toNatClampNeg a1) 244 0) + (1 : Int32))) := ⟨_, rfl⟩
    replace h := h s2 hs2
    rw [← hs2]
    exact JS_vret dX10_add_30 rfl h
set_option maxRecDepth 1000000 in
theorem pX10_add (a1 : Int32) {s : SM} {Q : SM → Prop} (hr : rX10_add s a1) (h : Q (mX10_add s a1)) : KV MX10_add 0 [.ref 244, .int a1] s Q := by
  refine bX10_add a1 ?_
  unfold rX10_add at hr
  unfold mX10_add at h
  refine ⟨fun c => ?_, fun c => ?_⟩
  · replace h := q1p c h
    first | exact h | contradiction
  · replace hr := hr c
    replace h := q1n c h
    refine ⟨hr, ?_⟩
    intro s2 e9
    try rw [← e9] at h
    try dsimp only at h
    first | exact h | contradiction
set_option maxRecDepth 1000000 in
theorem bX10_at (a1 : Int32) {s : SM} {Q : Int32 → SM → Prop} (h : ((a1 < 0 → Q (-1 : Int32) s) ∧ (¬ a1 < 0 → (((gI s 244 0) ≤ a1 → Q (-1 : Int32) s) ∧ (¬ (gI s 244 0) ≤ a1 → (((2640 : Int32) ≤ a1 → Q (-1 : Int32) s) ∧ (¬ (2640 : Int32) ≤ a1 → vp_in a1 2640 ∧ Q (gI s 245 (a1).toNatClampNeg) s))))))) : KI MX10_at 0 [.ref 244, .int a1] s Q := by
  show BI MX10_at 0 0 [(0, .ref 244), (1, .int a1)] s Q
  refine JT_iload_n (q := 1) dX10_at_0 rfl rfl ?_
  refine JT_if_lt (tgt := 28) dX10_at_1 (by decide) (fun hc4 => ?_) (fun hc4 => ?_)
  · have h := h.1 hc4
    refine JT_iconst (v := -1) dX10_at_28 ic_m1 ?_
    exact JS_iret dX10_at_29 rfl rfl h
  · have h := h.2 hc4
    refine JT_iload_n (q := 1) dX10_at_4 rfl rfl ?_
    refine JT_aload_n (q := 0) dX10_at_5 rfl rfl ?_
    refine JS_getI dX10_at_6 flX10_15 BS_244 (Nat.le_of_ble_eq_true rfl) (Nat.le_of_ble_eq_true rfl) (Or.inl ct_10_0) ?_
    refine JT_icmp_ge (tgt := 28) dX10_at_9 (by decide) (fun hc3 => ?_) (fun hc3 => ?_)
    · have h := h.1 hc3
      refine JT_iconst (v := -1) dX10_at_28 ic_m1 ?_
      exact JS_iret dX10_at_29 rfl rfl h
    · have h := h.2 hc3
      refine JT_iload_n (q := 1) dX10_at_12 rfl rfl ?_
      refine JT_sipush (v := 2640) dX10_at_13 sp_2640 ?_
      refine JT_icmp_ge (tgt := 28) dX10_at_16 (by decide) (fun hc2 => ?_) (fun hc2 => ?_)
      · have h := h.1 hc2
        refine JT_iconst (v := -1) dX10_at_28 ic_m1 ?_
        exact JS_iret dX10_at_29 rfl rfl h
      · have h := h.2 hc2
        refine JT_aload_n (q := 0) dX10_at_19 rfl rfl ?_
        refine JS_getR (x := 245) dX10_at_20 flX10_11 BS_244 (Nat.le_of_ble_eq_true rfl) (Nat.le_of_ble_eq_true rfl) (Or.inr ⟨_, ct_10_1⟩) RF_244_1 ?_
        refine JT_iload_n (q := 1) dX10_at_23 rfl rfl ?_
        obtain ⟨o1, h⟩ := h
        refine JS_iald dX10_at_24 BS_245 (Nat.le_of_ble_eq_true rfl) (Nat.le_of_ble_eq_true rfl) o1 ?_
        refine JT_goto (tgt := 29) dX10_at_25 (by decide) ?_
        exact JS_iret dX10_at_29 rfl rfl h
set_option maxRecDepth 1000000 in
theorem pX10_at (a1 : Int32) {s : SM} {Q : Int32 → SM → Prop} (hr : rX10_at s a1) (h : Q (vX10_at s a1) s) : KI MX10_at 0 [.ref 244, .int a1] s Q := by
  refine bX10_at a1 ?_
  unfold rX10_at at hr
  unfold vX10_at at h
  refine ⟨fun c => ?_, fun c => ?_⟩
  · replace h := qlp c h
    first | exact h | contradiction
  · replace hr := hr c
    replace h := qln c h
    refine ⟨fun c => ?_, fun c => ?_⟩
    · replace h := qlp c h
      first | exact h | contradiction
    · replace hr := hr c
      replace h := qln c h
      refine ⟨fun c => ?_, fun c => ?_⟩
      · replace h := qlp c h
        first | exact h | contradiction
      · replace hr := hr c
        replace h := qln c h
        refine ⟨hr, ?_⟩
        first | exact h | contradiction
set_option maxRecDepth 1000000 in
theorem bX11_drawn (a0 : Int32) (a1 : Int32) {s : SM} {Q : Int32 → SM → Prop} (h : (((1 : Int32) ≤ a1 → (¬ a1 = 0) ∧ Q ((((a0).toUInt32 >>> (((8 : Int32)).toUInt32 &&& Int32.toUInt32 31)).toInt32) - (((a0).toUInt32 >>> (((8 : Int32)).toUInt32 &&& Int32.toUInt32 31)).toInt32) / a1 * a1) s) ∧ (¬ (1 : Int32) ≤ a1 → Q (0 : Int32) s))) : KI MX11_drawn 0 [.int a0, .int a1] s Q := by
  show BI MX11_drawn 0 0 [(0, .int a0), (1, .int a1)] s Q
  refine JT_iload_n (q := 1) dX11_drawn_0 rfl rfl ?_
  refine JT_iconst (v := 1) dX11_drawn_1 ic_1 ?_
  refine JT_icmp_ge (tgt := 9) dX11_drawn_2 (by decide) (fun hc2 => ?_) (fun hc2 => ?_)
  · have h := h.1 hc2
    refine JT_iload_n (q := 0) dX11_drawn_9 rfl rfl ?_
    refine JT_bipush (v := 8) dX11_drawn_10 bp_8 ?_
    refine JT_iushr dX11_drawn_12 ?_
    refine JT_iload_n (q := 1) dX11_drawn_13 rfl rfl ?_
    obtain ⟨o1, h⟩ := h
    refine JT_irem dX11_drawn_14 o1 ?_
    exact JS_iret dX11_drawn_15 rfl rfl h
  · have h := h.2 hc2
    refine JT_iconst (v := 0) dX11_drawn_5 ic_0 ?_
    refine JT_goto (tgt := 15) dX11_drawn_6 (by decide) ?_
    exact JS_iret dX11_drawn_15 rfl rfl h
set_option maxRecDepth 1000000 in
theorem pX11_drawn (a0 : Int32) (a1 : Int32) {s : SM} {Q : Int32 → SM → Prop} (hr : rX11_drawn s a0 a1) (h : Q (vX11_drawn s a0 a1) s) : KI MX11_drawn 0 [.int a0, .int a1] s Q := by
  refine bX11_drawn a0 a1 ?_
  unfold rX11_drawn at hr
  unfold vX11_drawn at h
  refine ⟨fun c => ?_, fun c => ?_⟩
  · replace hr := hr c
    replace h := qlp c h
    refine ⟨hr, ?_⟩
    first | exact h | contradiction
  · replace h := qln c h
    first | exact h | contradiction
set_option maxRecDepth 1000000 in
theorem bX11_end (a1 : Int32) {s : SM} {Q : Int32 → SM → Prop} (h : ((a1 < 0 → Q (0 : Int32) s) ∧ (¬ a1 < 0 → ((a1 ≤ (gI s 3 1) → Q (1 : Int32) (pI s 3 1 a1)) ∧ (¬ a1 ≤ (gI s 3 1) → Q (0 : Int32) s))))) : KI MX11_end 0 [.ref 2, .int a1] s Q := by
  show BI MX11_end 0 0 [(0, .ref 2), (1, .int a1)] s Q
  refine JT_iload_n (q := 1) dX11_end_0 rfl rfl ?_
  refine JT_if_lt (tgt := 15) dX11_end_1 (by decide) (fun hc2 => ?_) (fun hc2 => ?_)
  · have h := h.1 hc2
    refine JT_iconst (v := 0) dX11_end_15 ic_0 ?_
    exact JS_iret dX11_end_16 rfl (n01 (Or.inl rfl)) h
  · have h := h.2 hc2
    refine JT_iload_n (q := 1) dX11_end_4 rfl rfl ?_
    refine JT_aload_n (q := 0) dX11_end_5 rfl rfl ?_
    refine JS_getR (x := 3) dX11_end_6 flX11_10 BS_2 (Nat.le_of_ble_eq_true rfl) (Nat.le_of_ble_eq_true rfl) (Or.inl ⟨_, ct_11_0⟩) RF_2_0 ?_
    refine JS_getI dX11_end_9 flX11_104 BS_3 (Nat.le_of_ble_eq_true rfl) (Nat.le_of_ble_eq_true rfl) (Or.inl ct_9_1) ?_
    refine JT_icmp_le (tgt := 17) dX11_end_12 (by decide) (fun hc1 => ?_) (fun hc1 => ?_)
    · have h := h.1 hc1
      refine JT_aload_n (q := 0) dX11_end_17 rfl rfl ?_
      refine JS_getR (x := 3) dX11_end_18 flX11_10 BS_2 (Nat.le_of_ble_eq_true rfl) (Nat.le_of_ble_eq_true rfl) (Or.inl ⟨_, ct_11_0⟩) RF_2_0 ?_
      refine JT_iload_n (q := 1) dX11_end_21 rfl rfl ?_
      refine JS_putI dX11_end_22 flX11_104 BS_3 (Nat.le_of_ble_eq_true rfl) (Nat.le_of_ble_eq_true rfl) ct_9_1 ?_
      refine JT_iconst (v := 1) dX11_end_25 ic_1 ?_
      exact JS_iret dX11_end_26 rfl (n01 (Or.inr rfl)) h
    · have h := h.2 hc1
      refine JT_iconst (v := 0) dX11_end_15 ic_0 ?_
      exact JS_iret dX11_end_16 rfl (n01 (Or.inl rfl)) h
set_option maxRecDepth 1000000 in
theorem zX11_end (s : SM) (a1 : Int32) : vX11_end s a1 = 0 ∨ vX11_end s a1 = 1 := (i01 (Or.inl rfl) (i01 (Or.inr rfl) (Or.inl rfl)))
set_option maxRecDepth 1000000 in
theorem pX11_end (a1 : Int32) {s : SM} {Q : Int32 → SM → Prop} (h : Q (vX11_end s a1) (mX11_end s a1)) : KI MX11_end 0 [.ref 2, .int a1] s Q := by
  refine bX11_end a1 ?_
  unfold vX11_end mX11_end at h
  refine ⟨fun c => ?_, fun c => ?_⟩
  · replace h := q2p c h
    first | exact h | contradiction
  · replace h := q2n c h
    refine ⟨fun c => ?_, fun c => ?_⟩
    · replace h := q2p c h
      first | exact h | contradiction
    · replace h := q2n c h
      first | exact h | contradiction
set_option maxRecDepth 1000000 in
theorem bX11_fault  {s : SM} {Q : Int32 → SM → Prop} (h : Q (gI s 2 18) s) : KI MX11_fault 0 [.ref 2] s Q := by
  show BI MX11_fault 0 0 [(0, .ref 2)] s Q
  refine JT_aload_n (q := 0) dX11_fault_0 rfl rfl ?_
  refine JS_getI dX11_fault_1 flX11_119 BS_2 (Nat.le_of_ble_eq_true rfl) (Nat.le_of_ble_eq_true rfl) (Or.inl ct_11_18) ?_
  exact JS_iret dX11_fault_4 rfl rfl h
set_option maxRecDepth 1000000 in
theorem pX11_fault  {s : SM} {Q : Int32 → SM → Prop} (h : Q (vX11_fault s ) s) : KI MX11_fault 0 [.ref 2] s Q := by
  refine bX11_fault  ?_
  unfold vX11_fault at h
  first | exact h | contradiction
set_option maxRecDepth 1000000 in
theorem bX11_isIn (a0 : Int32) (a1 : Int32) {s : SM} {Q : Int32 → SM → Prop} (h : Q (if ((a1 >>> (a0 &&& 31)) &&& (1 : Int32)) = (1 : Int32) then (1 : Int32) else (0 : Int32)) s) : KI MX11_isIn 0 [.int a0, .int a1] s Q := by
  show BI MX11_isIn 0 0 [(0, .int a0), (1, .int a1)] s Q
  refine JT_iload_n (q := 1) dX11_isIn_0 rfl rfl ?_
  refine JT_iload_n (q := 0) dX11_isIn_1 rfl rfl ?_
  refine JT_ishr dX11_isIn_2 ?_
  refine JT_iconst (v := 1) dX11_isIn_3 ic_1 ?_
  refine JT_iand dX11_isIn_4 ?_
  refine JT_iconst (v := 1) dX11_isIn_5 ic_1 ?_
  have hj1 : ∀ v : Int32, v = (if ((a1 >>> (a0 &&& 31)) &&& (1 : Int32)) = (1 : Int32) then (1 : Int32) else (0 : Int32)) → JT MX11_isIn 0 0 0 14 [(0, .int a0), (1, .int a1)] [.int v] (std s) (KQ Q) := by
    intro v hv
    subst hv
    exact JS_iret dX11_isIn_14 rfl (n01 (i01 (Or.inr rfl) (Or.inl rfl))) h
  refine JT_icmp_ne (tgt := 13) dX11_isIn_6 (by decide) (fun hc2 => ?_) (fun hc2 => ?_)
  · refine JT_iconst (v := 0) dX11_isIn_13 ic_0 ?_
    exact hj1 _ (by rw [if_neg hc2])
  · refine JT_iconst (v := 1) dX11_isIn_9 ic_1 ?_
    refine JT_goto (tgt := 14) dX11_isIn_10 (by decide) ?_
    exact hj1 _ (by rw [if_pos hc2])
set_option maxRecDepth 1000000 in
theorem zX11_isIn (s : SM) (a0 : Int32) (a1 : Int32) : vX11_isIn s a0 a1 = 0 ∨ vX11_isIn s a0 a1 = 1 := (i01 (Or.inr rfl) (Or.inl rfl))
set_option maxRecDepth 1000000 in
theorem pX11_isIn (a0 : Int32) (a1 : Int32) {s : SM} {Q : Int32 → SM → Prop} (h : Q (vX11_isIn s a0 a1) s) : KI MX11_isIn 0 [.int a0, .int a1] s Q := by
  refine bX11_isIn a0 a1 ?_
  unfold vX11_isIn at h
  first | exact h | contradiction
set_option maxRecDepth 1000000 in
theorem bX11_isSide (a0 : Int32) {s : SM} {Q : Int32 → SM → Prop} (h : Q (if a0 = 0 then (1 : Int32) else (if a0 = (1 : Int32) then (1 : Int32) else (0 : Int32))) s) : KI MX11_isSide 0 [.int a0] s Q := by
  show BI MX11_isSide 0 0 [(0, .int a0)] s Q
  refine JT_iload_n (q := 0) dX11_isSide_0 rfl rfl ?_
  have hj1 : ∀ v : Int32, v = (if a0 = 0 then (1 : Int32) else (if a0 = (1 : Int32) then (1 : Int32) else (0 : Int32))) → JT MX11_isSide 0 0 0 14 [(0, .int a0)] [.int v] (std s) (KQ Q) := by
    intro v hv
    subst hv
    exact JS_iret dX11_isSide_14 rfl (n01 (i01 (Or.inr rfl) (i01 (Or.inr rfl) (Or.inl rfl)))) h
  refine JT_if_eq (tgt := 9) dX11_isSide_1 (by decide) (fun hc2 => ?_) (fun hc2 => ?_)
  · refine JT_iconst (v := 1) dX11_isSide_9 ic_1 ?_
    refine JT_goto (tgt := 14) dX11_isSide_10 (by decide) ?_
    exact hj1 _ (by rw [if_pos hc2])
  · refine JT_iload_n (q := 0) dX11_isSide_4 rfl rfl ?_
    refine JT_iconst (v := 1) dX11_isSide_5 ic_1 ?_
    refine JT_icmp_ne (tgt := 13) dX11_isSide_6 (by decide) (fun hc3 => ?_) (fun hc3 => ?_)
    · refine JT_iconst (v := 0) dX11_isSide_13 ic_0 ?_
      exact hj1 _ (by rw [if_neg hc2, if_neg hc3])
    · refine JT_iconst (v := 1) dX11_isSide_9 ic_1 ?_
      refine JT_goto (tgt := 14) dX11_isSide_10 (by decide) ?_
      exact hj1 _ (by rw [if_neg hc2, if_pos hc3])
set_option maxRecDepth 1000000 in
theorem zX11_isSide (s : SM) (a0 : Int32) : vX11_isSide s a0 = 0 ∨ vX11_isSide s a0 = 1 := (i01 (Or.inr rfl) (i01 (Or.inr rfl) (Or.inl rfl)))
set_option maxRecDepth 1000000 in
theorem pX11_isSide (a0 : Int32) {s : SM} {Q : Int32 → SM → Prop} (h : Q (vX11_isSide s a0) s) : KI MX11_isSide 0 [.int a0] s Q := by
  refine bX11_isSide a0 ?_
  unfold vX11_isSide at h
  first | exact h | contradiction
set_option maxRecDepth 1000000 in
theorem bX11_isYear (a0 : Int32) {s : SM} {Q : Int32 → SM → Prop} (h : Q (if a0 < 0 then (0 : Int32) else (if (99 : Int32) < a0 then (0 : Int32) else (1 : Int32))) s) : KI MX11_isYear 0 [.int a0] s Q := by
  show BI MX11_isYear 0 0 [(0, .int a0)] s Q
  refine JT_iload_n (q := 0) dX11_isYear_0 rfl rfl ?_
  have hj1 : ∀ v : Int32, v = (if a0 < 0 then (0 : Int32) else (if (99 : Int32) < a0 then (0 : Int32) else (1 : Int32))) → JT MX11_isYear 0 0 0 15 [(0, .int a0)] [.int v] (std s) (KQ Q) := by
    intro v hv
    subst hv
    exact JS_iret dX11_isYear_15 rfl (n01 (i01 (Or.inl rfl) (i01 (Or.inl rfl) (Or.inr rfl)))) h
  refine JT_if_lt (tgt := 14) dX11_isYear_1 (by decide) (fun hc2 => ?_) (fun hc2 => ?_)
  · refine JT_iconst (v := 0) dX11_isYear_14 ic_0 ?_
    exact hj1 _ (by rw [if_pos hc2])
  · refine JT_iload_n (q := 0) dX11_isYear_4 rfl rfl ?_
    refine JT_bipush (v := 99) dX11_isYear_5 bp_99 ?_
    refine JT_icmp_gt (tgt := 14) dX11_isYear_7 (by decide) (fun hc3 => ?_) (fun hc3 => ?_)
    · refine JT_iconst (v := 0) dX11_isYear_14 ic_0 ?_
      exact hj1 _ (by rw [if_neg hc2, if_pos hc3])
    · refine JT_iconst (v := 1) dX11_isYear_10 ic_1 ?_
      refine JT_goto (tgt := 15) dX11_isYear_11 (by decide) ?_
      exact hj1 _ (by rw [if_neg hc2, if_neg hc3])
set_option maxRecDepth 1000000 in
theorem zX11_isYear (s : SM) (a0 : Int32) : vX11_isYear s a0 = 0 ∨ vX11_isYear s a0 = 1 := (i01 (Or.inl rfl) (i01 (Or.inl rfl) (Or.inr rfl)))
set_option maxRecDepth 1000000 in
theorem pX11_isYear (a0 : Int32) {s : SM} {Q : Int32 → SM → Prop} (h : Q (vX11_isYear s a0) s) : KI MX11_isYear 0 [.int a0] s Q := by
  refine bX11_isYear a0 ?_
  unfold vX11_isYear at h
  first | exact h | contradiction
set_option maxRecDepth 1000000 in
theorem bX11_judged (a1 : Int32) {s : SM} {Q : Int32 → SM → Prop} (h : (((gI s 2 17) = 0 → Q (-1 : Int32) s) ∧ (¬ (gI s 2 17) = 0 → ((a1 < 0 → Q (-1 : Int32) s) ∧ (¬ a1 < 0 → (((5 : Int32) ≤ a1 → Q (-1 : Int32) s) ∧ (¬ (5 : Int32) ≤ a1 → vp_in a1 5 ∧ Q (gI s 247 (a1).toNatClampNeg) s))))))) : KI MX11_judged 0 [.ref 2, .int a1] s Q := by
  show BI MX11_judged 0 0 [(0, .ref 2), (1, .int a1)] s Q
  refine JT_aload_n (q := 0) dX11_judged_0 rfl rfl ?_
  refine JS_getI dX11_judged_1 flX11_364 BS_2 (Nat.le_of_ble_eq_true rfl) (Nat.le_of_ble_eq_true rfl) (Or.inr ct_11_17) ?_
  refine JT_if_eq (tgt := 29) dX11_judged_4 (by decide) (fun hc4 => ?_) (fun hc4 => ?_)
  · have h := h.1 hc4
    refine JT_iconst (v := -1) dX11_judged_29 ic_m1 ?_
    exact JS_iret dX11_judged_30 rfl rfl h
  · have h := h.2 hc4
    refine JT_iload_n (q := 1) dX11_judged_7 rfl rfl ?_
    refine JT_if_lt (tgt := 29) dX11_judged_8 (by decide) (fun hc3 => ?_) (fun hc3 => ?_)
    · have h := h.1 hc3
      refine JT_iconst (v := -1) dX11_judged_29 ic_m1 ?_
      exact JS_iret dX11_judged_30 rfl rfl h
    · have h := h.2 hc3
      refine JT_iload_n (q := 1) dX11_judged_11 rfl rfl ?_
      refine JT_aload_n (q := 0) dX11_judged_12 rfl rfl ?_
      refine JS_getR (x := 247) dX11_judged_13 flX11_101 BS_2 (Nat.le_of_ble_eq_true rfl) (Nat.le_of_ble_eq_true rfl) (Or.inr ⟨_, ct_11_16⟩) RF_2_16 ?_
      refine JT_alen (v := 5) dX11_judged_16 BS_247 (Nat.le_of_ble_eq_true rfl) (Nat.le_of_ble_eq_true rfl) (by decide) ?_
      refine JT_icmp_ge (tgt := 29) dX11_judged_17 (by decide) (fun hc2 => ?_) (fun hc2 => ?_)
      · have h := h.1 hc2
        refine JT_iconst (v := -1) dX11_judged_29 ic_m1 ?_
        exact JS_iret dX11_judged_30 rfl rfl h
      · have h := h.2 hc2
        refine JT_aload_n (q := 0) dX11_judged_20 rfl rfl ?_
        refine JS_getR (x := 247) dX11_judged_21 flX11_101 BS_2 (Nat.le_of_ble_eq_true rfl) (Nat.le_of_ble_eq_true rfl) (Or.inr ⟨_, ct_11_16⟩) RF_2_16 ?_
        refine JT_iload_n (q := 1) dX11_judged_24 rfl rfl ?_
        obtain ⟨o1, h⟩ := h
        refine JS_iald dX11_judged_25 BS_247 (Nat.le_of_ble_eq_true rfl) (Nat.le_of_ble_eq_true rfl) o1 ?_
        refine JT_goto (tgt := 30) dX11_judged_26 (by decide) ?_
        exact JS_iret dX11_judged_30 rfl rfl h
set_option maxRecDepth 1000000 in
theorem pX11_judged (a1 : Int32) {s : SM} {Q : Int32 → SM → Prop} (hr : rX11_judged s a1) (h : Q (vX11_judged s a1) s) : KI MX11_judged 0 [.ref 2, .int a1] s Q := by
  refine bX11_judged a1 ?_
  unfold rX11_judged at hr
  unfold vX11_judged at h
  refine ⟨fun c => ?_, fun c => ?_⟩
  · replace h := qlp c h
    first | exact h | contradiction
  · replace hr := hr c
    replace h := qln c h
    refine ⟨fun c => ?_, fun c => ?_⟩
    · replace h := qlp c h
      first | exact h | contradiction
    · replace hr := hr c
      replace h := qln c h
      refine ⟨fun c => ?_, fun c => ?_⟩
      · replace h := qlp c h
        first | exact h | contradiction
      · replace hr := hr c
        replace h := qln c h
        refine ⟨hr, ?_⟩
        first | exact h | contradiction
set_option maxRecDepth 1000000 in
theorem bX11_nextSeed (a0 : Int32) {s : SM} {Q : Int32 → SM → Prop} (h : Q ((a0 * (1103515245 : Int32)) + (12345 : Int32)) s) : KI MX11_nextSeed 0 [.int a0] s Q := by
  show BI MX11_nextSeed 0 0 [(0, .int a0)] s Q
  refine JT_iload_n (q := 0) dX11_nextSeed_0 rfl rfl ?_
  refine JT_ldcw dX11_nextSeed_1 kwX11_380 ?_
  refine JT_imul dX11_nextSeed_4 ?_
  refine JT_sipush (v := 12345) dX11_nextSeed_5 sp_12345 ?_
  refine JT_iadd dX11_nextSeed_8 ?_
  exact JS_iret dX11_nextSeed_9 rfl rfl h
set_option maxRecDepth 1000000 in
theorem pX11_nextSeed (a0 : Int32) {s : SM} {Q : Int32 → SM → Prop} (h : Q (vX11_nextSeed s a0) s) : KI MX11_nextSeed 0 [.int a0] s Q := by
  refine bX11_nextSeed a0 ?_
  unfold vX11_nextSeed at h
  first | exact h | contradiction
set_option maxRecDepth 1000000 in
theorem bX11_ringAt (a1 : Int32) {s : SM} {Q : Int32 → SM → Prop} (h : ((a1 < 0 → Q (-1 : Int32) s) ∧ (¬ a1 < 0 → (((gI s 2 15) ≤ a1 → Q (-1 : Int32) s) ∧ (¬ (gI s 2 15) ≤ a1 → (((5 : Int32) ≤ a1 → Q (-1 : Int32) s) ∧ (¬ (5 : Int32) ≤ a1 → vp_in a1 5 ∧ Q (gI s 246 (a1).toNatClampNeg) s))))))) : KI MX11_ringAt 0 [.ref 2, .int a1] s Q := by
  show BI MX11_ringAt 0 0 [(0, .ref 2), (1, .int a1)] s Q
  refine JT_iload_n (q := 1) dX11_ringAt_0 rfl rfl ?_
  refine JT_if_lt (tgt := 26) dX11_ringAt_1 (by decide) (fun hc4 => ?_) (fun hc4 => ?_)
  · have h := h.1 hc4
    refine JT_iconst (v := -1) dX11_ringAt_26 ic_m1 ?_
    exact JS_iret dX11_ringAt_27 rfl rfl h
  · have h := h.2 hc4
    refine JT_iload_n (q := 1) dX11_ringAt_4 rfl rfl ?_
    refine JT_aload_n (q := 0) dX11_ringAt_5 rfl rfl ?_
    refine JS_getI dX11_ringAt_6 flX11_341 BS_2 (Nat.le_of_ble_eq_true rfl) (Nat.le_of_ble_eq_true rfl) (Or.inl ct_11_15) ?_
    refine JT_icmp_ge (tgt := 26) dX11_ringAt_9 (by decide) (fun hc3 => ?_) (fun hc3 => ?_)
    · have h := h.1 hc3
      refine JT_iconst (v := -1) dX11_ringAt_26 ic_m1 ?_
      exact JS_iret dX11_ringAt_27 rfl rfl h
    · have h := h.2 hc3
      refine JT_iload_n (q := 1) dX11_ringAt_12 rfl rfl ?_
      refine JT_iconst (v := 5) dX11_ringAt_13 ic_5 ?_
      refine JT_icmp_ge (tgt := 26) dX11_ringAt_14 (by decide) (fun hc2 => ?_) (fun hc2 => ?_)
      · have h := h.1 hc2
        refine JT_iconst (v := -1) dX11_ringAt_26 ic_m1 ?_
        exact JS_iret dX11_ringAt_27 rfl rfl h
      · have h := h.2 hc2
        refine JT_aload_n (q := 0) dX11_ringAt_17 rfl rfl ?_
        refine JS_getR (x := 246) dX11_ringAt_18 flX11_97 BS_2 (Nat.le_of_ble_eq_true rfl) (Nat.le_of_ble_eq_true rfl) (Or.inr ⟨_, ct_11_14⟩) RF_2_14 ?_
        refine JT_iload_n (q := 1) dX11_ringAt_21 rfl rfl ?_
        obtain ⟨o1, h⟩ := h
        refine JS_iald dX11_ringAt_22 BS_246 (Nat.le_of_ble_eq_true rfl) (Nat.le_of_ble_eq_true rfl) o1 ?_
        refine JT_goto (tgt := 27) dX11_ringAt_23 (by decide) ?_
        exact JS_iret dX11_ringAt_27 rfl rfl h
set_option maxRecDepth 1000000 in
theorem pX11_ringAt (a1 : Int32) {s : SM} {Q : Int32 → SM → Prop} (hr : rX11_ringAt s a1) (h : Q (vX11_ringAt s a1) s) : KI MX11_ringAt 0 [.ref 2, .int a1] s Q := by
  refine bX11_ringAt a1 ?_
  unfold rX11_ringAt at hr
  unfold vX11_ringAt at h
  refine ⟨fun c => ?_, fun c => ?_⟩
  · replace h := qlp c h
    first | exact h | contradiction
  · replace hr := hr c
    replace h := qln c h
    refine ⟨fun c => ?_, fun c => ?_⟩
    · replace h := qlp c h
      first | exact h | contradiction
    · replace hr := hr c
      replace h := qln c h
      refine ⟨fun c => ?_, fun c => ?_⟩
      · replace h := qlp c h
        first | exact h | contradiction
      · replace hr := hr c
        replace h := qln c h
        refine ⟨hr, ?_⟩
        first | exact h | contradiction
set_option maxRecDepth 1000000 in
theorem bX12_backAll_2 (a1 : Int32) {s : SM} {Q : SM → Prop} (h : (((552 : Int32) ≤ a1 → Q s) ∧ (¬ (552 : Int32) ≤ a1 → vp_in a1 552 ∧ vp_in ((34 : Int32) + a1) 787 ∧ BV MX12_backAll 0 2 [(0, .ref 248), (1, .int (a1 + 1))] (pI s 250 (((34 : Int32) + a1)).toNatClampNeg (gI s 259 (a1).toNatClampNeg)) Q))) : BV MX12_backAll 0 2 [(0, .ref 248), (1, .int a1)] s Q := by
  refine JT_iload_n (q := 1) dX12_backAll_2 rfl rfl ?_
  refine JT_sipush (v := 552) dX12_backAll_3 sp_552 ?_
  refine JT_icmp_ge (tgt := 30) dX12_backAll_6 (by decide) (fun hc3 => ?_) (fun hc3 => ?_)
  · have h := h.1 hc3
    exact JS_vret dX12_backAll_30 rfl h
  · have h := h.2 hc3
    refine JT_aload_n (q := 0) dX12_backAll_9 rfl rfl ?_
    refine JS_getR (x := 250) dX12_backAll_10 flX12_33 BS_248 (Nat.le_of_ble_eq_true rfl) (Nat.le_of_ble_eq_true rfl) (Or.inr ⟨_, ct_12_6⟩) RF_248_6 ?_
    refine JT_bipush (v := 34) dX12_backAll_13 bp_34 ?_
    refine JT_iload_n (q := 1) dX12_backAll_15 rfl rfl ?_
    refine JT_iadd dX12_backAll_16 ?_
    refine JT_aload_n (q := 0) dX12_backAll_17 rfl rfl ?_
    refine JS_getR (x := 259) dX12_backAll_18 flX12_62 BS_248 (Nat.le_of_ble_eq_true rfl) (Nat.le_of_ble_eq_true rfl) (Or.inr ⟨_, ct_12_31⟩) RF_248_31 ?_
    refine JT_iload_n (q := 1) dX12_backAll_21 rfl rfl ?_
    obtain ⟨o1, h⟩ := h
    refine JS_iald dX12_backAll_22 BS_259 (Nat.le_of_ble_eq_true rfl) (Nat.le_of_ble_eq_true rfl) o1 ?_
    obtain ⟨o2, h⟩ := h
    refine JS_iast dX12_backAll_23 BS_250 (Nat.le_of_ble_eq_true rfl) (Nat.le_of_ble_eq_true rfl) o2 ?_
    refine JT_iinc (q := 1) (v := (a1 + 1)) (lv' := [(1, .int (a1 + 1)), (0, .ref 248)]) dX12_backAll_24 rfl (by rfl) (Nat.le_of_ble_eq_true rfl) rfl ?_
    refine JT_goto (tgt := 2) dX12_backAll_27 (by decide) ?_
    exact JT_sub [1, 0] rfl h
set_option maxRecDepth 1000000 in
theorem bX12_backAll  {s : SM} {Q : SM → Prop} (h : BV MX12_backAll 0 2 [(0, .ref 248), (1, .int (0 : Int32))] s Q) : KV MX12_backAll 0 [.ref 248] s Q := by
  show BV MX12_backAll 0 0 [(0, .ref 248)] s Q
  refine JT_iconst (v := 0) dX12_backAll_0 ic_0 ?_
  refine JT_istore_n (lv' := [(1, .int (0 : Int32)), (0, .ref 248)]) dX12_backAll_1 rfl (Nat.le_of_ble_eq_true rfl) rfl ?_
  exact JT_sub [1, 0] rfl h
set_option maxRecDepth 1000000 in
theorem gX12_backAll  : ∀ n : Nat, (∀ (a1 : Int32) (s : SM) (Q : SM → Prop), ((qX12_backAll n) s a1) → Q ((lX12_backAll n) s a1) → BV MX12_backAll 0 2 [(0, .ref 248), (1, .int a1)] s Q) := by
  intro n
  induction n with
  | zero => exact fun _ _ _ hq _ => absurd hq id
  | succ n ih =>
    intro a1 s Q hr h
    replace hr : uX12_backAll_2 (qX12_backAll n) s a1 := hr
    replace h : Q (tX12_backAll_2 (lX12_backAll n) s a1) := h
    unfold uX12_backAll_2 at hr
    unfold tX12_backAll_2 at h
    refine bX12_backAll_2 a1 ?_
    refine ⟨fun c => ?_, fun c => ?_⟩
    · replace h := q1p c h
      first | exact h | contradiction
    · replace hr := hr c
      replace h := q1n c h
      refine ⟨hr.1, ?_⟩
      replace hr := hr.2
      refine ⟨hr.1, ?_⟩
      replace hr := hr.2
      first | exact ih (a1 + 1) _ Q hr h | contradiction
set_option maxRecDepth 1000000 in
theorem pX12_backAll  {s : SM} {Q : SM → Prop} (hr : rX12_backAll s ) (h : Q (mX12_backAll s )) : KV MX12_backAll 0 [.ref 248] s Q := by
  replace h : Q (fX12_backAll s ) := h
  unfold rX12_backAll at hr
  unfold fX12_backAll at h
  refine bX12_backAll  ?_
  first | exact (gX12_backAll  FU) (0 : Int32) _ Q hr h | contradiction
set_option maxRecDepth 1000000 in
theorem bX12_bad (a1 : Int32) {s : SM} {Q : Int32 → SM → Prop} (h : Q (0 : Int32) (pI (pI s 248 15 a1) 248 16 (gI (pI s 248 15 a1) 248 12))) : KI MX12_bad 0 [.ref 248, .int a1] s Q := by
  show BI MX12_bad 0 0 [(0, .ref 248), (1, .int a1)] s Q
  refine JT_aload_n (q := 0) dX12_bad_0 rfl rfl ?_
  refine JT_iload_n (q := 1) dX12_bad_1 rfl rfl ?_
  refine JS_putI dX12_bad_2 flX12_187 BS_248 (Nat.le_of_ble_eq_true rfl) (Nat.le_of_ble_eq_true rfl) ct_12_15 ?_
  refine JT_aload_n (q := 0) dX12_bad_5 rfl rfl ?_
  refine JT_aload_n (q := 0) dX12_bad_6 rfl rfl ?_
  refine JS_getI dX12_bad_7 flX12_164 BS_248 (Nat.le_of_ble_eq_true rfl) (Nat.le_of_ble_eq_true rfl) (Or.inl ct_12_12) ?_
  refine JS_putI dX12_bad_10 flX12_190 BS_248 (Nat.le_of_ble_eq_true rfl) (Nat.le_of_ble_eq_true rfl) ct_12_16 ?_
  refine JT_iconst (v := 0) dX12_bad_13 ic_0 ?_
  exact JS_iret dX12_bad_14 rfl (n01 (Or.inl rfl)) h
set_option maxRecDepth 1000000 in
theorem zX12_bad (s : SM) (a1 : Int32) : vX12_bad s a1 = 0 ∨ vX12_bad s a1 = 1 := (Or.inl rfl)
set_option maxRecDepth 1000000 in
theorem pX12_bad (a1 : Int32) {s : SM} {Q : Int32 → SM → Prop} (h : Q (vX12_bad s a1) (mX12_bad s a1)) : KI MX12_bad 0 [.ref 248, .int a1] s Q := by
  refine bX12_bad a1 ?_
  unfold vX12_bad mX12_bad at h
  first | exact h | contradiction
set_option maxRecDepth 1000000 in
theorem bX12_bits_4 (a0 : Int32) (a1 : Int32) (a2 : Int32) {s : SM} {Q : Int32 → SM → Prop} (h : ((a2 = 0 → Q a1 s) ∧ (¬ a2 = 0 → BI MX12_bits 0 4 [(0, .int a0), (1, .int (a1 + 1)), (2, .int (a2 &&& (a2 - (1 : Int32))))] s Q))) : BI MX12_bits 0 4 [(0, .int a0), (1, .int a1), (2, .int a2)] s Q := by
  refine JT_iload_n (q := 2) dX12_bits_4 rfl rfl ?_
  refine JT_if_eq (tgt := 20) dX12_bits_5 (by decide) (fun hc1 => ?_) (fun hc1 => ?_)
  · have h := h.1 hc1
    refine JT_iload_n (q := 1) dX12_bits_20 rfl rfl ?_
    exact JS_iret dX12_bits_21 rfl rfl h
  · have h := h.2 hc1
    refine JT_iinc (q := 1) (v := (a1 + 1)) (lv' := [(1, .int (a1 + 1)), (0, .int a0), (2, .int a2)]) dX12_bits_8 rfl (by rfl) (Nat.le_of_ble_eq_true rfl) rfl ?_
    refine JT_iload_n (q := 2) dX12_bits_11 rfl rfl ?_
    refine JT_iload_n (q := 2) dX12_bits_12 rfl rfl ?_
    refine JT_iconst (v := 1) dX12_bits_13 ic_1 ?_
    refine JT_isub dX12_bits_14 ?_
    refine JT_iand dX12_bits_15 ?_
    refine JT_istore_n (lv' := [(2, .int (a2 &&& (a2 - (1 : Int32)))), (1, .int (a1 + 1)), (0, .int a0)]) dX12_bits_16 rfl (Nat.le_of_ble_eq_true rfl) rfl ?_
    refine JT_goto (tgt := 4) dX12_bits_17 (by decide) ?_
    exact JT_sub [2, 1, 0] rfl h
set_option maxRecDepth 1000000 in
theorem bX12_bits (a0 : Int32) {s : SM} {Q : Int32 → SM → Prop} (h : BI MX12_bits 0 4 [(0, .int a0), (1, .int (0 : Int32)), (2, .int a0)] s Q) : KI MX12_bits 0 [.int a0] s Q := by
  show BI MX12_bits 0 0 [(0, .int a0)] s Q
  refine JT_iconst (v := 0) dX12_bits_0 ic_0 ?_
  refine JT_istore_n (lv' := [(1, .int (0 : Int32)), (0, .int a0)]) dX12_bits_1 rfl (Nat.le_of_ble_eq_true rfl) rfl ?_
  refine JT_iload_n (q := 1) dX12_bits_2 rfl rfl ?_
  refine JT_istore_n (lv' := [(2, .int a0), (1, .int (0 : Int32)), (0, .int a0)]) dX12_bits_3 rfl (Nat.le_of_ble_eq_true rfl) rfl ?_
  exact JT_sub [2, 1, 0] rfl h
set_option maxRecDepth 1000000 in
theorem gX12_bits  : ∀ n : Nat, (∀ (a0 : Int32) (a1 : Int32) (a2 : Int32) (s : SM) (Q : Int32 → SM → Prop), ((qX12_bits n) s a0 a1 a2) → Q ((lX12_bits n) s a0 a1 a2) s → BI MX12_bits 0 4 [(0, .int a0), (1, .int a1), (2, .int a2)] s Q) := by
  intro n
  induction n with
  | zero => exact fun _ _ _ _ _ hq _ => absurd hq id
  | succ n ih =>
    intro a0 a1 a2 s Q hr h
    replace hr : uX12_bits_4 (qX12_bits n) s a0 a1 a2 := hr
    replace h : Q (tX12_bits_4 (lX12_bits n) s a0 a1 a2) s := h
    unfold uX12_bits_4 at hr
    unfold tX12_bits_4 at h
    refine bX12_bits_4 a0 a1 a2 ?_
    refine ⟨fun c => ?_, fun c => ?_⟩
    · replace h := qlp c h
      first | exact h | contradiction
    · replace hr := hr c
      replace h := qln c h
      first | exact ih a0 (a1 + 1) (a2 &&& (a2 - (1 : Int32))) _ Q hr h | contradiction
set_option maxRecDepth 1000000 in
theorem pX12_bits (a0 : Int32) {s : SM} {Q : Int32 → SM → Prop} (hr : rX12_bits s a0) (h : Q (vX12_bits s a0) s) : KI MX12_bits 0 [.int a0] s Q := by
  replace h : Q (fX12_bits s a0) s := h
  unfold rX12_bits at hr
  unfold fX12_bits at h
  refine bX12_bits a0 ?_
  first | exact (gX12_bits  FU) a0 (0 : Int32) a0 _ Q hr h | contradiction
set_option maxRecDepth 1000000 in
theorem bX12_draw (a1 : Int32) {s : SM} {Q : Int32 → SM → Prop} (h : (¬ a1 = 0) ∧ Q (((((gI (pI s 248 54 (((gI s 248 54) * (1103515245 : Int32)) + (12345 : Int32))) 248 54)).toUInt32 >>> (((8 : Int32)).toUInt32 &&& Int32.toUInt32 31)).toInt32) - ((((gI (pI s 248 54 (((gI s 248 54) * (1103515245 : Int32)) + (12345 : Int32))) 248 54)).toUInt32 >>> (((8 : Int32)).toUInt32 &&& Int32.toUInt32 31)).toInt32) / a1 * a1) (pI s 248 54 (((gI s 248 54) * (1103515245 : Int32)) + (12345 : Int32)))) : KI MX12_draw 0 [.ref 248, .int a1] s Q := by
  show BI MX12_draw 0 0 [(0, .ref 248), (1, .int a1)] s Q
  refine JT_aload_n (q := 0) dX12_draw_0 rfl rfl ?_
  refine JT_aload_n (q := 0) dX12_draw_1 rfl rfl ?_
  refine JS_getI dX12_draw_2 flX12_455 BS_248 (Nat.le_of_ble_eq_true rfl) (Nat.le_of_ble_eq_true rfl) (Or.inl ct_12_54) ?_
  refine JT_ldcw dX12_draw_5 kwX12_458 ?_
  refine JT_imul dX12_draw_8 ?_
  refine JT_sipush (v := 12345) dX12_draw_9 sp_12345 ?_
  refine JT_iadd dX12_draw_12 ?_
  refine JS_putI dX12_draw_13 flX12_455 BS_248 (Nat.le_of_ble_eq_true rfl) (Nat.le_of_ble_eq_true rfl) ct_12_54 ?_
  refine JT_aload_n (q := 0) dX12_draw_16 rfl rfl ?_
  refine JS_getI dX12_draw_17 flX12_455 BS_248 (Nat.le_of_ble_eq_true rfl) (Nat.le_of_ble_eq_true rfl) (Or.inl ct_12_54) ?_
  refine JT_bipush (v := 8) dX12_draw_20 bp_8 ?_
  refine JT_iushr dX12_draw_22 ?_
  refine JT_iload_n (q := 1) dX12_draw_23 rfl rfl ?_
  obtain ⟨o1, h⟩ := h
  refine JT_irem dX12_draw_24 o1 ?_
  exact JS_iret dX12_draw_25 rfl rfl h
set_option maxRecDepth 1000000 in
theorem pX12_draw (a1 : Int32) {s : SM} {Q : Int32 → SM → Prop} (hr : rX12_draw s a1) (h : Q (vX12_draw s a1) (mX12_draw s a1)) : KI MX12_draw 0 [.ref 248, .int a1] s Q := by
  refine bX12_draw a1 ?_
  unfold rX12_draw at hr
  unfold vX12_draw mX12_draw at h
  refine ⟨hr, ?_⟩
  first | exact h | contradiction
set_option maxRecDepth 1000000 in
theorem bX12_end (a1 : Int32) {s : SM} {Q : Int32 → SM → Prop} (h : ((a1 < 0 → Q (0 : Int32) (pI s 248 0 (0 : Int32))) ∧ (¬ a1 < 0 → ((a1 ≤ (gI (pI s 248 0 (0 : Int32)) 248 2) → Q (1 : Int32) (pI (pI s 248 0 (0 : Int32)) 248 2 a1)) ∧ (¬ a1 ≤ (gI (pI s 248 0 (0 : Int32)) 248 2) → Q (0 : Int32) (pI s 248 0 (0 : Int32))))))) : KI MX12_end 0 [.ref 248, .int a1] s Q := by
  show BI MX12_end 0 0 [(0, .ref 248), (1, .int a1)] s Q
  refine JT_aload_n (q := 0) dX12_end_0 rfl rfl ?_
  refine JT_iconst (v := 0) dX12_end_1 ic_0 ?_
  refine JS_putI dX12_end_2 flX12_1 BS_248 (Nat.le_of_ble_eq_true rfl) (Nat.le_of_ble_eq_true rfl) ct_12_0 ?_
  refine JT_iload_n (q := 1) dX12_end_5 rfl rfl ?_
  refine JT_if_lt (tgt := 17) dX12_end_6 (by decide) (fun hc2 => ?_) (fun hc2 => ?_)
  · have h := h.1 hc2
    refine JT_iconst (v := 0) dX12_end_17 ic_0 ?_
    exact JS_iret dX12_end_18 rfl (n01 (Or.inl rfl)) h
  · have h := h.2 hc2
    refine JT_iload_n (q := 1) dX12_end_9 rfl rfl ?_
    refine JT_aload_n (q := 0) dX12_end_10 rfl rfl ?_
    refine JS_getI dX12_end_11 flX12_7 BS_248 (Nat.le_of_ble_eq_true rfl) (Nat.le_of_ble_eq_true rfl) (Or.inl ct_12_2) ?_
    refine JT_icmp_le (tgt := 19) dX12_end_14 (by decide) (fun hc1 => ?_) (fun hc1 => ?_)
    · have h := h.1 hc1
      refine JT_aload_n (q := 0) dX12_end_19 rfl rfl ?_
      refine JT_iload_n (q := 1) dX12_end_20 rfl rfl ?_
      refine JS_putI dX12_end_21 flX12_7 BS_248 (Nat.le_of_ble_eq_true rfl) (Nat.le_of_ble_eq_true rfl) ct_12_2 ?_
      refine JT_iconst (v := 1) dX12_end_24 ic_1 ?_
      exact JS_iret dX12_end_25 rfl (n01 (Or.inr rfl)) h
    · have h := h.2 hc1
      refine JT_iconst (v := 0) dX12_end_17 ic_0 ?_
      exact JS_iret dX12_end_18 rfl (n01 (Or.inl rfl)) h
set_option maxRecDepth 1000000 in
theorem zX12_end (s : SM) (a1 : Int32) : vX12_end s a1 = 0 ∨ vX12_end s a1 = 1 := (i01 (Or.inl rfl) (i01 (Or.inr rfl) (Or.inl rfl)))
set_option maxRecDepth 1000000 in
theorem pX12_end (a1 : Int32) {s : SM} {Q : Int32 → SM → Prop} (h : Q (vX12_end s a1) (mX12_end s a1)) : KI MX12_end 0 [.ref 248, .int a1] s Q := by
  refine bX12_end a1 ?_
  unfold vX12_end mX12_end at h
  refine ⟨fun c => ?_, fun c => ?_⟩
  · replace h := q2p c h
    first | exact h | contradiction
  · replace h := q2n c h
    refine ⟨fun c => ?_, fun c => ?_⟩
    · replace h := q2p c h
      first | exact h | contradiction
    · replace h := q2n c h
      first | exact h | contradiction
set_option maxRecDepth 1000000 in
theorem bX12_fault  {s : SM} {Q : Int32 → SM → Prop} (h : Q (gI (pI s 248 0 (0 : Int32)) 248 15) (pI s 248 0 (0 : Int32))) : KI MX12_fault 0 [.ref 248] s Q := by
  show BI MX12_fault 0 0 [(0, .ref 248)] s Q
  refine JT_aload_n (q := 0) dX12_fault_0 rfl rfl ?_
  refine JT_iconst (v := 0) dX12_fault_1 ic_0 ?_
  refine JS_putI dX12_fault_2 flX12_1 BS_248 (Nat.le_of_ble_eq_true rfl) (Nat.le_of_ble_eq_true rfl) ct_12_0 ?_
  refine JT_aload_n (q := 0) dX12_fault_5 rfl rfl ?_
  refine JS_getI dX12_fault_6 flX12_187 BS_248 (Nat.le_of_ble_eq_true rfl) (Nat.le_of_ble_eq_true rfl) (Or.inl ct_12_15) ?_
  exact JS_iret dX12_fault_9 rfl rfl h
set_option maxRecDepth 1000000 in
theorem pX12_fault  {s : SM} {Q : Int32 → SM → Prop} (h : Q (vX12_fault s ) (mX12_fault s )) : KI MX12_fault 0 [.ref 248] s Q := by
  refine bX12_fault  ?_
  unfold vX12_fault mX12_fault at h
  first | exact h | contradiction
set_option maxRecDepth 1000000 in
theorem bX12_find_2 (a1 : Int32) (a2 : Int32) (a3 : Int32) {s : SM} {Q : Int32 → SM → Prop} (h : ((a2 ≤ a3 → Q (-1 : Int32) s) ∧ (¬ a2 ≤ a3 → vp_in (a1 + a3) 30 ∧ ((¬ (lg_cmp (gL s 253 ((a1 + a3)).toNatClampNeg) (gL s 248 17)) = 0 → BI MX12_find 0 2 [(0, .ref 248), (1, .int a1), (2, .int a2), (3, .int (a3 + 1))] s Q) ∧ ((lg_cmp (gL s 253 ((a1 + a3)).toNatClampNeg) (gL s 248 17)) = 0 → Q a3 s))))) : BI MX12_find 0 2 [(0, .ref 248), (1, .int a1), (2, .int a2), (3, .int a3)] s Q := by
  refine JT_iload_n (q := 3) dX12_find_2 rfl rfl ?_
  refine JT_iload_n (q := 2) dX12_find_3 rfl rfl ?_
  refine JT_icmp_ge (tgt := 31) dX12_find_4 (by decide) (fun hc3 => ?_) (fun hc3 => ?_)
  · have h := h.1 hc3
    refine JT_iconst (v := -1) dX12_find_31 ic_m1 ?_
    exact JS_iret dX12_find_32 rfl rfl h
  · have h := h.2 hc3
    refine JT_aload_n (q := 0) dX12_find_7 rfl rfl ?_
    refine JS_getR (x := 253) dX12_find_8 flX12_43 BS_248 (Nat.le_of_ble_eq_true rfl) (Nat.le_of_ble_eq_true rfl) (Or.inr ⟨_, ct_12_9⟩) RF_248_9 ?_
    refine JT_iload_n (q := 1) dX12_find_11 rfl rfl ?_
    refine JT_iload_n (q := 3) dX12_find_12 rfl rfl ?_
    refine JT_iadd dX12_find_13 ?_
    obtain ⟨o1, h⟩ := h
    refine JS_lald dX12_find_14 BS_253 (Nat.le_of_ble_eq_true rfl) (Nat.le_of_ble_eq_true rfl) o1 ?_
    refine JT_aload_n (q := 0) dX12_find_15 rfl rfl ?_
    refine JS_getL dX12_find_16 flX12_183 BS_248 (Nat.le_of_ble_eq_true rfl) (Nat.le_of_ble_eq_true rfl) ct_12_17 ?_
    refine JT_lcmp dX12_find_19 ?_
    refine JT_if_ne (tgt := 25) dX12_find_20 (by decide) (fun hc2 => ?_) (fun hc2 => ?_)
    · have h := h.1 hc2
      refine JT_iinc (q := 3) (v := (a3 + 1)) (lv' := [(3, .int (a3 + 1)), (0, .ref 248), (1, .int a1), (2, .int a2)]) dX12_find_25 rfl (by rfl) (Nat.le_of_ble_eq_true rfl) rfl ?_
      refine JT_goto (tgt := 2) dX12_find_28 (by decide) ?_
      exact JT_sub [1, 2, 3, 0] rfl h
    · have h := h.2 hc2
      refine JT_iload_n (q := 3) dX12_find_23 rfl rfl ?_
      exact JS_iret dX12_find_24 rfl rfl h
set_option maxRecDepth 1000000 in
theorem bX12_find (a1 : Int32) (a2 : Int32) {s : SM} {Q : Int32 → SM → Prop} (h : BI MX12_find 0 2 [(0, .ref 248), (1, .int a1), (2, .int a2), (3, .int (0 : Int32))] s Q) : KI MX12_find 0 [.ref 248, .int a1, .int a2] s Q := by
  show BI MX12_find 0 0 [(0, .ref 248), (1, .int a1), (2, .int a2)] s Q
  refine JT_iconst (v := 0) dX12_find_0 ic_0 ?_
  refine JT_istore_n (lv' := [(3, .int (0 : Int32)), (0, .ref 248), (1, .int a1), (2, .int a2)]) dX12_find_1 rfl (Nat.le_of_ble_eq_true rfl) rfl ?_
  exact JT_sub [1, 2, 3, 0] rfl h
set_option maxRecDepth 1000000 in
theorem gX12_find  : ∀ n : Nat, (∀ (a1 : Int32) (a2 : Int32) (a3 : Int32) (s : SM) (Q : Int32 → SM → Prop), ((qX12_find n) s a1 a2 a3) → Q ((lX12_find n) s a1 a2 a3) s → BI MX12_find 0 2 [(0, .ref 248), (1, .int a1), (2, .int a2), (3, .int a3)] s Q) := by
  intro n
  induction n with
  | zero => exact fun _ _ _ _ _ hq _ => absurd hq id
  | succ n ih =>
    intro a1 a2 a3 s Q hr h
    replace hr : uX12_find_2 (qX12_find n) s a1 a2 a3 := hr
    replace h : Q (tX12_find_2 (lX12_find n) s a1 a2 a3) s := h
    unfold uX12_find_2 at hr
    unfold tX12_find_2 at h
    refine bX12_find_2 a1 a2 a3 ?_
    refine ⟨fun c => ?_, fun c => ?_⟩
    · replace h := qlp c h
      first | exact h | contradiction
    · replace hr := hr c
      replace h := qln c h
      refine ⟨hr.1, ?_⟩
      replace hr := hr.2
      refine ⟨fun c => ?_, fun c => ?_⟩
      · replace hr := hr c
        replace h := qln c h
        first | exact ih a1 a2 (a3 + 1) _ Q hr h | contradiction
      · replace h := qlp c h
        first | exact h | contradiction
set_option maxRecDepth 1000000 in
theorem pX12_find (a1 : Int32) (a2 : Int32) {s : SM} {Q : Int32 → SM → Prop} (hr : rX12_find s a1 a2) (h : Q (vX12_find s a1 a2) s) : KI MX12_find 0 [.ref 248, .int a1, .int a2] s Q := by
  replace h : Q (fX12_find s a1 a2) s := h
  unfold rX12_find at hr
  unfold fX12_find at h
  refine bX12_find a1 a2 ?_
  first | exact (gX12_find  FU) a1 a2 (0 : Int32) _ Q hr h | contradiction
set_option maxRecDepth 1000000 in
theorem bX12_four_3 (a1 : Int32) (a2 : Int32) {s : SM} {Q : SM → Prop} (h : ((a2 < 0 → Q s) ∧ (¬ a2 < 0 → vp_in (gI s 248 2) 640 ∧ (∀ s2, s2 = (pI (pI s 249 ((gI s 248 2)).toNatClampNeg (vp_nar .byte ((a1 >>> (a2 &&& 31))).toInt8.toInt32)) 248 2 ((gI (pI s 249 ((gI s 248 2)).toNatClampNeg (vp_nar .byte ((a1 >>> (a2 &&& 31))).toInt8.toInt32)) 248 2) + (1 : Int32))) → BV MX12_four 0 3 [(0, .ref 248), (1, .int a1), (2, .int (a2 + (-8)))] s2 Q)))) : BV MX12_four 0 3 [(0, .ref 248), (1, .int a1), (2, .int a2)] s Q := by
  refine JT_iload_n (q := 2) dX12_four_3 rfl rfl ?_
  refine JT_if_lt (tgt := 36) dX12_four_4 (by decide) (fun hc3 => ?_) (fun hc3 => ?_)
  · have h := h.1 hc3
    exact JS_vret dX12_four_36 rfl h
  · have h := h.2 hc3
    refine JT_aload_n (q := 0) dX12_four_7 rfl rfl ?_
    refine JS_getR (x := 249) dX12_four_8 flX12_14 BS_248 (Nat.le_of_ble_eq_true rfl) (Nat.le_of_ble_eq_true rfl) (Or.inr ⟨_, ct_12_1⟩) RF_248_1 ?_
    refine JT_aload_n (q := 0) dX12_four_11 rfl rfl ?_
    refine JS_getI dX12_four_12 flX12_7 BS_248 (Nat.le_of_ble_eq_true rfl) (Nat.le_of_ble_eq_true rfl) (Or.inl ct_12_2) ?_
    refine JT_iload_n (q := 1) dX12_four_15 rfl rfl ?_
    refine JT_iload_n (q := 2) dX12_four_16 rfl rfl ?_
    refine JT_ishr dX12_four_17 ?_
    refine JT_i2b dX12_four_18 ?_
    obtain ⟨o1, h⟩ := h
    refine JS_bast dX12_four_19 BS_249 (Nat.le_of_ble_eq_true rfl) (Nat.le_of_ble_eq_true rfl) o1 ?_
    refine JT_aload_n (q := 0) dX12_four_20 rfl rfl ?_
    refine JT_dup dX12_four_21 rfl ?_
    refine JS_getI dX12_four_22 flX12_7 BS_248 (Nat.le_of_ble_eq_true rfl) (Nat.le_of_ble_eq_true rfl) (Or.inl ct_12_2) ?_
    refine JT_iconst (v := 1) dX12_four_25 ic_1 ?_
    refine JT_iadd dX12_four_26 ?_
    refine JS_putI dX12_four_27 flX12_7 BS_248 (Nat.le_of_ble_eq_true rfl) (Nat.le_of_ble_eq_true rfl) ct_12_2 ?_
    obtain ⟨s2, hs2⟩ : ∃ z, z = (pI (pI s 249 ((gI s 248 2)).toNatClampNeg (vp_nar .byte ((a1 >>> (a2 &&& 31))).toInt8.toInt32)) 248 2 ((gI (pI s 249 ((gI s 248 2)).toNatClampNeg (vp_nar .byte ((a1 >>> (a2 &&& 31))).toInt8.toInt32)) 248 2) + (1 : Int32))) := ⟨_, rfl⟩
    replace h := h s2 hs2
    rw [← hs2]
    refine JT_iinc (q := 2) (v := (a2 + (-8))) (lv' := [(2, .int (a2 + (-8))), (0, .ref 248), (1, .int a1)]) dX12_four_30 rfl (by rfl) (Nat.le_of_ble_eq_true rfl) rfl ?_
    refine JT_goto (tgt := 3) dX12_four_33 (by decide) ?_
    exact JT_sub [1, 2, 0] rfl h
set_option maxRecDepth 1000000 in
theorem bX12_four (a1 : Int32) {s : SM} {Q : SM → Prop} (h : BV MX12_four 0 3 [(0, .ref 248), (1, .int a1), (2, .int (24 : Int32))] s Q) : KV MX12_four 0 [.ref 248, .int a1] s Q := by
  show BV MX12_four 0 0 [(0, .ref 248), (1, .int a1)] s Q
  refine JT_bipush (v := 24) dX12_four_0 bp_24 ?_
  refine JT_istore_n (lv' := [(2, .int (24 : Int32)), (0, .ref 248), (1, .int a1)]) dX12_four_2 rfl (Nat.le_of_ble_eq_true rfl) rfl ?_
  exact JT_sub [1, 2, 0] rfl h
set_option maxRecDepth 1000000 in
theorem gX12_four  : ∀ n : Nat, (∀ (a1 : Int32) (a2 : Int32) (s : SM) (Q : SM → Prop), ((qX12_four n) s a1 a2) → Q ((lX12_four n) s a1 a2) → BV MX12_four 0 3 [(0, .ref 248), (1, .int a1), (2, .int a2)] s Q) := by
  intro n
  induction n with
  | zero => exact fun _ _ _ _ hq _ => absurd hq id
  | succ n ih =>
    intro a1 a2 s Q hr h
    replace hr : uX12_four_3 (qX12_four n) s a1 a2 := hr
    replace h : Q (tX12_four_3 (lX12_four n) s a1 a2) := h
    unfold uX12_four_3 at hr
    unfold tX12_four_3 at h
    refine bX12_four_3 a1 a2 ?_
    refine ⟨fun c => ?_, fun c => ?_⟩
    · replace h := q1p c h
      first | exact h | contradiction
    · replace hr := hr c
      replace h := q1n c h
      refine ⟨hr.1, ?_⟩
      replace hr := hr.2
      intro s2 e9
      replace hr := hr s2 e9
      try rw [← e9] at h
      try dsimp only at h
      first | exact ih a1 (a2 + (-8)) _ Q hr h | contradiction
set_option maxRecDepth 1000000 in
theorem pX12_four (a1 : Int32) {s : SM} {Q : SM → Prop} (hr : rX12_four s a1) (h : Q (mX12_four s a1)) : KV MX12_four 0 [.ref 248, .int a1] s Q := by
  replace h : Q (fX12_four s a1) := h
  unfold rX12_four at hr
  unfold fX12_four at h
  refine bX12_four a1 ?_
  first | exact (gX12_four  FU) a1 (24 : Int32) _ Q hr h | contradiction
set_option maxRecDepth 1000000 in
theorem bX12_has (a0 : Int32) (a1 : Int32) {s : SM} {Q : Int32 → SM → Prop} (h : Q (if ((a0 >>> (a1 &&& 31)) &&& (1 : Int32)) = (1 : Int32) then (1 : Int32) else (0 : Int32)) s) : KI MX12_has 0 [.int a0, .int a1] s Q := by
  show BI MX12_has 0 0 [(0, .int a0), (1, .int a1)] s Q
  refine JT_iload_n (q := 0) dX12_has_0 rfl rfl ?_
  refine JT_iload_n (q := 1) dX12_has_1 rfl rfl ?_
  refine JT_ishr dX12_has_2 ?_
  refine JT_iconst (v := 1) dX12_has_3 ic_1 ?_
  refine JT_iand dX12_has_4 ?_
  refine JT_iconst (v := 1) dX12_has_5 ic_1 ?_
  have hj1 : ∀ v : Int32, v = (if ((a0 >>> (a1 &&& 31)) &&& (1 : Int32)) = (1 : Int32) then (1 : Int32) else (0 : Int32)) → JT MX12_has 0 0 0 14 [(0, .int a0), (1, .int a1)] [.int v] (std s) (KQ Q) := by
    intro v hv
    subst hv
    exact JS_iret dX12_has_14 rfl (n01 (i01 (Or.inr rfl) (Or.inl rfl))) h
  refine JT_icmp_ne (tgt := 13) dX12_has_6 (by decide) (fun hc2 => ?_) (fun hc2 => ?_)
  · refine JT_iconst (v := 0) dX12_has_13 ic_0 ?_
    exact hj1 _ (by rw [if_neg hc2])
  · refine JT_iconst (v := 1) dX12_has_9 ic_1 ?_
    refine JT_goto (tgt := 14) dX12_has_10 (by decide) ?_
    exact hj1 _ (by rw [if_pos hc2])
set_option maxRecDepth 1000000 in
theorem zX12_has (s : SM) (a0 : Int32) (a1 : Int32) : vX12_has s a0 a1 = 0 ∨ vX12_has s a0 a1 = 1 := (i01 (Or.inr rfl) (Or.inl rfl))
set_option maxRecDepth 1000000 in
theorem pX12_has (a0 : Int32) (a1 : Int32) {s : SM} {Q : Int32 → SM → Prop} (h : Q (vX12_has s a0 a1) s) : KI MX12_has 0 [.int a0, .int a1] s Q := by
  refine bX12_has a0 a1 ?_
  unfold vX12_has at h
  first | exact h | contradiction
set_option maxRecDepth 1000000 in
theorem bX12_isDigit (a0 : Int32) {s : SM} {Q : Int32 → SM → Prop} (h : Q (if a0 < (48 : Int32) then (0 : Int32) else (if (57 : Int32) < a0 then (0 : Int32) else (1 : Int32))) s) : KI MX12_isDigit 0 [.int a0] s Q := by
  show BI MX12_isDigit 0 0 [(0, .int a0)] s Q
  refine JT_iload_n (q := 0) dX12_isDigit_0 rfl rfl ?_
  refine JT_bipush (v := 48) dX12_isDigit_1 bp_48 ?_
  have hj1 : ∀ v : Int32, v = (if a0 < (48 : Int32) then (0 : Int32) else (if (57 : Int32) < a0 then (0 : Int32) else (1 : Int32))) → JT MX12_isDigit 0 0 0 17 [(0, .int a0)] [.int v] (std s) (KQ Q) := by
    intro v hv
    subst hv
    exact JS_iret dX12_isDigit_17 rfl (n01 (i01 (Or.inl rfl) (i01 (Or.inl rfl) (Or.inr rfl)))) h
  refine JT_icmp_lt (tgt := 16) dX12_isDigit_3 (by decide) (fun hc2 => ?_) (fun hc2 => ?_)
  · refine JT_iconst (v := 0) dX12_isDigit_16 ic_0 ?_
    exact hj1 _ (by rw [if_pos hc2])
  · refine JT_iload_n (q := 0) dX12_isDigit_6 rfl rfl ?_
    refine JT_bipush (v := 57) dX12_isDigit_7 bp_57 ?_
    refine JT_icmp_gt (tgt := 16) dX12_isDigit_9 (by decide) (fun hc3 => ?_) (fun hc3 => ?_)
    · refine JT_iconst (v := 0) dX12_isDigit_16 ic_0 ?_
      exact hj1 _ (by rw [if_neg hc2, if_pos hc3])
    · refine JT_iconst (v := 1) dX12_isDigit_12 ic_1 ?_
      refine JT_goto (tgt := 17) dX12_isDigit_13 (by decide) ?_
      exact hj1 _ (by rw [if_neg hc2, if_neg hc3])
set_option maxRecDepth 1000000 in
theorem zX12_isDigit (s : SM) (a0 : Int32) : vX12_isDigit s a0 = 0 ∨ vX12_isDigit s a0 = 1 := (i01 (Or.inl rfl) (i01 (Or.inl rfl) (Or.inr rfl)))
set_option maxRecDepth 1000000 in
theorem pX12_isDigit (a0 : Int32) {s : SM} {Q : Int32 → SM → Prop} (h : Q (vX12_isDigit s a0) s) : KI MX12_isDigit 0 [.int a0] s Q := by
  refine bX12_isDigit a0 ?_
  unfold vX12_isDigit at h
  first | exact h | contradiction
set_option maxRecDepth 1000000 in
theorem bX12_isIn (a0 : Int32) (a1 : Int32) (a2 : Int32) {s : SM} {Q : Int32 → SM → Prop} (h : Q (if a0 < a1 then (0 : Int32) else (if a2 < a0 then (0 : Int32) else (1 : Int32))) s) : KI MX12_isIn 0 [.int a0, .int a1, .int a2] s Q := by
  show BI MX12_isIn 0 0 [(0, .int a0), (1, .int a1), (2, .int a2)] s Q
  refine JT_iload_n (q := 0) dX12_isIn_0 rfl rfl ?_
  refine JT_iload_n (q := 1) dX12_isIn_1 rfl rfl ?_
  have hj1 : ∀ v : Int32, v = (if a0 < a1 then (0 : Int32) else (if a2 < a0 then (0 : Int32) else (1 : Int32))) → JT MX12_isIn 0 0 0 15 [(0, .int a0), (1, .int a1), (2, .int a2)] [.int v] (std s) (KQ Q) := by
    intro v hv
    subst hv
    exact JS_iret dX12_isIn_15 rfl (n01 (i01 (Or.inl rfl) (i01 (Or.inl rfl) (Or.inr rfl)))) h
  refine JT_icmp_lt (tgt := 14) dX12_isIn_2 (by decide) (fun hc2 => ?_) (fun hc2 => ?_)
  · refine JT_iconst (v := 0) dX12_isIn_14 ic_0 ?_
    exact hj1 _ (by rw [if_pos hc2])
  · refine JT_iload_n (q := 0) dX12_isIn_5 rfl rfl ?_
    refine JT_iload_n (q := 2) dX12_isIn_6 rfl rfl ?_
    refine JT_icmp_gt (tgt := 14) dX12_isIn_7 (by decide) (fun hc3 => ?_) (fun hc3 => ?_)
    · refine JT_iconst (v := 0) dX12_isIn_14 ic_0 ?_
      exact hj1 _ (by rw [if_neg hc2, if_pos hc3])
    · refine JT_iconst (v := 1) dX12_isIn_10 ic_1 ?_
      refine JT_goto (tgt := 15) dX12_isIn_11 (by decide) ?_
      exact hj1 _ (by rw [if_neg hc2, if_neg hc3])
set_option maxRecDepth 1000000 in
theorem zX12_isIn (s : SM) (a0 : Int32) (a1 : Int32) (a2 : Int32) : vX12_isIn s a0 a1 a2 = 0 ∨ vX12_isIn s a0 a1 a2 = 1 := (i01 (Or.inl rfl) (i01 (Or.inl rfl) (Or.inr rfl)))
set_option maxRecDepth 1000000 in
theorem pX12_isIn (a0 : Int32) (a1 : Int32) (a2 : Int32) {s : SM} {Q : Int32 → SM → Prop} (h : Q (vX12_isIn s a0 a1 a2) s) : KI MX12_isIn 0 [.int a0, .int a1, .int a2] s Q := by
  refine bX12_isIn a0 a1 a2 ?_
  unfold vX12_isIn at h
  first | exact h | contradiction
set_option maxRecDepth 1000000 in
theorem bX12_isName_16 (a1 : Int32) (a2 : Int32) {s : SM} {Q : Int32 → SM → Prop} (h : (((17 : Int32) ≤ a2 → (a1 = 0 ∨ a1 = 1) ∧ Q a1 s) ∧ (¬ (17 : Int32) ≤ a2 → ((a1 = 0 → BI MX12_isName 0 16 [(0, .ref 248), (1, .int (0 : Int32)), (2, .int (a2 + 1))] s Q) ∧ (¬ a1 = 0 → vp_in a2 17 ∧ BI MX12_isName 0 16 [(0, .ref 248), (1, .int (if (lg_cmp (gL s 248 17) (gL s 254 (a2).toNatClampNeg)) = 0 then (0 : Int32) else (1 : Int32))), (2, .int (a2 + 1))] s Q))))) : BI MX12_isName 0 16 [(0, .ref 248), (1, .int a1), (2, .int a2)] s Q := by
  refine JT_iload_n (q := 2) dX12_isName_16 rfl rfl ?_
  refine JT_bipush (v := 17) dX12_isName_17 bp_17 ?_
  refine JT_icmp_ge (tgt := 52) dX12_isName_19 (by decide) (fun hc5 => ?_) (fun hc5 => ?_)
  · have h := h.1 hc5
    refine JT_iload_n (q := 1) dX12_isName_52 rfl rfl ?_
    exact JS_iret dX12_isName_53 rfl (n01 h.1) h.2
  · have h := h.2 hc5
    refine JT_iload_n (q := 1) dX12_isName_22 rfl rfl ?_
    refine JT_if_eq (tgt := 44) dX12_isName_23 (by decide) (fun hc4 => ?_) (fun hc4 => ?_)
    · have h := h.1 hc4
      refine JT_iconst (v := 0) dX12_isName_44 ic_0 ?_
      refine JT_istore_n (lv' := [(1, .int (0 : Int32)), (0, .ref 248), (2, .int a2)]) dX12_isName_45 rfl (Nat.le_of_ble_eq_true rfl) rfl ?_
      refine JT_iinc (q := 2) (v := (a2 + 1)) (lv' := [(2, .int (a2 + 1)), (1, .int (0 : Int32)), (0, .ref 248)]) dX12_isName_46 rfl (by rfl) (Nat.le_of_ble_eq_true rfl) rfl ?_
      refine JT_goto (tgt := 16) dX12_isName_49 (by decide) ?_
      exact JT_sub [2, 1, 0] rfl h
    · have h := h.2 hc4
      refine JT_aload_n (q := 0) dX12_isName_26 rfl rfl ?_
      refine JS_getL dX12_isName_27 flX12_183 BS_248 (Nat.le_of_ble_eq_true rfl) (Nat.le_of_ble_eq_true rfl) ct_12_17 ?_
      refine JT_aload_n (q := 0) dX12_isName_30 rfl rfl ?_
      refine JS_getR (x := 254) dX12_isName_31 flX12_47 BS_248 (Nat.le_of_ble_eq_true rfl) (Nat.le_of_ble_eq_true rfl) (Or.inr ⟨_, ct_12_10⟩) RF_248_10 ?_
      refine JT_iload_n (q := 2) dX12_isName_34 rfl rfl ?_
      obtain ⟨o1, h⟩ := h
      refine JS_lald dX12_isName_35 BS_254 (Nat.le_of_ble_eq_true rfl) (Nat.le_of_ble_eq_true rfl) o1 ?_
      refine JT_lcmp dX12_isName_36 ?_
      have hj2 : ∀ v : Int32, v = (if (lg_cmp (gL s 248 17) (gL s 254 (a2).toNatClampNeg)) = 0 then (0 : Int32) else (1 : Int32)) → JT MX12_isName 0 0 0 45 [(0, .ref 248), (1, .int a1), (2, .int a2)] [.int v] (std s) (KQ Q) := by
        intro v hv
        subst hv
        refine JT_istore_n (lv' := [(1, .int (if (lg_cmp (gL s 248 17) (gL s 254 (a2).toNatClampNeg)) = 0 then (0 : Int32) else (1 : Int32))), (0, .ref 248), (2, .int a2)]) dX12_isName_45 rfl (Nat.le_of_ble_eq_true rfl) rfl ?_
        refine JT_iinc (q := 2) (v := (a2 + 1)) (lv' := [(2, .int (a2 + 1)), (1, .int (if (lg_cmp (gL s 248 17) (gL s 254 (a2).toNatClampNeg)) = 0 then (0 : Int32) else (1 : Int32))), (0, .ref 248)]) dX12_isName_46 rfl (by rfl) (Nat.le_of_ble_eq_true rfl) rfl ?_
        refine JT_goto (tgt := 16) dX12_isName_49 (by decide) ?_
        exact JT_sub [2, 1, 0] rfl h
      refine JT_if_eq (tgt := 44) dX12_isName_37 (by decide) (fun hc3 => ?_) (fun hc3 => ?_)
      · refine JT_iconst (v := 0) dX12_isName_44 ic_0 ?_
        exact hj2 _ (by rw [if_pos hc3])
      · refine JT_iconst (v := 1) dX12_isName_40 ic_1 ?_
        refine JT_goto (tgt := 45) dX12_isName_41 (by decide) ?_
        exact hj2 _ (by rw [if_neg hc3])
set_option maxRecDepth 1000000 in
theorem bX12_isName  {s : SM} {Q : Int32 → SM → Prop} (h : BI MX12_isName 0 16 [(0, .ref 248), (1, .int (if (gI s 248 11) = (1 : Int32) then (1 : Int32) else (0 : Int32))), (2, .int (0 : Int32))] s Q) : KI MX12_isName 0 [.ref 248] s Q := by
  show BI MX12_isName 0 0 [(0, .ref 248)] s Q
  refine JT_aload_n (q := 0) dX12_isName_0 rfl rfl ?_
  refine JS_getI dX12_isName_1 flX12_170 BS_248 (Nat.le_of_ble_eq_true rfl) (Nat.le_of_ble_eq_true rfl) (Or.inl ct_12_11) ?_
  refine JT_iconst (v := 1) dX12_isName_4 ic_1 ?_
  have hj1 : ∀ v : Int32, v = (if (gI s 248 11) = (1 : Int32) then (1 : Int32) else (0 : Int32)) → JT MX12_isName 0 0 0 13 [(0, .ref 248)] [.int v] (std s) (KQ Q) := by
    intro v hv
    subst hv
    refine JT_istore_n (lv' := [(1, .int (if (gI s 248 11) = (1 : Int32) then (1 : Int32) else (0 : Int32))), (0, .ref 248)]) dX12_isName_13 rfl (Nat.le_of_ble_eq_true rfl) rfl ?_
    refine JT_iconst (v := 0) dX12_isName_14 ic_0 ?_
    refine JT_istore_n (lv' := [(2, .int (0 : Int32)), (1, .int (if (gI s 248 11) = (1 : Int32) then (1 : Int32) else (0 : Int32))), (0, .ref 248)]) dX12_isName_15 rfl (Nat.le_of_ble_eq_true rfl) rfl ?_
    exact JT_sub [2, 1, 0] rfl h
  refine JT_icmp_ne (tgt := 12) dX12_isName_5 (by decide) (fun hc2 => ?_) (fun hc2 => ?_)
  · refine JT_iconst (v := 0) dX12_isName_12 ic_0 ?_
    exact hj1 _ (by rw [if_neg hc2])
  · refine JT_iconst (v := 1) dX12_isName_8 ic_1 ?_
    refine JT_goto (tgt := 13) dX12_isName_9 (by decide) ?_
    exact hj1 _ (by rw [if_pos hc2])
set_option maxRecDepth 1000000 in
theorem gX12_isName  : ∀ n : Nat, (∀ (a1 : Int32) (a2 : Int32) (s : SM) (Q : Int32 → SM → Prop), ((qX12_isName n) s a1 a2) → Q ((lX12_isName n) s a1 a2) s → BI MX12_isName 0 16 [(0, .ref 248), (1, .int a1), (2, .int a2)] s Q) := by
  intro n
  induction n with
  | zero => exact fun _ _ _ _ hq _ => absurd hq id
  | succ n ih =>
    intro a1 a2 s Q hr h
    replace hr : uX12_isName_16 (qX12_isName n) s a1 a2 := hr
    replace h : Q (tX12_isName_16 (lX12_isName n) s a1 a2) s := h
    unfold uX12_isName_16 at hr
    unfold tX12_isName_16 at h
    refine bX12_isName_16 a1 a2 ?_
    refine ⟨fun c => ?_, fun c => ?_⟩
    · replace hr := hr.1 c
      replace h := qlp c h
      refine ⟨hr, ?_⟩
      first | exact h | contradiction
    · replace hr := hr.2 c
      replace h := qln c h
      refine ⟨fun c => ?_, fun c => ?_⟩
      · replace hr := hr.1 c
        replace h := qlp c h
        first | exact ih (0 : Int32) (a2 + 1) _ Q hr h | contradiction
      · replace hr := hr.2 c
        replace h := qln c h
        refine ⟨hr.1, ?_⟩
        replace hr := hr.2
        first | exact ih (if (lg_cmp (gL s 248 17) (gL s 254 (a2).toNatClampNeg)) = 0 then (0 : Int32) else (1 : Int32)) (a2 + 1) _ Q hr h | contradiction
set_option maxRecDepth 1000000 in
theorem pX12_isName  {s : SM} {Q : Int32 → SM → Prop} (hr : rX12_isName s ) (h : Q (vX12_isName s ) s) : KI MX12_isName 0 [.ref 248] s Q := by
  replace h : Q (fX12_isName s ) s := h
  unfold rX12_isName at hr
  unfold fX12_isName at h
  refine bX12_isName  ?_
  first | exact (gX12_isName  FU) (if (gI s 248 11) = (1 : Int32) then (1 : Int32) else (0 : Int32)) (0 : Int32) _ Q hr h | contradiction
set_option maxRecDepth 1000000 in
theorem bX12_isSign (a1 : Int32) {s : SM} {Q : Int32 → SM → Prop} (h : Q (if (gI s 248 11) = (3 : Int32) then (if (gI s 248 14) = a1 then (1 : Int32) else (0 : Int32)) else (0 : Int32)) s) : KI MX12_isSign 0 [.ref 248, .int a1] s Q := by
  show BI MX12_isSign 0 0 [(0, .ref 248), (1, .int a1)] s Q
  refine JT_aload_n (q := 0) dX12_isSign_0 rfl rfl ?_
  refine JS_getI dX12_isSign_1 flX12_170 BS_248 (Nat.le_of_ble_eq_true rfl) (Nat.le_of_ble_eq_true rfl) (Or.inl ct_12_11) ?_
  refine JT_iconst (v := 3) dX12_isSign_4 ic_3 ?_
  have hj1 : ∀ v : Int32, v = (if (gI s 248 11) = (3 : Int32) then (if (gI s 248 14) = a1 then (1 : Int32) else (0 : Int32)) else (0 : Int32)) → JT MX12_isSign 0 0 0 21 [(0, .ref 248), (1, .int a1)] [.int v] (std s) (KQ Q) := by
    intro v hv
    subst hv
    exact JS_iret dX12_isSign_21 rfl (n01 (i01 (i01 (Or.inr rfl) (Or.inl rfl)) (Or.inl rfl))) h
  refine JT_icmp_ne (tgt := 20) dX12_isSign_5 (by decide) (fun hc2 => ?_) (fun hc2 => ?_)
  · refine JT_iconst (v := 0) dX12_isSign_20 ic_0 ?_
    exact hj1 _ (by rw [if_neg hc2])
  · refine JT_aload_n (q := 0) dX12_isSign_8 rfl rfl ?_
    refine JS_getI dX12_isSign_9 flX12_180 BS_248 (Nat.le_of_ble_eq_true rfl) (Nat.le_of_ble_eq_true rfl) (Or.inl ct_12_14) ?_
    refine JT_iload_n (q := 1) dX12_isSign_12 rfl rfl ?_
    refine JT_icmp_ne (tgt := 20) dX12_isSign_13 (by decide) (fun hc3 => ?_) (fun hc3 => ?_)
    · refine JT_iconst (v := 0) dX12_isSign_20 ic_0 ?_
      exact hj1 _ (by rw [if_pos hc2, if_neg hc3])
    · refine JT_iconst (v := 1) dX12_isSign_16 ic_1 ?_
      refine JT_goto (tgt := 21) dX12_isSign_17 (by decide) ?_
      exact hj1 _ (by rw [if_pos hc2, if_pos hc3])
set_option maxRecDepth 1000000 in
theorem zX12_isSign (s : SM) (a1 : Int32) : vX12_isSign s a1 = 0 ∨ vX12_isSign s a1 = 1 := (i01 (i01 (Or.inr rfl) (Or.inl rfl)) (Or.inl rfl))
set_option maxRecDepth 1000000 in
theorem pX12_isSign (a1 : Int32) {s : SM} {Q : Int32 → SM → Prop} (h : Q (vX12_isSign s a1) s) : KI MX12_isSign 0 [.ref 248, .int a1] s Q := by
  refine bX12_isSign a1 ?_
  unfold vX12_isSign at h
  first | exact h | contradiction
set_option maxRecDepth 1000000 in
theorem bX12_isSmall (a0 : Int32) {s : SM} {Q : Int32 → SM → Prop} (h : Q (if a0 < (97 : Int32) then (0 : Int32) else (if (122 : Int32) < a0 then (0 : Int32) else (1 : Int32))) s) : KI MX12_isSmall 0 [.int a0] s Q := by
  show BI MX12_isSmall 0 0 [(0, .int a0)] s Q
  refine JT_iload_n (q := 0) dX12_isSmall_0 rfl rfl ?_
  refine JT_bipush (v := 97) dX12_isSmall_1 bp_97 ?_
  have hj1 : ∀ v : Int32, v = (if a0 < (97 : Int32) then (0 : Int32) else (if (122 : Int32) < a0 then (0 : Int32) else (1 : Int32))) → JT MX12_isSmall 0 0 0 17 [(0, .int a0)] [.int v] (std s) (KQ Q) := by
    intro v hv
    subst hv
    exact JS_iret dX12_isSmall_17 rfl (n01 (i01 (Or.inl rfl) (i01 (Or.inl rfl) (Or.inr rfl)))) h
  refine JT_icmp_lt (tgt := 16) dX12_isSmall_3 (by decide) (fun hc2 => ?_) (fun hc2 => ?_)
  · refine JT_iconst (v := 0) dX12_isSmall_16 ic_0 ?_
    exact hj1 _ (by rw [if_pos hc2])
  · refine JT_iload_n (q := 0) dX12_isSmall_6 rfl rfl ?_
    refine JT_bipush (v := 122) dX12_isSmall_7 bp_122 ?_
    refine JT_icmp_gt (tgt := 16) dX12_isSmall_9 (by decide) (fun hc3 => ?_) (fun hc3 => ?_)
    · refine JT_iconst (v := 0) dX12_isSmall_16 ic_0 ?_
      exact hj1 _ (by rw [if_neg hc2, if_pos hc3])
    · refine JT_iconst (v := 1) dX12_isSmall_12 ic_1 ?_
      refine JT_goto (tgt := 17) dX12_isSmall_13 (by decide) ?_
      exact hj1 _ (by rw [if_neg hc2, if_neg hc3])
set_option maxRecDepth 1000000 in
theorem zX12_isSmall (s : SM) (a0 : Int32) : vX12_isSmall s a0 = 0 ∨ vX12_isSmall s a0 = 1 := (i01 (Or.inl rfl) (i01 (Or.inl rfl) (Or.inr rfl)))
set_option maxRecDepth 1000000 in
theorem pX12_isSmall (a0 : Int32) {s : SM} {Q : Int32 → SM → Prop} (h : Q (vX12_isSmall s a0) s) : KI MX12_isSmall 0 [.int a0] s Q := by
  refine bX12_isSmall a0 ?_
  unfold vX12_isSmall at h
  first | exact h | contradiction
set_option maxRecDepth 1000000 in
theorem bX12_isWord (b1 : Int64) {s : SM} {Q : Int32 → SM → Prop} (h : ((¬ (gI s 248 11) = (1 : Int32) → Q (0 : Int32) s) ∧ ((gI s 248 11) = (1 : Int32) → Q (if (lg_cmp (gL s 248 17) b1) = 0 then (1 : Int32) else (0 : Int32)) s))) : KI MX12_isWord 0 [.ref 248, .long b1] s Q := by
  show BI MX12_isWord 0 0 [(0, .ref 248), (1, .long b1)] s Q
  refine JT_aload_n (q := 0) dX12_isWord_0 rfl rfl ?_
  refine JS_getI dX12_isWord_1 flX12_170 BS_248 (Nat.le_of_ble_eq_true rfl) (Nat.le_of_ble_eq_true rfl) (Or.inl ct_12_11) ?_
  refine JT_iconst (v := 1) dX12_isWord_4 ic_1 ?_
  refine JT_icmp_ne (tgt := 21) dX12_isWord_5 (by decide) (fun hc3 => ?_) (fun hc3 => ?_)
  · have h := h.1 hc3
    refine JT_iconst (v := 0) dX12_isWord_21 ic_0 ?_
    exact JS_iret dX12_isWord_22 rfl (n01 (Or.inl rfl)) h
  · have h := h.2 hc3
    refine JT_aload_n (q := 0) dX12_isWord_8 rfl rfl ?_
    refine JS_getL dX12_isWord_9 flX12_183 BS_248 (Nat.le_of_ble_eq_true rfl) (Nat.le_of_ble_eq_true rfl) ct_12_17 ?_
    refine JT_lload_n (q := 1) dX12_isWord_12 rfl rfl ?_
    refine JT_lcmp dX12_isWord_13 ?_
    have hj1 : ∀ v : Int32, v = (if (lg_cmp (gL s 248 17) b1) = 0 then (1 : Int32) else (0 : Int32)) → JT MX12_isWord 0 0 0 22 [(0, .ref 248), (1, .long b1)] [.int v] (std s) (KQ Q) := by
      intro v hv
      subst hv
      exact JS_iret dX12_isWord_22 rfl (n01 (i01 (Or.inr rfl) (Or.inl rfl))) h
    refine JT_if_ne (tgt := 21) dX12_isWord_14 (by decide) (fun hc2 => ?_) (fun hc2 => ?_)
    · refine JT_iconst (v := 0) dX12_isWord_21 ic_0 ?_
      exact hj1 _ (by rw [if_neg hc2])
    · refine JT_iconst (v := 1) dX12_isWord_17 ic_1 ?_
      refine JT_goto (tgt := 22) dX12_isWord_18 (by decide) ?_
      exact hj1 _ (by rw [if_pos hc2])
set_option maxRecDepth 1000000 in
theorem zX12_isWord (s : SM) (b1 : Int64) : vX12_isWord s b1 = 0 ∨ vX12_isWord s b1 = 1 := (i01 (i01 (Or.inr rfl) (Or.inl rfl)) (Or.inl rfl))
set_option maxRecDepth 1000000 in
theorem pX12_isWord (b1 : Int64) {s : SM} {Q : Int32 → SM → Prop} (h : Q (vX12_isWord s b1) s) : KI MX12_isWord 0 [.ref 248, .long b1] s Q := by
  refine bX12_isWord b1 ?_
  unfold vX12_isWord at h
  refine ⟨fun c => ?_, fun c => ?_⟩
  · replace h := qln c h
    first | exact h | contradiction
  · replace h := qlp c h
    first | exact h | contradiction
set_option maxRecDepth 1000000 in
theorem bX12_keep_11 (a1 : Int32) {s : SM} {Q : SM → Prop} (h : (((3864 : Int32) ≤ a1 → BV MX12_keep 0 48 [(0, .ref 248), (1, .int (0 : Int32))] (pI s 248 25 (7 : Int32)) Q) ∧ (¬ (3864 : Int32) ≤ a1 → vp_in (a1 + (552 : Int32)) 4416 ∧ vp_in a1 4416 ∧ BV MX12_keep 0 11 [(0, .ref 248), (1, .int (a1 + 1))] (pI s 255 (a1).toNatClampNeg (gI s 255 ((a1 + (552 : Int32))).toNatClampNeg)) Q))) : BV MX12_keep 0 11 [(0, .ref 248), (1, .int a1)] s Q := by
  refine JT_iload_n (q := 1) dX12_keep_11 rfl rfl ?_
  refine JT_sipush (v := 3864) dX12_keep_12 sp_3864 ?_
  refine JT_icmp_ge (tgt := 40) dX12_keep_15 (by decide) (fun hc3 => ?_) (fun hc3 => ?_)
  · have h := h.1 hc3
    refine JT_aload_n (q := 0) dX12_keep_40 rfl rfl ?_
    refine JT_bipush (v := 7) dX12_keep_41 bp_7 ?_
    refine JS_putI dX12_keep_43 flX12_250 BS_248 (Nat.le_of_ble_eq_true rfl) (Nat.le_of_ble_eq_true rfl) ct_12_25 ?_
    refine JT_iconst (v := 0) dX12_keep_46 ic_0 ?_
    refine JT_istore_n (lv' := [(1, .int (0 : Int32)), (0, .ref 248)]) dX12_keep_47 rfl (Nat.le_of_ble_eq_true rfl) rfl ?_
    exact JT_sub [1, 0] rfl h
  · have h := h.2 hc3
    refine JT_aload_n (q := 0) dX12_keep_18 rfl rfl ?_
    refine JS_getR (x := 255) dX12_keep_19 flX12_50 BS_248 (Nat.le_of_ble_eq_true rfl) (Nat.le_of_ble_eq_true rfl) (Or.inr ⟨_, ct_12_24⟩) RF_248_24 ?_
    refine JT_iload_n (q := 1) dX12_keep_22 rfl rfl ?_
    refine JT_aload_n (q := 0) dX12_keep_23 rfl rfl ?_
    refine JS_getR (x := 255) dX12_keep_24 flX12_50 BS_248 (Nat.le_of_ble_eq_true rfl) (Nat.le_of_ble_eq_true rfl) (Or.inr ⟨_, ct_12_24⟩) RF_248_24 ?_
    refine JT_iload_n (q := 1) dX12_keep_27 rfl rfl ?_
    refine JT_sipush (v := 552) dX12_keep_28 sp_552 ?_
    refine JT_iadd dX12_keep_31 ?_
    obtain ⟨o1, h⟩ := h
    refine JS_iald dX12_keep_32 BS_255 (Nat.le_of_ble_eq_true rfl) (Nat.le_of_ble_eq_true rfl) o1 ?_
    obtain ⟨o2, h⟩ := h
    refine JS_iast dX12_keep_33 BS_255 (Nat.le_of_ble_eq_true rfl) (Nat.le_of_ble_eq_true rfl) o2 ?_
    refine JT_iinc (q := 1) (v := (a1 + 1)) (lv' := [(1, .int (a1 + 1)), (0, .ref 248)]) dX12_keep_34 rfl (by rfl) (Nat.le_of_ble_eq_true rfl) rfl ?_
    refine JT_goto (tgt := 11) dX12_keep_37 (by decide) ?_
    exact JT_sub [1, 0] rfl h
set_option maxRecDepth 1000000 in
theorem bX12_keep_48 (a1 : Int32) {s : SM} {Q : SM → Prop} (h : (((552 : Int32) ≤ a1 → Q (pI s 248 25 ((gI s 248 25) + (1 : Int32)))) ∧ (¬ (552 : Int32) ≤ a1 → vp_in ((34 : Int32) + a1) 787 ∧ vp_in (((552 : Int32) * (gI s 248 25)) + a1) 4416 ∧ BV MX12_keep 0 48 [(0, .ref 248), (1, .int (a1 + 1))] (pI s 255 ((((552 : Int32) * (gI s 248 25)) + a1)).toNatClampNeg (gI s 250 (((34 : Int32) + a1)).toNatClampNeg)) Q))) : BV MX12_keep 0 48 [(0, .ref 248), (1, .int a1)] s Q := by
  refine JT_iload_n (q := 1) dX12_keep_48 rfl rfl ?_
  refine JT_sipush (v := 552) dX12_keep_49 sp_552 ?_
  refine JT_icmp_ge (tgt := 85) dX12_keep_52 (by decide) (fun hc3 => ?_) (fun hc3 => ?_)
  · have h := h.1 hc3
    refine JT_aload_n (q := 0) dX12_keep_85 rfl rfl ?_
    refine JT_dup dX12_keep_86 rfl ?_
    refine JS_getI dX12_keep_87 flX12_250 BS_248 (Nat.le_of_ble_eq_true rfl) (Nat.le_of_ble_eq_true rfl) (Or.inl ct_12_25) ?_
    refine JT_iconst (v := 1) dX12_keep_90 ic_1 ?_
    refine JT_iadd dX12_keep_91 ?_
    refine JS_putI dX12_keep_92 flX12_250 BS_248 (Nat.le_of_ble_eq_true rfl) (Nat.le_of_ble_eq_true rfl) ct_12_25 ?_
    exact JS_vret dX12_keep_95 rfl h
  · have h := h.2 hc3
    refine JT_aload_n (q := 0) dX12_keep_55 rfl rfl ?_
    refine JS_getR (x := 255) dX12_keep_56 flX12_50 BS_248 (Nat.le_of_ble_eq_true rfl) (Nat.le_of_ble_eq_true rfl) (Or.inr ⟨_, ct_12_24⟩) RF_248_24 ?_
    refine JT_sipush (v := 552) dX12_keep_59 sp_552 ?_
    refine JT_aload_n (q := 0) dX12_keep_62 rfl rfl ?_
    refine JS_getI dX12_keep_63 flX12_250 BS_248 (Nat.le_of_ble_eq_true rfl) (Nat.le_of_ble_eq_true rfl) (Or.inl ct_12_25) ?_
    refine JT_imul dX12_keep_66 ?_
    refine JT_iload_n (q := 1) dX12_keep_67 rfl rfl ?_
    refine JT_iadd dX12_keep_68 ?_
    refine JT_aload_n (q := 0) dX12_keep_69 rfl rfl ?_
    refine JS_getR (x := 250) dX12_keep_70 flX12_33 BS_248 (Nat.le_of_ble_eq_true rfl) (Nat.le_of_ble_eq_true rfl) (Or.inr ⟨_, ct_12_6⟩) RF_248_6 ?_
    refine JT_bipush (v := 34) dX12_keep_73 bp_34 ?_
    refine JT_iload_n (q := 1) dX12_keep_75 rfl rfl ?_
    refine JT_iadd dX12_keep_76 ?_
    obtain ⟨o1, h⟩ := h
    refine JS_iald dX12_keep_77 BS_250 (Nat.le_of_ble_eq_true rfl) (Nat.le_of_ble_eq_true rfl) o1 ?_
    obtain ⟨o2, h⟩ := h
    refine JS_iast dX12_keep_78 BS_255 (Nat.le_of_ble_eq_true rfl) (Nat.le_of_ble_eq_true rfl) o2 ?_
    refine JT_iinc (q := 1) (v := (a1 + 1)) (lv' := [(1, .int (a1 + 1)), (0, .ref 248)]) dX12_keep_79 rfl (by rfl) (Nat.le_of_ble_eq_true rfl) rfl ?_
    refine JT_goto (tgt := 48) dX12_keep_82 (by decide) ?_
    exact JT_sub [1, 0] rfl h
set_option maxRecDepth 1000000 in
theorem bX12_keep  {s : SM} {Q : SM → Prop} (h : ((¬ (gI s 248 25) = (8 : Int32) → BV MX12_keep 0 48 [(0, .ref 248), (1, .int (0 : Int32))] s Q) ∧ ((gI s 248 25) = (8 : Int32) → BV MX12_keep 0 11 [(0, .ref 248), (1, .int (0 : Int32))] s Q))) : KV MX12_keep 0 [.ref 248] s Q := by
  show BV MX12_keep 0 0 [(0, .ref 248)] s Q
  refine JT_aload_n (q := 0) dX12_keep_0 rfl rfl ?_
  refine JS_getI dX12_keep_1 flX12_250 BS_248 (Nat.le_of_ble_eq_true rfl) (Nat.le_of_ble_eq_true rfl) (Or.inl ct_12_25) ?_
  refine JT_bipush (v := 8) dX12_keep_4 bp_8 ?_
  refine JT_icmp_ne (tgt := 46) dX12_keep_6 (by decide) (fun hc1 => ?_) (fun hc1 => ?_)
  · have h := h.1 hc1
    refine JT_iconst (v := 0) dX12_keep_46 ic_0 ?_
    refine JT_istore_n (lv' := [(1, .int (0 : Int32)), (0, .ref 248)]) dX12_keep_47 rfl (Nat.le_of_ble_eq_true rfl) rfl ?_
    exact JT_sub [1, 0] rfl h
  · have h := h.2 hc1
    refine JT_iconst (v := 0) dX12_keep_9 ic_0 ?_
    refine JT_istore_n (lv' := [(1, .int (0 : Int32)), (0, .ref 248)]) dX12_keep_10 rfl (Nat.le_of_ble_eq_true rfl) rfl ?_
    exact JT_sub [1, 0] rfl h
set_option maxRecDepth 1000000 in
theorem gX12_keep  : ∀ n : Nat, (∀ (a1 : Int32) (s : SM) (Q : SM → Prop), ((qX12_keep n).1 s a1) → Q ((lX12_keep n).1 s a1) → BV MX12_keep 0 11 [(0, .ref 248), (1, .int a1)] s Q) ∧ (∀ (a1 : Int32) (s : SM) (Q : SM → Prop), ((qX12_keep n).2 s a1) → Q ((lX12_keep n).2 s a1) → BV MX12_keep 0 48 [(0, .ref 248), (1, .int a1)] s Q) := by
  intro n
  induction n with
  | zero => exact ⟨fun _ _ _ hq _ => absurd hq id, fun _ _ _ hq _ => absurd hq id⟩
  | succ n ih =>
    refine ⟨?_, ?_⟩
    · intro a1 s Q hr h
      replace hr : uX12_keep_11 (qX12_keep n) s a1 := hr
      replace h : Q (tX12_keep_11 (lX12_keep n) s a1) := h
      unfold uX12_keep_11 at hr
      unfold tX12_keep_11 at h
      refine bX12_keep_11 a1 ?_
      refine ⟨fun c => ?_, fun c => ?_⟩
      · replace hr := hr.1 c
        replace h := q1p c h
        first | exact ih.2 (0 : Int32) _ Q hr h | contradiction
      · replace hr := hr.2 c
        replace h := q1n c h
        refine ⟨hr.1, ?_⟩
        replace hr := hr.2
        refine ⟨hr.1, ?_⟩
        replace hr := hr.2
        first | exact ih.1 (a1 + 1) _ Q hr h | contradiction
    · intro a1 s Q hr h
      replace hr : uX12_keep_48 (qX12_keep n) s a1 := hr
      replace h : Q (tX12_keep_48 (lX12_keep n) s a1) := h
      unfold uX12_keep_48 at hr
      unfold tX12_keep_48 at h
      refine bX12_keep_48 a1 ?_
      refine ⟨fun c => ?_, fun c => ?_⟩
      · replace h := q1p c h
        first | exact h | contradiction
      · replace hr := hr c
        replace h := q1n c h
        refine ⟨hr.1, ?_⟩
        replace hr := hr.2
        refine ⟨hr.1, ?_⟩
        replace hr := hr.2
        first | exact ih.2 (a1 + 1) _ Q hr h | contradiction
set_option maxRecDepth 1000000 in
theorem pX12_keep  {s : SM} {Q : SM → Prop} (hr : rX12_keep s ) (h : Q (mX12_keep s )) : KV MX12_keep 0 [.ref 248] s Q := by
  replace h : Q (fX12_keep s ) := h
  unfold rX12_keep at hr
  unfold fX12_keep at h
  refine bX12_keep  ?_
  refine ⟨fun c => ?_, fun c => ?_⟩
  · replace hr := hr.1 c
    replace h := q1n c h
    first | exact (gX12_keep  FU).2 (0 : Int32) _ Q hr h | contradiction
  · replace hr := hr.2 c
    replace h := q1p c h
    first | exact (gX12_keep  FU).1 (0 : Int32) _ Q hr h | contradiction
set_option maxRecDepth 1000000 in
theorem bX12_keepsAll_2 (a1 : Int32) {s : SM} {Q : SM → Prop} (h : (((552 : Int32) ≤ a1 → Q s) ∧ (¬ (552 : Int32) ≤ a1 → vp_in ((34 : Int32) + a1) 787 ∧ vp_in a1 552 ∧ BV MX12_keepsAll 0 2 [(0, .ref 248), (1, .int (a1 + 1))] (pI s 259 (a1).toNatClampNeg (gI s 250 (((34 : Int32) + a1)).toNatClampNeg)) Q))) : BV MX12_keepsAll 0 2 [(0, .ref 248), (1, .int a1)] s Q := by
  refine JT_iload_n (q := 1) dX12_keepsAll_2 rfl rfl ?_
  refine JT_sipush (v := 552) dX12_keepsAll_3 sp_552 ?_
  refine JT_icmp_ge (tgt := 30) dX12_keepsAll_6 (by decide) (fun hc3 => ?_) (fun hc3 => ?_)
  · have h := h.1 hc3
    exact JS_vret dX12_keepsAll_30 rfl h
  · have h := h.2 hc3
    refine JT_aload_n (q := 0) dX12_keepsAll_9 rfl rfl ?_
    refine JS_getR (x := 259) dX12_keepsAll_10 flX12_62 BS_248 (Nat.le_of_ble_eq_true rfl) (Nat.le_of_ble_eq_true rfl) (Or.inr ⟨_, ct_12_31⟩) RF_248_31 ?_
    refine JT_iload_n (q := 1) dX12_keepsAll_13 rfl rfl ?_
    refine JT_aload_n (q := 0) dX12_keepsAll_14 rfl rfl ?_
    refine JS_getR (x := 250) dX12_keepsAll_15 flX12_33 BS_248 (Nat.le_of_ble_eq_true rfl) (Nat.le_of_ble_eq_true rfl) (Or.inr ⟨_, ct_12_6⟩) RF_248_6 ?_
    refine JT_bipush (v := 34) dX12_keepsAll_18 bp_34 ?_
    refine JT_iload_n (q := 1) dX12_keepsAll_20 rfl rfl ?_
    refine JT_iadd dX12_keepsAll_21 ?_
    obtain ⟨o1, h⟩ := h
    refine JS_iald dX12_keepsAll_22 BS_250 (Nat.le_of_ble_eq_true rfl) (Nat.le_of_ble_eq_true rfl) o1 ?_
    obtain ⟨o2, h⟩ := h
    refine JS_iast dX12_keepsAll_23 BS_259 (Nat.le_of_ble_eq_true rfl) (Nat.le_of_ble_eq_true rfl) o2 ?_
    refine JT_iinc (q := 1) (v := (a1 + 1)) (lv' := [(1, .int (a1 + 1)), (0, .ref 248)]) dX12_keepsAll_24 rfl (by rfl) (Nat.le_of_ble_eq_true rfl) rfl ?_
    refine JT_goto (tgt := 2) dX12_keepsAll_27 (by decide) ?_
    exact JT_sub [1, 0] rfl h
set_option maxRecDepth 1000000 in
theorem bX12_keepsAll  {s : SM} {Q : SM → Prop} (h : BV MX12_keepsAll 0 2 [(0, .ref 248), (1, .int (0 : Int32))] s Q) : KV MX12_keepsAll 0 [.ref 248] s Q := by
  show BV MX12_keepsAll 0 0 [(0, .ref 248)] s Q
  refine JT_iconst (v := 0) dX12_keepsAll_0 ic_0 ?_
  refine JT_istore_n (lv' := [(1, .int (0 : Int32)), (0, .ref 248)]) dX12_keepsAll_1 rfl (Nat.le_of_ble_eq_true rfl) rfl ?_
  exact JT_sub [1, 0] rfl h
set_option maxRecDepth 1000000 in
theorem gX12_keepsAll  : ∀ n : Nat, (∀ (a1 : Int32) (s : SM) (Q : SM → Prop), ((qX12_keepsAll n) s a1) → Q ((lX12_keepsAll n) s a1) → BV MX12_keepsAll 0 2 [(0, .ref 248), (1, .int a1)] s Q) := by
  intro n
  induction n with
  | zero => exact fun _ _ _ hq _ => absurd hq id
  | succ n ih =>
    intro a1 s Q hr h
    replace hr : uX12_keepsAll_2 (qX12_keepsAll n) s a1 := hr
    replace h : Q (tX12_keepsAll_2 (lX12_keepsAll n) s a1) := h
    unfold uX12_keepsAll_2 at hr
    unfold tX12_keepsAll_2 at h
    refine bX12_keepsAll_2 a1 ?_
    refine ⟨fun c => ?_, fun c => ?_⟩
    · replace h := q1p c h
      first | exact h | contradiction
    · replace hr := hr c
      replace h := q1n c h
      refine ⟨hr.1, ?_⟩
      replace hr := hr.2
      refine ⟨hr.1, ?_⟩
      replace hr := hr.2
      first | exact ih (a1 + 1) _ Q hr h | contradiction
set_option maxRecDepth 1000000 in
theorem pX12_keepsAll  {s : SM} {Q : SM → Prop} (hr : rX12_keepsAll s ) (h : Q (mX12_keepsAll s )) : KV MX12_keepsAll 0 [.ref 248] s Q := by
  replace h : Q (fX12_keepsAll s ) := h
  unfold rX12_keepsAll at hr
  unfold fX12_keepsAll at h
  refine bX12_keepsAll  ?_
  first | exact (gX12_keepsAll  FU) (0 : Int32) _ Q hr h | contradiction
set_option maxRecDepth 1000000 in
theorem bX12_living  {s : SM} {Q : Int32 → SM → Prop} (h : Q ((((1 : Int32) <<< ((gI s 250 ((0 : Int32)).toNatClampNeg) &&& 31)) - (1 : Int32)) &&& ((gI s 250 ((36 : Int32)).toNatClampNeg) ^^^ (-1 : Int32))) s) : KI MX12_living 0 [.ref 248] s Q := by
  show BI MX12_living 0 0 [(0, .ref 248)] s Q
  refine JT_iconst (v := 1) dX12_living_0 ic_1 ?_
  refine JT_aload_n (q := 0) dX12_living_1 rfl rfl ?_
  refine JS_getR (x := 250) dX12_living_2 flX12_33 BS_248 (Nat.le_of_ble_eq_true rfl) (Nat.le_of_ble_eq_true rfl) (Or.inr ⟨_, ct_12_6⟩) RF_248_6 ?_
  refine JT_iconst (v := 0) dX12_living_5 ic_0 ?_
  refine JS_iald dX12_living_6 BS_250 (Nat.le_of_ble_eq_true rfl) (Nat.le_of_ble_eq_true rfl) (by unfold vp_in; decide) ?_
  refine JT_ishl dX12_living_7 ?_
  refine JT_iconst (v := 1) dX12_living_8 ic_1 ?_
  refine JT_isub dX12_living_9 ?_
  refine JT_aload_n (q := 0) dX12_living_10 rfl rfl ?_
  refine JS_getR (x := 250) dX12_living_11 flX12_33 BS_248 (Nat.le_of_ble_eq_true rfl) (Nat.le_of_ble_eq_true rfl) (Or.inr ⟨_, ct_12_6⟩) RF_248_6 ?_
  refine JT_bipush (v := 36) dX12_living_14 bp_36 ?_
  refine JS_iald dX12_living_16 BS_250 (Nat.le_of_ble_eq_true rfl) (Nat.le_of_ble_eq_true rfl) (by unfold vp_in; decide) ?_
  refine JT_iconst (v := -1) dX12_living_17 ic_m1 ?_
  refine JT_ixor dX12_living_18 ?_
  refine JT_iand dX12_living_19 ?_
  exact JS_iret dX12_living_20 rfl rfl h
set_option maxRecDepth 1000000 in
theorem pX12_living  {s : SM} {Q : Int32 → SM → Prop} (h : Q (vX12_living s ) s) : KI MX12_living 0 [.ref 248] s Q := by
  refine bX12_living  ?_
  unfold vX12_living at h
  first | exact h | contradiction
set_option maxRecDepth 1000000 in
theorem bX12_octet (a1 : Int32) {s : SM} {Q : Int32 → SM → Prop} (h : vp_in a1 640 ∧ Q ((gI s 249 (a1).toNatClampNeg) &&& (255 : Int32)) s) : KI MX12_octet 0 [.ref 248, .int a1] s Q := by
  show BI MX12_octet 0 0 [(0, .ref 248), (1, .int a1)] s Q
  refine JT_aload_n (q := 0) dX12_octet_0 rfl rfl ?_
  refine JS_getR (x := 249) dX12_octet_1 flX12_14 BS_248 (Nat.le_of_ble_eq_true rfl) (Nat.le_of_ble_eq_true rfl) (Or.inr ⟨_, ct_12_1⟩) RF_248_1 ?_
  refine JT_iload_n (q := 1) dX12_octet_4 rfl rfl ?_
  obtain ⟨o1, h⟩ := h
  refine JS_bald dX12_octet_5 BS_249 (Nat.le_of_ble_eq_true rfl) (Nat.le_of_ble_eq_true rfl) o1 ?_
  refine JT_sipush (v := 255) dX12_octet_6 sp_255 ?_
  refine JT_iand dX12_octet_9 ?_
  exact JS_iret dX12_octet_10 rfl rfl h
set_option maxRecDepth 1000000 in
theorem pX12_octet (a1 : Int32) {s : SM} {Q : Int32 → SM → Prop} (hr : rX12_octet s a1) (h : Q (vX12_octet s a1) s) : KI MX12_octet 0 [.ref 248, .int a1] s Q := by
  refine bX12_octet a1 ?_
  unfold rX12_octet at hr
  unfold vX12_octet at h
  refine ⟨hr, ?_⟩
  first | exact h | contradiction
set_option maxRecDepth 1000000 in
theorem bX12_of (a1 : Int32) (a2 : Int32) {s : SM} {Q : Int32 → SM → Prop} (h : vp_in (((46 : Int32) + ((9 : Int32) * a1)) + a2) 787 ∧ Q (gI s 250 ((((46 : Int32) + ((9 : Int32) * a1)) + a2)).toNatClampNeg) s) : KI MX12_of 0 [.ref 248, .int a1, .int a2] s Q := by
  show BI MX12_of 0 0 [(0, .ref 248), (1, .int a1), (2, .int a2)] s Q
  refine JT_aload_n (q := 0) dX12_of_0 rfl rfl ?_
  refine JS_getR (x := 250) dX12_of_1 flX12_33 BS_248 (Nat.le_of_ble_eq_true rfl) (Nat.le_of_ble_eq_true rfl) (Or.inr ⟨_, ct_12_6⟩) RF_248_6 ?_
  refine JT_bipush (v := 46) dX12_of_4 bp_46 ?_
  refine JT_bipush (v := 9) dX12_of_6 bp_9 ?_
  refine JT_iload_n (q := 1) dX12_of_8 rfl rfl ?_
  refine JT_imul dX12_of_9 ?_
  refine JT_iadd dX12_of_10 ?_
  refine JT_iload_n (q := 2) dX12_of_11 rfl rfl ?_
  refine JT_iadd dX12_of_12 ?_
  obtain ⟨o1, h⟩ := h
  refine JS_iald dX12_of_13 BS_250 (Nat.le_of_ble_eq_true rfl) (Nat.le_of_ble_eq_true rfl) o1 ?_
  exact JS_iret dX12_of_14 rfl rfl h
set_option maxRecDepth 1000000 in
theorem pX12_of (a1 : Int32) (a2 : Int32) {s : SM} {Q : Int32 → SM → Prop} (hr : rX12_of s a1 a2) (h : Q (vX12_of s a1 a2) s) : KI MX12_of 0 [.ref 248, .int a1, .int a2] s Q := by
  refine bX12_of a1 a2 ?_
  unfold rX12_of at hr
  unfold vX12_of at h
  refine ⟨hr, ?_⟩
  first | exact h | contradiction
set_option maxRecDepth 1000000 in
theorem bX12_peek  {s : SM} {Q : Int32 → SM → Prop} (h : (((gI s 248 3) ≤ (gI s 248 4) → Q (-1 : Int32) s) ∧ (¬ (gI s 248 3) ≤ (gI s 248 4) → vp_in (gI s 248 4) 640 ∧ Q ((gI s 249 ((gI s 248 4)).toNatClampNeg) &&& (255 : Int32)) s))) : KI MX12_peek 0 [.ref 248] s Q := by
  show BI MX12_peek 0 0 [(0, .ref 248)] s Q
  refine JT_aload_n (q := 0) dX12_peek_0 rfl rfl ?_
  refine JS_getI dX12_peek_1 flX12_21 BS_248 (Nat.le_of_ble_eq_true rfl) (Nat.le_of_ble_eq_true rfl) (Or.inl ct_12_4) ?_
  refine JT_aload_n (q := 0) dX12_peek_4 rfl rfl ?_
  refine JS_getI dX12_peek_5 flX12_18 BS_248 (Nat.le_of_ble_eq_true rfl) (Nat.le_of_ble_eq_true rfl) (Or.inl ct_12_3) ?_
  refine JT_icmp_ge (tgt := 27) dX12_peek_8 (by decide) (fun hc2 => ?_) (fun hc2 => ?_)
  · have h := h.1 hc2
    refine JT_iconst (v := -1) dX12_peek_27 ic_m1 ?_
    exact JS_iret dX12_peek_28 rfl rfl h
  · have h := h.2 hc2
    refine JT_aload_n (q := 0) dX12_peek_11 rfl rfl ?_
    refine JS_getR (x := 249) dX12_peek_12 flX12_14 BS_248 (Nat.le_of_ble_eq_true rfl) (Nat.le_of_ble_eq_true rfl) (Or.inr ⟨_, ct_12_1⟩) RF_248_1 ?_
    refine JT_aload_n (q := 0) dX12_peek_15 rfl rfl ?_
    refine JS_getI dX12_peek_16 flX12_21 BS_248 (Nat.le_of_ble_eq_true rfl) (Nat.le_of_ble_eq_true rfl) (Or.inl ct_12_4) ?_
    obtain ⟨o1, h⟩ := h
    refine JS_bald dX12_peek_19 BS_249 (Nat.le_of_ble_eq_true rfl) (Nat.le_of_ble_eq_true rfl) o1 ?_
    refine JT_sipush (v := 255) dX12_peek_20 sp_255 ?_
    refine JT_iand dX12_peek_23 ?_
    refine JT_goto (tgt := 28) dX12_peek_24 (by decide) ?_
    exact JS_iret dX12_peek_28 rfl rfl h
set_option maxRecDepth 1000000 in
theorem pX12_peek  {s : SM} {Q : Int32 → SM → Prop} (hr : rX12_peek s ) (h : Q (vX12_peek s ) s) : KI MX12_peek 0 [.ref 248] s Q := by
  refine bX12_peek  ?_
  unfold rX12_peek at hr
  unfold vX12_peek at h
  refine ⟨fun c => ?_, fun c => ?_⟩
  · replace h := qlp c h
    first | exact h | contradiction
  · replace hr := hr c
    replace h := qln c h
    refine ⟨hr, ?_⟩
    first | exact h | contradiction
set_option maxRecDepth 1000000 in
theorem bX12_put (a1 : Int32) {s : SM} {Q : SM → Prop} (h : vp_in (gI s 248 35) 3600 ∧ (∀ s2, s2 = (pI (pI s 262 ((gI s 248 35)).toNatClampNeg (vp_nar .byte (a1).toInt8.toInt32)) 248 35 ((gI (pI s 262 ((gI s 248 35)).toNatClampNeg (vp_nar .byte (a1).toInt8.toInt32)) 248 35) + (1 : Int32))) → Q s2)) : KV MX12_put 0 [.ref 248, .int a1] s Q := by
  show BV MX12_put 0 0 [(0, .ref 248), (1, .int a1)] s Q
  refine JT_aload_n (q := 0) dX12_put_0 rfl rfl ?_
  refine JS_getR (x := 262) dX12_put_1 flX12_71 BS_248 (Nat.le_of_ble_eq_true rfl) (Nat.le_of_ble_eq_true rfl) (Or.inr ⟨_, ct_12_34⟩) RF_248_34 ?_
  refine JT_aload_n (q := 0) dX12_put_4 rfl rfl ?_
  refine JS_getI dX12_put_5 flX12_386 BS_248 (Nat.le_of_ble_eq_true rfl) (Nat.le_of_ble_eq_true rfl) (Or.inl ct_12_35) ?_
  refine JT_iload_n (q := 1) dX12_put_8 rfl rfl ?_
  refine JT_i2b dX12_put_9 ?_
  obtain ⟨o1, h⟩ := h
  refine JS_bast dX12_put_10 BS_262 (Nat.le_of_ble_eq_true rfl) (Nat.le_of_ble_eq_true rfl) o1 ?_
  refine JT_aload_n (q := 0) dX12_put_11 rfl rfl ?_
  refine JT_dup dX12_put_12 rfl ?_
  refine JS_getI dX12_put_13 flX12_386 BS_248 (Nat.le_of_ble_eq_true rfl) (Nat.le_of_ble_eq_true rfl) (Or.inl ct_12_35) ?_
  refine JT_iconst (v := 1) dX12_put_16 ic_1 ?_
  refine JT_iadd dX12_put_17 ?_
  refine JS_putI dX12_put_18 flX12_386 BS_248 (Nat.le_of_ble_eq_true rfl) (Nat.le_of_ble_eq_true rfl) ct_12_35 ?_
  obtain ⟨s2, hs2⟩ : ∃ z, z = (pI (pI s 262 ((gI s 248 35)).toNatClampNeg (vp_nar .byte (a1).toInt8.toInt32)) 248 35 ((gI (pI s 262 ((gI s 248 35)).toNatClampNeg (vp_nar .byte (a1).toInt8.toInt32)) 248 35) + (1 : Int32))) := ⟨_, rfl⟩
  replace h := h s2 hs2
  rw [← hs2]
  exact JS_vret dX12_put_21 rfl h
set_option maxRecDepth 1000000 in
theorem pX12_put (a1 : Int32) {s : SM} {Q : SM → Prop} (hr : rX12_put s a1) (h : Q (mX12_put s a1)) : KV MX12_put 0 [.ref 248, .int a1] s Q := by
  refine bX12_put a1 ?_
  unfold rX12_put at hr
  unfold mX12_put at h
  refine ⟨hr, ?_⟩
  intro s2 e9
  try rw [← e9] at h
  try dsimp only at h
  first | exact h | contradiction
set_option maxRecDepth 1000000 in
theorem bX12_set (a1 : Int32) (a2 : Int32) (a3 : Int32) {s : SM} {Q : SM → Prop} (h : vp_in (((46 : Int32) + ((9 : Int32) * a1)) + a2) 787 ∧ Q (pI s 250 ((((46 : Int32) + ((9 : Int32) * a1)) + a2)).toNatClampNeg a3)) : KV MX12_set 0 [.ref 248, .int a1, .int a2, .int a3] s Q := by
  show BV MX12_set 0 0 [(0, .ref 248), (1, .int a1), (2, .int a2), (3, .int a3)] s Q
  refine JT_aload_n (q := 0) dX12_set_0 rfl rfl ?_
  refine JS_getR (x := 250) dX12_set_1 flX12_33 BS_248 (Nat.le_of_ble_eq_true rfl) (Nat.le_of_ble_eq_true rfl) (Or.inr ⟨_, ct_12_6⟩) RF_248_6 ?_
  refine JT_bipush (v := 46) dX12_set_4 bp_46 ?_
  refine JT_bipush (v := 9) dX12_set_6 bp_9 ?_
  refine JT_iload_n (q := 1) dX12_set_8 rfl rfl ?_
  refine JT_imul dX12_set_9 ?_
  refine JT_iadd dX12_set_10 ?_
  refine JT_iload_n (q := 2) dX12_set_11 rfl rfl ?_
  refine JT_iadd dX12_set_12 ?_
  refine JT_iload_n (q := 3) dX12_set_13 rfl rfl ?_
  obtain ⟨o1, h⟩ := h
  refine JS_iast dX12_set_14 BS_250 (Nat.le_of_ble_eq_true rfl) (Nat.le_of_ble_eq_true rfl) o1 ?_
  exact JS_vret dX12_set_15 rfl h
set_option maxRecDepth 1000000 in
theorem pX12_set (a1 : Int32) (a2 : Int32) (a3 : Int32) {s : SM} {Q : SM → Prop} (hr : rX12_set s a1 a2 a3) (h : Q (mX12_set s a1 a2 a3)) : KV MX12_set 0 [.ref 248, .int a1, .int a2, .int a3] s Q := by
  refine bX12_set a1 a2 a3 ?_
  unfold rX12_set at hr
  unfold mX12_set at h
  refine ⟨hr, ?_⟩
  first | exact h | contradiction
set_option maxRecDepth 1000000 in
theorem bX12_taken (a1 : Int32) {s : SM} {Q : SM → Prop} (h : Q (pI (pI (pI (pI s 248 3 (gI s 248 2)) 248 2 (0 : Int32)) 248 4 (0 : Int32)) 248 5 a1)) : KV MX12_taken 0 [.ref 248, .int a1] s Q := by
  show BV MX12_taken 0 0 [(0, .ref 248), (1, .int a1)] s Q
  refine JT_aload_n (q := 0) dX12_taken_0 rfl rfl ?_
  refine JT_aload_n (q := 0) dX12_taken_1 rfl rfl ?_
  refine JS_getI dX12_taken_2 flX12_7 BS_248 (Nat.le_of_ble_eq_true rfl) (Nat.le_of_ble_eq_true rfl) (Or.inl ct_12_2) ?_
  refine JS_putI dX12_taken_5 flX12_18 BS_248 (Nat.le_of_ble_eq_true rfl) (Nat.le_of_ble_eq_true rfl) ct_12_3 ?_
  refine JT_aload_n (q := 0) dX12_taken_8 rfl rfl ?_
  refine JT_iconst (v := 0) dX12_taken_9 ic_0 ?_
  refine JS_putI dX12_taken_10 flX12_7 BS_248 (Nat.le_of_ble_eq_true rfl) (Nat.le_of_ble_eq_true rfl) ct_12_2 ?_
  refine JT_aload_n (q := 0) dX12_taken_13 rfl rfl ?_
  refine JT_iconst (v := 0) dX12_taken_14 ic_0 ?_
  refine JS_putI dX12_taken_15 flX12_21 BS_248 (Nat.le_of_ble_eq_true rfl) (Nat.le_of_ble_eq_true rfl) ct_12_4 ?_
  refine JT_aload_n (q := 0) dX12_taken_18 rfl rfl ?_
  refine JT_iload_n (q := 1) dX12_taken_19 rfl rfl ?_
  refine JS_putI dX12_taken_20 flX12_24 BS_248 (Nat.le_of_ble_eq_true rfl) (Nat.le_of_ble_eq_true rfl) ct_12_5 ?_
  exact JS_vret dX12_taken_23 rfl h
set_option maxRecDepth 1000000 in
theorem pX12_taken (a1 : Int32) {s : SM} {Q : SM → Prop} (h : Q (mX12_taken s a1)) : KV MX12_taken 0 [.ref 248, .int a1] s Q := by
  refine bX12_taken a1 ?_
  unfold mX12_taken at h
  first | exact h | contradiction
set_option maxRecDepth 1000000 in
theorem bX12_thrown  {s : SM} {Q : Int32 → SM → Prop} (h : Q (gI s 248 0) s) : KI MX12_thrown 0 [.ref 248] s Q := by
  show BI MX12_thrown 0 0 [(0, .ref 248)] s Q
  refine JT_aload_n (q := 0) dX12_thrown_0 rfl rfl ?_
  refine JS_getI dX12_thrown_1 flX12_1 BS_248 (Nat.le_of_ble_eq_true rfl) (Nat.le_of_ble_eq_true rfl) (Or.inl ct_12_0) ?_
  exact JS_iret dX12_thrown_4 rfl rfl h
set_option maxRecDepth 1000000 in
theorem pX12_thrown  {s : SM} {Q : Int32 → SM → Prop} (h : Q (vX12_thrown s ) s) : KI MX12_thrown 0 [.ref 248] s Q := by
  refine bX12_thrown  ?_
  unfold vX12_thrown at h
  first | exact h | contradiction
set_option maxRecDepth 1000000 in
theorem bX12_throwsIf (a1 : Int32) {s : SM} {Q : Int32 → SM → Prop} (h : (a1 = 0 ∨ a1 = 1) ∧ Q a1 (pI s 248 0 (if a1 = 0 then (0 : Int32) else (1 : Int32)))) : KI MX12_throwsIf 0 [.ref 248, .int a1] s Q := by
  show BI MX12_throwsIf 0 0 [(0, .ref 248), (1, .int a1)] s Q
  refine JT_aload_n (q := 0) dX12_throwsIf_0 rfl rfl ?_
  refine JT_iload_n (q := 1) dX12_throwsIf_1 rfl rfl ?_
  have hj1 : ∀ v : Int32, v = (if a1 = 0 then (0 : Int32) else (1 : Int32)) → JT MX12_throwsIf 0 0 0 10 [(0, .ref 248), (1, .int a1)] [.int v, .ref 248] (std s) (KQ Q) := by
    intro v hv
    subst hv
    refine JS_putI dX12_throwsIf_10 flX12_1 BS_248 (Nat.le_of_ble_eq_true rfl) (Nat.le_of_ble_eq_true rfl) ct_12_0 ?_
    refine JT_iload_n (q := 1) dX12_throwsIf_13 rfl rfl ?_
    exact JS_iret dX12_throwsIf_14 rfl (n01 h.1) h.2
  refine JT_if_eq (tgt := 9) dX12_throwsIf_2 (by decide) (fun hc2 => ?_) (fun hc2 => ?_)
  · refine JT_iconst (v := 0) dX12_throwsIf_9 ic_0 ?_
    exact hj1 _ (by rw [if_pos hc2])
  · refine JT_iconst (v := 1) dX12_throwsIf_5 ic_1 ?_
    refine JT_goto (tgt := 10) dX12_throwsIf_6 (by decide) ?_
    exact hj1 _ (by rw [if_neg hc2])
set_option maxRecDepth 1000000 in
theorem pX12_throwsIf (a1 : Int32) {s : SM} {Q : Int32 → SM → Prop} (hr : rX12_throwsIf s a1) (h : Q (vX12_throwsIf s a1) (mX12_throwsIf s a1)) : KI MX12_throwsIf 0 [.ref 248, .int a1] s Q := by
  refine bX12_throwsIf a1 ?_
  unfold rX12_throwsIf at hr
  unfold vX12_throwsIf mX12_throwsIf at h
  refine ⟨hr, ?_⟩
  first | exact h | contradiction
set_option maxRecDepth 1000000 in
theorem bX12_undo_26 (a1 : Int32) {s : SM} {Q : Int32 → SM → Prop} (h : (((552 : Int32) ≤ a1 → Q (gI s 248 25) s) ∧ (¬ (552 : Int32) ≤ a1 → vp_in (((552 : Int32) * (gI s 248 25)) + a1) 4416 ∧ vp_in ((34 : Int32) + a1) 787 ∧ BI MX12_undo 0 26 [(0, .ref 248), (1, .int (a1 + 1))] (pI s 250 (((34 : Int32) + a1)).toNatClampNeg (gI s 255 ((((552 : Int32) * (gI s 248 25)) + a1)).toNatClampNeg)) Q))) : BI MX12_undo 0 26 [(0, .ref 248), (1, .int a1)] s Q := by
  refine JT_iload_n (q := 1) dX12_undo_26 rfl rfl ?_
  refine JT_sipush (v := 552) dX12_undo_27 sp_552 ?_
  refine JT_icmp_ge (tgt := 63) dX12_undo_30 (by decide) (fun hc3 => ?_) (fun hc3 => ?_)
  · have h := h.1 hc3
    refine JT_aload_n (q := 0) dX12_undo_63 rfl rfl ?_
    refine JS_getI dX12_undo_64 flX12_250 BS_248 (Nat.le_of_ble_eq_true rfl) (Nat.le_of_ble_eq_true rfl) (Or.inl ct_12_25) ?_
    exact JS_iret dX12_undo_67 rfl rfl h
  · have h := h.2 hc3
    refine JT_aload_n (q := 0) dX12_undo_33 rfl rfl ?_
    refine JS_getR (x := 250) dX12_undo_34 flX12_33 BS_248 (Nat.le_of_ble_eq_true rfl) (Nat.le_of_ble_eq_true rfl) (Or.inr ⟨_, ct_12_6⟩) RF_248_6 ?_
    refine JT_bipush (v := 34) dX12_undo_37 bp_34 ?_
    refine JT_iload_n (q := 1) dX12_undo_39 rfl rfl ?_
    refine JT_iadd dX12_undo_40 ?_
    refine JT_aload_n (q := 0) dX12_undo_41 rfl rfl ?_
    refine JS_getR (x := 255) dX12_undo_42 flX12_50 BS_248 (Nat.le_of_ble_eq_true rfl) (Nat.le_of_ble_eq_true rfl) (Or.inr ⟨_, ct_12_24⟩) RF_248_24 ?_
    refine JT_sipush (v := 552) dX12_undo_45 sp_552 ?_
    refine JT_aload_n (q := 0) dX12_undo_48 rfl rfl ?_
    refine JS_getI dX12_undo_49 flX12_250 BS_248 (Nat.le_of_ble_eq_true rfl) (Nat.le_of_ble_eq_true rfl) (Or.inl ct_12_25) ?_
    refine JT_imul dX12_undo_52 ?_
    refine JT_iload_n (q := 1) dX12_undo_53 rfl rfl ?_
    refine JT_iadd dX12_undo_54 ?_
    obtain ⟨o1, h⟩ := h
    refine JS_iald dX12_undo_55 BS_255 (Nat.le_of_ble_eq_true rfl) (Nat.le_of_ble_eq_true rfl) o1 ?_
    obtain ⟨o2, h⟩ := h
    refine JS_iast dX12_undo_56 BS_250 (Nat.le_of_ble_eq_true rfl) (Nat.le_of_ble_eq_true rfl) o2 ?_
    refine JT_iinc (q := 1) (v := (a1 + 1)) (lv' := [(1, .int (a1 + 1)), (0, .ref 248)]) dX12_undo_57 rfl (by rfl) (Nat.le_of_ble_eq_true rfl) rfl ?_
    refine JT_goto (tgt := 26) dX12_undo_60 (by decide) ?_
    exact JT_sub [1, 0] rfl h
set_option maxRecDepth 1000000 in
theorem bX12_undo  {s : SM} {Q : Int32 → SM → Prop} (h : ((¬ (gI (pI s 248 0 (0 : Int32)) 248 25) = 0 → BI MX12_undo 0 26 [(0, .ref 248), (1, .int (0 : Int32))] (pI (pI s 248 0 (0 : Int32)) 248 25 ((gI (pI s 248 0 (0 : Int32)) 248 25) - (1 : Int32))) Q) ∧ ((gI (pI s 248 0 (0 : Int32)) 248 25) = 0 → Q (-1 : Int32) (pI s 248 0 (0 : Int32))))) : KI MX12_undo 0 [.ref 248] s Q := by
  show BI MX12_undo 0 0 [(0, .ref 248)] s Q
  refine JT_aload_n (q := 0) dX12_undo_0 rfl rfl ?_
  refine JT_iconst (v := 0) dX12_undo_1 ic_0 ?_
  refine JS_putI dX12_undo_2 flX12_1 BS_248 (Nat.le_of_ble_eq_true rfl) (Nat.le_of_ble_eq_true rfl) ct_12_0 ?_
  refine JT_aload_n (q := 0) dX12_undo_5 rfl rfl ?_
  refine JS_getI dX12_undo_6 flX12_250 BS_248 (Nat.le_of_ble_eq_true rfl) (Nat.le_of_ble_eq_true rfl) (Or.inl ct_12_25) ?_
  refine JT_if_ne (tgt := 14) dX12_undo_9 (by decide) (fun hc1 => ?_) (fun hc1 => ?_)
  · have h := h.1 hc1
    refine JT_aload_n (q := 0) dX12_undo_14 rfl rfl ?_
    refine JT_dup dX12_undo_15 rfl ?_
    refine JS_getI dX12_undo_16 flX12_250 BS_248 (Nat.le_of_ble_eq_true rfl) (Nat.le_of_ble_eq_true rfl) (Or.inl ct_12_25) ?_
    refine JT_iconst (v := 1) dX12_undo_19 ic_1 ?_
    refine JT_isub dX12_undo_20 ?_
    refine JS_putI dX12_undo_21 flX12_250 BS_248 (Nat.le_of_ble_eq_true rfl) (Nat.le_of_ble_eq_true rfl) ct_12_25 ?_
    refine JT_iconst (v := 0) dX12_undo_24 ic_0 ?_
    refine JT_istore_n (lv' := [(1, .int (0 : Int32)), (0, .ref 248)]) dX12_undo_25 rfl (Nat.le_of_ble_eq_true rfl) rfl ?_
    exact JT_sub [1, 0] rfl h
  · have h := h.2 hc1
    refine JT_iconst (v := -1) dX12_undo_12 ic_m1 ?_
    exact JS_iret dX12_undo_13 rfl rfl h
set_option maxRecDepth 1000000 in
theorem gX12_undo  : ∀ n : Nat, (∀ (a1 : Int32) (s : SM) (Q : Int32 → SM → Prop), ((qX12_undo n) s a1) → Q ((lX12_undo n) s a1).1 ((lX12_undo n) s a1).2 → BI MX12_undo 0 26 [(0, .ref 248), (1, .int a1)] s Q) := by
  intro n
  induction n with
  | zero => exact fun _ _ _ hq _ => absurd hq id
  | succ n ih =>
    intro a1 s Q hr h
    replace hr : uX12_undo_26 (qX12_undo n) s a1 := hr
    replace h : Q (tX12_undo_26 (lX12_undo n) s a1).1 (tX12_undo_26 (lX12_undo n) s a1).2 := h
    unfold uX12_undo_26 at hr
    unfold tX12_undo_26 at h
    refine bX12_undo_26 a1 ?_
    refine ⟨fun c => ?_, fun c => ?_⟩
    · replace h := q3p c h
      first | exact h | contradiction
    · replace hr := hr c
      replace h := q3n c h
      refine ⟨hr.1, ?_⟩
      replace hr := hr.2
      refine ⟨hr.1, ?_⟩
      replace hr := hr.2
      first | exact ih (a1 + 1) _ Q hr h | contradiction
set_option maxRecDepth 1000000 in
theorem pX12_undo  {s : SM} {Q : Int32 → SM → Prop} (hr : rX12_undo s ) (h : Q (vX12_undo s ) (mX12_undo s )) : KI MX12_undo 0 [.ref 248] s Q := by
  replace h : Q (fX12_undo s ).1 (fX12_undo s ).2 := h
  unfold rX12_undo at hr
  unfold fX12_undo at h
  refine bX12_undo  ?_
  refine ⟨fun c => ?_, fun c => ?_⟩
  · replace hr := hr c
    replace h := q3n c h
    first | exact (gX12_undo  FU) (0 : Int32) _ Q hr h | contradiction
  · replace h := q3p c h
    first | exact h | contradiction
set_option maxRecDepth 1000000 in
theorem bX12_valueBy (a1 : Int32) (a2 : Int32) {s : SM} {Q : Int32 → SM → Prop} (h : ((¬ a2 = (1 : Int32) → ((¬ a2 = (2 : Int32) → Q (if a2 = (3 : Int32) then (0 : Int32) else a1) s) ∧ (a2 = (2 : Int32) → Q (a1 / (2 : Int32)) s))) ∧ (a2 = (1 : Int32) → Q ((2 : Int32) * a1) s))) : KI MX12_valueBy 0 [.ref 248, .int a1, .int a2] s Q := by
  show BI MX12_valueBy 0 0 [(0, .ref 248), (1, .int a1), (2, .int a2)] s Q
  refine JT_iload_n (q := 2) dX12_valueBy_0 rfl rfl ?_
  refine JT_iconst (v := 1) dX12_valueBy_1 ic_1 ?_
  refine JT_icmp_ne (tgt := 11) dX12_valueBy_2 (by decide) (fun hc4 => ?_) (fun hc4 => ?_)
  · have h := h.1 hc4
    refine JT_iload_n (q := 2) dX12_valueBy_11 rfl rfl ?_
    refine JT_iconst (v := 2) dX12_valueBy_12 ic_2 ?_
    refine JT_icmp_ne (tgt := 22) dX12_valueBy_13 (by decide) (fun hc3 => ?_) (fun hc3 => ?_)
    · have h := h.1 hc3
      refine JT_iload_n (q := 2) dX12_valueBy_22 rfl rfl ?_
      refine JT_iconst (v := 3) dX12_valueBy_23 ic_3 ?_
      have hj1 : ∀ v : Int32, v = (if a2 = (3 : Int32) then (0 : Int32) else a1) → JT MX12_valueBy 0 0 0 32 [(0, .ref 248), (1, .int a1), (2, .int a2)] [.int v] (std s) (KQ Q) := by
        intro v hv
        subst hv
        exact JS_iret dX12_valueBy_32 rfl rfl h
      refine JT_icmp_ne (tgt := 31) dX12_valueBy_24 (by decide) (fun hc2 => ?_) (fun hc2 => ?_)
      · refine JT_iload_n (q := 1) dX12_valueBy_31 rfl rfl ?_
        exact hj1 _ (by rw [if_neg hc2])
      · refine JT_iconst (v := 0) dX12_valueBy_27 ic_0 ?_
        refine JT_goto (tgt := 32) dX12_valueBy_28 (by decide) ?_
        exact hj1 _ (by rw [if_pos hc2])
    · have h := h.2 hc3
      refine JT_iload_n (q := 1) dX12_valueBy_16 rfl rfl ?_
      refine JT_iconst (v := 2) dX12_valueBy_17 ic_2 ?_
      refine JT_idiv dX12_valueBy_18 (by decide) ?_
      refine JT_goto (tgt := 32) dX12_valueBy_19 (by decide) ?_
      exact JS_iret dX12_valueBy_32 rfl rfl h
  · have h := h.2 hc4
    refine JT_iconst (v := 2) dX12_valueBy_5 ic_2 ?_
    refine JT_iload_n (q := 1) dX12_valueBy_6 rfl rfl ?_
    refine JT_imul dX12_valueBy_7 ?_
    refine JT_goto (tgt := 32) dX12_valueBy_8 (by decide) ?_
    exact JS_iret dX12_valueBy_32 rfl rfl h
set_option maxRecDepth 1000000 in
theorem pX12_valueBy (a1 : Int32) (a2 : Int32) {s : SM} {Q : Int32 → SM → Prop} (h : Q (vX12_valueBy s a1 a2) s) : KI MX12_valueBy 0 [.ref 248, .int a1, .int a2] s Q := by
  refine bX12_valueBy a1 a2 ?_
  unfold vX12_valueBy at h
  refine ⟨fun c => ?_, fun c => ?_⟩
  · replace h := qln c h
    refine ⟨fun c => ?_, fun c => ?_⟩
    · replace h := qln c h
      first | exact h | contradiction
    · replace h := qlp c h
      first | exact h | contradiction
  · replace h := qlp c h
    first | exact h | contradiction
set_option maxRecDepth 1000000 in
theorem bX1_aboutSum (a1 : Int32) (a2 : Int32) {s : SM} {Q : Int32 → SM → Prop} (h : gD s 2 = some (gDx s 2) ∧ ((gDx s 2), rfx (gDx s 2) 8) ∈ LX ∧ vp_in a1 6 ∧ (((gI s ((rfx (gDx s 2) 8) + 6) (a1).toNatClampNeg) = 1 → Q (a2 / (2 : Int32)) s) ∧ ((gI s ((rfx (gDx s 2) 8) + 6) (a1).toNatClampNeg) = 2 → Q ((2 : Int32) * a2) s) ∧ ((¬ (gI s ((rfx (gDx s 2) 8) + 6) (a1).toNatClampNeg) = 1 ∧ ¬ (gI s ((rfx (gDx s 2) 8) + 6) (a1).toNatClampNeg) = 2) → Q a2 s))) : KI MX1_aboutSum 0 [.ref 233, .int a1, .int a2] s Q := by
  show BI MX1_aboutSum 0 0 [(0, .ref 233), (1, .int a1), (2, .int a2)] s Q
  refine JT_aload_n (q := 0) dX1_aboutSum_0 rfl rfl ?_
  obtain ⟨hr1, hL2, h⟩ := h
  refine JS_getR (x := (gDx s 2)) dX1_aboutSum_1 flX1_30 BS_233 (Nat.le_of_ble_eq_true rfl) (Nat.le_of_ble_eq_true rfl) (Or.inl ⟨_, ct_1_11⟩) (RF_233_11.trans hr1) ?_
  refine JS_getR (x := (rfx (gDx s 2) 8)) dX1_aboutSum_4 flX1_34 (lxB hL2) (lx2 hL2) (lxN hL2) (Or.inl ⟨_, ct_4_8⟩) (lxR8 hL2) ?_
  refine JS_getR (x := ((rfx (gDx s 2) 8) + 6)) dX1_aboutSum_7 flX1_125 (pxB (lxP hL2)) (px2 (lxP hL2)) (pxN (lxP hL2)) (Or.inr ⟨_, ct_6_5⟩) (pxR5 (lxP hL2)) ?_
  refine JT_iload_n (q := 1) dX1_aboutSum_10 rfl rfl ?_
  obtain ⟨o3, h⟩ := h
  refine JS_iald dX1_aboutSum_11 (pxB6 (lxP hL2)) (px2k (lxP hL2) _) (pxNk (lxP hL2) (Nat.le_of_ble_eq_true rfl)) o3 ?_
  by_cases hc4 : (gI s ((rfx (gDx s 2) 8) + 6) (a1).toNatClampNeg) = 1
  · have h := h.1 hc4
    refine JT_lookup (off := 28) (tgt := 40) dX1_aboutSum_12 (by decide) (by rw [hc4]; decide) (by decide) ?_
    refine JT_iload_n (q := 2) dX1_aboutSum_40 rfl rfl ?_
    refine JT_iconst (v := 2) dX1_aboutSum_41 ic_2 ?_
    refine JT_idiv dX1_aboutSum_42 (by decide) ?_
    exact JS_iret dX1_aboutSum_43 rfl rfl h
  by_cases hc5 : (gI s ((rfx (gDx s 2) 8) + 6) (a1).toNatClampNeg) = 2
  · have h := h.2.1 hc5
    refine JT_lookup (off := 32) (tgt := 44) dX1_aboutSum_12 (by decide) (by rw [hc5]; decide) (by decide) ?_
    refine JT_iconst (v := 2) dX1_aboutSum_44 ic_2 ?_
    refine JT_iload_n (q := 2) dX1_aboutSum_45 rfl rfl ?_
    refine JT_imul dX1_aboutSum_46 ?_
    exact JS_iret dX1_aboutSum_47 rfl rfl h
  have h := h.2.2 ⟨hc4, hc5⟩
  refine JT_lookup (off := 36) (tgt := 48) dX1_aboutSum_12 (by decide) (by show Op.lookupswitch.offset [(1, 28), (2, 32)] (36) _ = _; rw [Op.lookupswitch.offset_cons, if_neg (fun q => hc4 (i32_of_toInt q.symm)), Op.lookupswitch.offset_cons, if_neg (fun q => hc5 (i32_of_toInt q.symm)), Op.lookupswitch.offset_nil]) (by decide) ?_
  refine JT_iload_n (q := 2) dX1_aboutSum_48 rfl rfl ?_
  exact JS_iret dX1_aboutSum_49 rfl rfl h
set_option maxRecDepth 1000000 in
theorem pX1_aboutSum (a1 : Int32) (a2 : Int32) {s : SM} {Q : Int32 → SM → Prop} (hr : rX1_aboutSum s a1 a2) (h : Q (vX1_aboutSum s a1 a2) s) : KI MX1_aboutSum 0 [.ref 233, .int a1, .int a2] s Q := by
  refine bX1_aboutSum a1 a2 ?_
  unfold rX1_aboutSum at hr
  unfold vX1_aboutSum at h
  refine ⟨hr.1, ?_⟩
  replace hr := hr.2
  refine ⟨hr.1, ?_⟩
  replace hr := hr.2
  refine ⟨hr, ?_⟩
  refine ⟨fun c => ?_, fun c => ?_, fun c => ?_⟩
  · replace h := qlp c h
    first | exact h | contradiction
  · have n1 : ¬ (gI s ((rfx (gDx s 2) 8) + 6) (a1).toNatClampNeg) = (1 : Int32) := by rw [c]; decide
    replace h := qln n1 h
    replace h := qlp c h
    first | exact h | contradiction
  · replace h := qln c.1 h
    replace h := qln c.2 h
    first | exact h | contradiction
set_option maxRecDepth 1000000 in
theorem bX1_told (a1 : Int32) (a2 : Int32) {s : SM} {Q : Int32 → SM → Prop} (h : ((a1 < 0 → Q (-1 : Int32) s) ∧ (¬ a1 < 0 → (((gI s 233 7) ≤ a1 → Q (-1 : Int32) s) ∧ (¬ (gI s 233 7) ≤ a1 → (((4 : Int32) ≤ a1 → Q (-1 : Int32) s) ∧ (¬ (4 : Int32) ≤ a1 → (((gI s 233 9) = 0 → Q (-1 : Int32) s) ∧ (¬ (gI s 233 9) = 0 → ((a2 < 0 → Q (-1 : Int32) s) ∧ (¬ a2 < 0 → ((a2 ≤ (1 : Int32) → ((¬ a2 = 0 → vp_in a1 4 ∧ Q (gI s 237 (a1).toNatClampNeg) s) ∧ (a2 = 0 → vp_in a1 4 ∧ Q (gI s 236 (a1).toNatClampNeg) s))) ∧ (¬ a2 ≤ (1 : Int32) → Q (-1 : Int32) s))))))))))))) : KI MX1_told 0 [.ref 233, .int a1, .int a2] s Q := by
  show BI MX1_told 0 0 [(0, .ref 233), (1, .int a1), (2, .int a2)] s Q
  refine JT_iload_n (q := 1) dX1_told_0 rfl rfl ?_
  refine JT_if_lt (tgt := 33) dX1_told_1 (by decide) (fun hc9 => ?_) (fun hc9 => ?_)
  · have h := h.1 hc9
    refine JT_iconst (v := -1) dX1_told_33 ic_m1 ?_
    exact JS_iret dX1_told_34 rfl rfl h
  · have h := h.2 hc9
    refine JT_iload_n (q := 1) dX1_told_4 rfl rfl ?_
    refine JT_aload_n (q := 0) dX1_told_5 rfl rfl ?_
    refine JS_getI dX1_told_6 flX1_99 BS_233 (Nat.le_of_ble_eq_true rfl) (Nat.le_of_ble_eq_true rfl) (Or.inl ct_1_7) ?_
    refine JT_icmp_ge (tgt := 33) dX1_told_9 (by decide) (fun hc8 => ?_) (fun hc8 => ?_)
    · have h := h.1 hc8
      refine JT_iconst (v := -1) dX1_told_33 ic_m1 ?_
      exact JS_iret dX1_told_34 rfl rfl h
    · have h := h.2 hc8
      refine JT_iload_n (q := 1) dX1_told_12 rfl rfl ?_
      refine JT_iconst (v := 4) dX1_told_13 ic_4 ?_
      refine JT_icmp_ge (tgt := 33) dX1_told_14 (by decide) (fun hc7 => ?_) (fun hc7 => ?_)
      · have h := h.1 hc7
        refine JT_iconst (v := -1) dX1_told_33 ic_m1 ?_
        exact JS_iret dX1_told_34 rfl rfl h
      · have h := h.2 hc7
        refine JT_aload_n (q := 0) dX1_told_17 rfl rfl ?_
        refine JS_getI dX1_told_18 flX1_96 BS_233 (Nat.le_of_ble_eq_true rfl) (Nat.le_of_ble_eq_true rfl) (Or.inl ct_1_9) ?_
        refine JT_if_eq (tgt := 33) dX1_told_21 (by decide) (fun hc6 => ?_) (fun hc6 => ?_)
        · have h := h.1 hc6
          refine JT_iconst (v := -1) dX1_told_33 ic_m1 ?_
          exact JS_iret dX1_told_34 rfl rfl h
        · have h := h.2 hc6
          refine JT_iload_n (q := 2) dX1_told_24 rfl rfl ?_
          refine JT_if_lt (tgt := 33) dX1_told_25 (by decide) (fun hc5 => ?_) (fun hc5 => ?_)
          · have h := h.1 hc5
            refine JT_iconst (v := -1) dX1_told_33 ic_m1 ?_
            exact JS_iret dX1_told_34 rfl rfl h
          · have h := h.2 hc5
            refine JT_iload_n (q := 2) dX1_told_28 rfl rfl ?_
            refine JT_iconst (v := 1) dX1_told_29 ic_1 ?_
            refine JT_icmp_le (tgt := 35) dX1_told_30 (by decide) (fun hc4 => ?_) (fun hc4 => ?_)
            · have h := h.1 hc4
              refine JT_iload_n (q := 2) dX1_told_35 rfl rfl ?_
              refine JT_if_ne (tgt := 48) dX1_told_36 (by decide) (fun hc3 => ?_) (fun hc3 => ?_)
              · have h := h.1 hc3
                refine JT_aload_n (q := 0) dX1_told_48 rfl rfl ?_
                refine JS_getR (x := 237) dX1_told_49 flX1_21 BS_233 (Nat.le_of_ble_eq_true rfl) (Nat.le_of_ble_eq_true rfl) (Or.inr ⟨_, ct_1_3⟩) RF_233_3 ?_
                refine JT_iload_n (q := 1) dX1_told_52 rfl rfl ?_
                obtain ⟨o1, h⟩ := h
                refine JS_iald dX1_told_53 BS_237 (Nat.le_of_ble_eq_true rfl) (Nat.le_of_ble_eq_true rfl) o1 ?_
                exact JS_iret dX1_told_54 rfl rfl h
              · have h := h.2 hc3
                refine JT_aload_n (q := 0) dX1_told_39 rfl rfl ?_
                refine JS_getR (x := 236) dX1_told_40 flX1_18 BS_233 (Nat.le_of_ble_eq_true rfl) (Nat.le_of_ble_eq_true rfl) (Or.inr ⟨_, ct_1_2⟩) RF_233_2 ?_
                refine JT_iload_n (q := 1) dX1_told_43 rfl rfl ?_
                obtain ⟨o2, h⟩ := h
                refine JS_iald dX1_told_44 BS_236 (Nat.le_of_ble_eq_true rfl) (Nat.le_of_ble_eq_true rfl) o2 ?_
                refine JT_goto (tgt := 54) dX1_told_45 (by decide) ?_
                exact JS_iret dX1_told_54 rfl rfl h
            · have h := h.2 hc4
              refine JT_iconst (v := -1) dX1_told_33 ic_m1 ?_
              exact JS_iret dX1_told_34 rfl rfl h
set_option maxRecDepth 1000000 in
theorem pX1_told (a1 : Int32) (a2 : Int32) {s : SM} {Q : Int32 → SM → Prop} (hr : rX1_told s a1 a2) (h : Q (vX1_told s a1 a2) s) : KI MX1_told 0 [.ref 233, .int a1, .int a2] s Q := by
  refine bX1_told a1 a2 ?_
  unfold rX1_told at hr
  unfold vX1_told at h
  refine ⟨fun c => ?_, fun c => ?_⟩
  · replace h := qlp c h
    first | exact h | contradiction
  · replace hr := hr c
    replace h := qln c h
    refine ⟨fun c => ?_, fun c => ?_⟩
    · replace h := qlp c h
      first | exact h | contradiction
    · replace hr := hr c
      replace h := qln c h
      refine ⟨fun c => ?_, fun c => ?_⟩
      · replace h := qlp c h
        first | exact h | contradiction
      · replace hr := hr c
        replace h := qln c h
        refine ⟨fun c => ?_, fun c => ?_⟩
        · replace h := qlp c h
          first | exact h | contradiction
        · replace hr := hr c
          replace h := qln c h
          refine ⟨fun c => ?_, fun c => ?_⟩
          · replace h := qlp c h
            first | exact h | contradiction
          · replace hr := hr c
            replace h := qln c h
            refine ⟨fun c => ?_, fun c => ?_⟩
            · replace hr := hr c
              replace h := qlp c h
              refine ⟨fun c => ?_, fun c => ?_⟩
              · replace hr := hr.1 c
                replace h := qln c h
                refine ⟨hr, ?_⟩
                first | exact h | contradiction
              · replace hr := hr.2 c
                replace h := qlp c h
                refine ⟨hr, ?_⟩
                first | exact h | contradiction
            · replace h := qln c h
              first | exact h | contradiction
set_option maxRecDepth 1000000 in
theorem bX2_forget  {s : SM} {Q : SM → Prop} (h : Q (pI s 55 2 (0 : Int32))) : KV MX2_forget 0 [.ref 55] s Q := by
  show BV MX2_forget 0 0 [(0, .ref 55)] s Q
  refine JT_aload_n (q := 0) dX2_forget_0 rfl rfl ?_
  refine JT_iconst (v := 0) dX2_forget_1 ic_0 ?_
  refine JS_putI dX2_forget_2 flX2_20 BS_55 (Nat.le_of_ble_eq_true rfl) (Nat.le_of_ble_eq_true rfl) ct_2_2 ?_
  exact JS_vret dX2_forget_5 rfl h
set_option maxRecDepth 1000000 in
theorem pX2_forget  {s : SM} {Q : SM → Prop} (h : Q (mX2_forget s )) : KV MX2_forget 0 [.ref 55] s Q := by
  refine bX2_forget  ?_
  unfold mX2_forget at h
  first | exact h | contradiction
set_option maxRecDepth 1000000 in
theorem bX4_bearer {L0 P0 : Nat} (hL0 : (L0, P0) ∈ LX) (a1 : Int32) (a2 : Int32) {s : SM} {Q : Int32 → SM → Prop} (h : ((¬ a2 = 0 → vp_in a1 60 ∧ Q (gI s (L0 + 10) (a1).toNatClampNeg) s) ∧ (a2 = 0 → vp_in a1 60 ∧ Q (gI s (L0 + 9) (a1).toNatClampNeg) s))) : KI MX4_bearer 0 [.ref L0, .int a1, .int a2] s Q := by
  show BI MX4_bearer 0 0 [(0, .ref L0), (1, .int a1), (2, .int a2)] s Q
  refine JT_iload_n (q := 2) dX4_bearer_0 rfl rfl ?_
  refine JT_if_ne (tgt := 13) dX4_bearer_1 (by decide) (fun hc3 => ?_) (fun hc3 => ?_)
  · have h := h.1 hc3
    refine JT_aload_n (q := 0) dX4_bearer_13 rfl rfl ?_
    refine JS_getR (x := (L0 + 10)) dX4_bearer_14 flX4_39 (lxB hL0) (lx2 hL0) (lxN hL0) (Or.inr ⟨_, ct_4_12⟩) (lxR12 hL0) ?_
    refine JT_iload_n (q := 1) dX4_bearer_17 rfl rfl ?_
    obtain ⟨o1, h⟩ := h
    refine JS_iald dX4_bearer_18 (lxB10 hL0) (lx2k hL0 _) (lxNk hL0 (Nat.le_of_ble_eq_true rfl)) o1 ?_
    exact JS_iret dX4_bearer_19 rfl rfl h
  · have h := h.2 hc3
    refine JT_aload_n (q := 0) dX4_bearer_4 rfl rfl ?_
    refine JS_getR (x := (L0 + 9)) dX4_bearer_5 flX4_36 (lxB hL0) (lx2 hL0) (lxN hL0) (Or.inr ⟨_, ct_4_11⟩) (lxR11 hL0) ?_
    refine JT_iload_n (q := 1) dX4_bearer_8 rfl rfl ?_
    obtain ⟨o2, h⟩ := h
    refine JS_iald dX4_bearer_9 (lxB9 hL0) (lx2k hL0 _) (lxNk hL0 (Nat.le_of_ble_eq_true rfl)) o2 ?_
    refine JT_goto (tgt := 19) dX4_bearer_10 (by decide) ?_
    exact JS_iret dX4_bearer_19 rfl rfl h
set_option maxRecDepth 1000000 in
theorem pX4_bearer {L0 P0 : Nat} (hL0 : (L0, P0) ∈ LX) (a1 : Int32) (a2 : Int32) {s : SM} {Q : Int32 → SM → Prop} (hr : rX4_bearer s L0 P0 a1 a2) (h : Q (vX4_bearer s L0 P0 a1 a2) s) : KI MX4_bearer 0 [.ref L0, .int a1, .int a2] s Q := by
  refine bX4_bearer hL0 a1 a2 ?_
  unfold rX4_bearer at hr
  unfold vX4_bearer at h
  refine ⟨fun c => ?_, fun c => ?_⟩
  · replace hr := hr.1 c
    replace h := qln c h
    refine ⟨hr, ?_⟩
    first | exact h | contradiction
  · replace hr := hr.2 c
    replace h := qlp c h
    refine ⟨hr, ?_⟩
    first | exact h | contradiction
set_option maxRecDepth 1000000 in
theorem bX4_begin_17 {L0 P0 : Nat} (hL0 : (L0, P0) ∈ LX) (a1 : Int32) {s : SM} {Q : SM → Prop} (h : (((9 : Int32) ≤ a1 → Q s) ∧ (¬ (9 : Int32) ≤ a1 → vp_in a1 9 ∧ vp_in a1 9 ∧ vp_in a1 9 ∧ BV MX4_begin 0 17 [(0, .ref L0), (1, .int (a1 + 1))] (pI (pI s (L0 + 7) (a1).toNatClampNeg (gI s (P0 + 2) (a1).toNatClampNeg)) (L0 + 8) (a1).toNatClampNeg (0 : Int32)) Q))) : BV MX4_begin 0 17 [(0, .ref L0), (1, .int a1)] s Q := by
  refine JT_iload_n (q := 1) dX4_begin_17 rfl rfl ?_
  refine JT_bipush (v := 9) dX4_begin_18 bp_9 ?_
  refine JT_icmp_ge (tgt := 51) dX4_begin_20 (by decide) (fun hc4 => ?_) (fun hc4 => ?_)
  · have h := h.1 hc4
    exact JS_vret dX4_begin_51 rfl h
  · have h := h.2 hc4
    refine JT_aload_n (q := 0) dX4_begin_23 rfl rfl ?_
    refine JS_getR (x := (L0 + 7)) dX4_begin_24 flX4_30 (lxB hL0) (lx2 hL0) (lxN hL0) (Or.inr ⟨_, ct_4_6⟩) (lxR6 hL0) ?_
    refine JT_iload_n (q := 1) dX4_begin_27 rfl rfl ?_
    refine JT_aload_n (q := 0) dX4_begin_28 rfl rfl ?_
    refine JS_getR (x := P0) dX4_begin_29 flX4_45 (lxB hL0) (lx2 hL0) (lxN hL0) (Or.inl ⟨_, ct_4_8⟩) (lxR8 hL0) ?_
    refine JS_getR (x := (P0 + 2)) dX4_begin_32 flX4_59 (pxB (lxP hL0)) (px2 (lxP hL0)) (pxN (lxP hL0)) (Or.inr ⟨_, ct_6_1⟩) (pxR1 (lxP hL0)) ?_
    refine JT_iload_n (q := 1) dX4_begin_35 rfl rfl ?_
    obtain ⟨o1, h⟩ := h
    refine JS_iald dX4_begin_36 (pxB2 (lxP hL0)) (px2k (lxP hL0) _) (pxNk (lxP hL0) (Nat.le_of_ble_eq_true rfl)) o1 ?_
    obtain ⟨o2, h⟩ := h
    refine JS_iast dX4_begin_37 (lxB7 hL0) (lx2k hL0 _) (lxNk hL0 (Nat.le_of_ble_eq_true rfl)) o2 ?_
    refine JT_aload_n (q := 0) dX4_begin_38 rfl rfl ?_
    refine JS_getR (x := (L0 + 8)) dX4_begin_39 flX4_33 (lxB hL0) (lx2 hL0) (lxN hL0) (Or.inr ⟨_, ct_4_7⟩) (lxR7 hL0) ?_
    refine JT_iload_n (q := 1) dX4_begin_42 rfl rfl ?_
    refine JT_iconst (v := 0) dX4_begin_43 ic_0 ?_
    obtain ⟨o3, h⟩ := h
    refine JS_iast dX4_begin_44 (lxB8 hL0) (lx2k hL0 _) (lxNk hL0 (Nat.le_of_ble_eq_true rfl)) o3 ?_
    refine JT_iinc (q := 1) (v := (a1 + 1)) (lv' := [(1, .int (a1 + 1)), (0, .ref L0)]) dX4_begin_45 rfl (by rfl) (Nat.le_of_ble_eq_true rfl) rfl ?_
    refine JT_goto (tgt := 17) dX4_begin_48 (by decide) ?_
    exact JT_sub [1, 0] rfl h
set_option maxRecDepth 1000000 in
theorem bX4_begin {L0 P0 : Nat} (hL0 : (L0, P0) ∈ LX) {s : SM} {Q : SM → Prop} (h : BV MX4_begin 0 17 [(0, .ref L0), (1, .int (0 : Int32))] (pI (pI (pI s L0 9 (0 : Int32)) L0 10 (0 : Int32)) L0 14 (0 : Int32)) Q) : KV MX4_begin 0 [.ref L0] s Q := by
  show BV MX4_begin 0 0 [(0, .ref L0)] s Q
  refine JT_aload_n (q := 0) dX4_begin_0 rfl rfl ?_
  refine JT_iconst (v := 0) dX4_begin_1 ic_0 ?_
  refine JS_putI dX4_begin_2 flX4_49 (lxB hL0) (lx2 hL0) (lxN hL0) ct_4_9 ?_
  refine JT_aload_n (q := 0) dX4_begin_5 rfl rfl ?_
  refine JT_iconst (v := 0) dX4_begin_6 ic_0 ?_
  refine JS_putI dX4_begin_7 flX4_53 (lxB hL0) (lx2 hL0) (lxN hL0) ct_4_10 ?_
  refine JT_aload_n (q := 0) dX4_begin_10 rfl rfl ?_
  refine JT_iconst (v := 0) dX4_begin_11 ic_0 ?_
  refine JS_putI dX4_begin_12 flX4_56 (lxB hL0) (lx2 hL0) (lxN hL0) ct_4_14 ?_
  refine JT_iconst (v := 0) dX4_begin_15 ic_0 ?_
  refine JT_istore_n (lv' := [(1, .int (0 : Int32)), (0, .ref L0)]) dX4_begin_16 rfl (Nat.le_of_ble_eq_true rfl) rfl ?_
  exact JT_sub [1, 0] rfl h
set_option maxRecDepth 1000000 in
theorem gX4_begin {L0 P0 : Nat} (hL0 : (L0, P0) ∈ LX) : ∀ n : Nat, (∀ (a1 : Int32) (s : SM) (Q : SM → Prop), ((qX4_begin n) s L0 P0 a1) → Q ((lX4_begin n) s L0 P0 a1) → BV MX4_begin 0 17 [(0, .ref L0), (1, .int a1)] s Q) := by
  intro n
  induction n with
  | zero => exact fun _ _ _ hq _ => absurd hq id
  | succ n ih =>
    intro a1 s Q hr h
    replace hr : uX4_begin_17 (qX4_begin n) s L0 P0 a1 := hr
    replace h : Q (tX4_begin_17 (lX4_begin n) s L0 P0 a1) := h
    unfold uX4_begin_17 at hr
    unfold tX4_begin_17 at h
    refine bX4_begin_17 hL0 a1 ?_
    refine ⟨fun c => ?_, fun c => ?_⟩
    · replace h := q1p c h
      first | exact h | contradiction
    · replace hr := hr c
      replace h := q1n c h
      refine ⟨hr.1, ?_⟩
      replace hr := hr.2
      refine ⟨hr.1, ?_⟩
      replace hr := hr.2
      refine ⟨hr.1, ?_⟩
      replace hr := hr.2
      first | exact ih (a1 + 1) _ Q hr h | contradiction
set_option maxRecDepth 1000000 in
theorem pX4_begin {L0 P0 : Nat} (hL0 : (L0, P0) ∈ LX) {s : SM} {Q : SM → Prop} (hr : rX4_begin s L0 P0) (h : Q (mX4_begin s L0 P0)) : KV MX4_begin 0 [.ref L0] s Q := by
  replace h : Q (fX4_begin s L0 P0) := h
  unfold rX4_begin at hr
  unfold fX4_begin at h
  refine bX4_begin hL0 ?_
  first | exact (gX4_begin hL0 FU) (0 : Int32) _ Q hr h | contradiction
set_option maxRecDepth 1000000 in
theorem bX4_hasDeal {L0 P0 : Nat} (hL0 : (L0, P0) ∈ LX) (a1 : Int32) {s : SM} {Q : Int32 → SM → Prop} (h : Q (if a1 < 0 then (0 : Int32) else (if (gI s L0 9) ≤ a1 then (0 : Int32) else (if (60 : Int32) ≤ a1 then (0 : Int32) else (1 : Int32)))) s) : KI MX4_hasDeal 0 [.ref L0, .int a1] s Q := by
  show BI MX4_hasDeal 0 0 [(0, .ref L0), (1, .int a1)] s Q
  refine JT_iload_n (q := 1) dX4_hasDeal_0 rfl rfl ?_
  have hj1 : ∀ v : Int32, v = (if a1 < 0 then (0 : Int32) else (if (gI s L0 9) ≤ a1 then (0 : Int32) else (if (60 : Int32) ≤ a1 then (0 : Int32) else (1 : Int32)))) → JT MX4_hasDeal 0 0 0 23 [(0, .ref L0), (1, .int a1)] [.int v] (std s) (KQ Q) := by
    intro v hv
    subst hv
    exact JS_iret dX4_hasDeal_23 rfl (n01 (i01 (Or.inl rfl) (i01 (Or.inl rfl) (i01 (Or.inl rfl) (Or.inr rfl))))) h
  refine JT_if_lt (tgt := 22) dX4_hasDeal_1 (by decide) (fun hc2 => ?_) (fun hc2 => ?_)
  · refine JT_iconst (v := 0) dX4_hasDeal_22 ic_0 ?_
    exact hj1 _ (by rw [if_pos hc2])
  · refine JT_iload_n (q := 1) dX4_hasDeal_4 rfl rfl ?_
    refine JT_aload_n (q := 0) dX4_hasDeal_5 rfl rfl ?_
    refine JS_getI dX4_hasDeal_6 flX4_49 (lxB hL0) (lx2 hL0) (lxN hL0) (Or.inl ct_4_9) ?_
    refine JT_icmp_ge (tgt := 22) dX4_hasDeal_9 (by decide) (fun hc3 => ?_) (fun hc3 => ?_)
    · refine JT_iconst (v := 0) dX4_hasDeal_22 ic_0 ?_
      exact hj1 _ (by rw [if_neg hc2, if_pos hc3])
    · refine JT_iload_n (q := 1) dX4_hasDeal_12 rfl rfl ?_
      refine JT_bipush (v := 60) dX4_hasDeal_13 bp_60 ?_
      refine JT_icmp_ge (tgt := 22) dX4_hasDeal_15 (by decide) (fun hc4 => ?_) (fun hc4 => ?_)
      · refine JT_iconst (v := 0) dX4_hasDeal_22 ic_0 ?_
        exact hj1 _ (by rw [if_neg hc2, if_neg hc3, if_pos hc4])
      · refine JT_iconst (v := 1) dX4_hasDeal_18 ic_1 ?_
        refine JT_goto (tgt := 23) dX4_hasDeal_19 (by decide) ?_
        exact hj1 _ (by rw [if_neg hc2, if_neg hc3, if_neg hc4])
set_option maxRecDepth 1000000 in
theorem zX4_hasDeal (s : SM) (L0 P0 : Nat) (a1 : Int32) : vX4_hasDeal s L0 P0 a1 = 0 ∨ vX4_hasDeal s L0 P0 a1 = 1 := (i01 (Or.inl rfl) (i01 (Or.inl rfl) (i01 (Or.inl rfl) (Or.inr rfl))))
set_option maxRecDepth 1000000 in
theorem pX4_hasDeal {L0 P0 : Nat} (hL0 : (L0, P0) ∈ LX) (a1 : Int32) {s : SM} {Q : Int32 → SM → Prop} (h : Q (vX4_hasDeal s L0 P0 a1) s) : KI MX4_hasDeal 0 [.ref L0, .int a1] s Q := by
  refine bX4_hasDeal hL0 a1 ?_
  unfold vX4_hasDeal at h
  first | exact h | contradiction
set_option maxRecDepth 1000000 in
theorem bX4_lives {L0 P0 : Nat} (hL0 : (L0, P0) ∈ LX) (a1 : Int32) {s : SM} {Q : Int32 → SM → Prop} (h : Q (if (((gI s L0 14) >>> (a1 &&& 31)) &&& (1 : Int32)) = 0 then (1 : Int32) else (0 : Int32)) s) : KI MX4_lives 0 [.ref L0, .int a1] s Q := by
  show BI MX4_lives 0 0 [(0, .ref L0), (1, .int a1)] s Q
  refine JT_aload_n (q := 0) dX4_lives_0 rfl rfl ?_
  refine JS_getI dX4_lives_1 flX4_56 (lxB hL0) (lx2 hL0) (lxN hL0) (Or.inl ct_4_14) ?_
  refine JT_iload_n (q := 1) dX4_lives_4 rfl rfl ?_
  refine JT_ishr dX4_lives_5 ?_
  refine JT_iconst (v := 1) dX4_lives_6 ic_1 ?_
  refine JT_iand dX4_lives_7 ?_
  have hj1 : ∀ v : Int32, v = (if (((gI s L0 14) >>> (a1 &&& 31)) &&& (1 : Int32)) = 0 then (1 : Int32) else (0 : Int32)) → JT MX4_lives 0 0 0 16 [(0, .ref L0), (1, .int a1)] [.int v] (std s) (KQ Q) := by
    intro v hv
    subst hv
    exact JS_iret dX4_lives_16 rfl (n01 (i01 (Or.inr rfl) (Or.inl rfl))) h
  refine JT_if_ne (tgt := 15) dX4_lives_8 (by decide) (fun hc2 => ?_) (fun hc2 => ?_)
  · refine JT_iconst (v := 0) dX4_lives_15 ic_0 ?_
    exact hj1 _ (by rw [if_neg hc2])
  · refine JT_iconst (v := 1) dX4_lives_11 ic_1 ?_
    refine JT_goto (tgt := 16) dX4_lives_12 (by decide) ?_
    exact hj1 _ (by rw [if_pos hc2])
set_option maxRecDepth 1000000 in
theorem zX4_lives (s : SM) (L0 P0 : Nat) (a1 : Int32) : vX4_lives s L0 P0 a1 = 0 ∨ vX4_lives s L0 P0 a1 = 1 := (i01 (Or.inr rfl) (Or.inl rfl))
set_option maxRecDepth 1000000 in
theorem pX4_lives {L0 P0 : Nat} (hL0 : (L0, P0) ∈ LX) (a1 : Int32) {s : SM} {Q : Int32 → SM → Prop} (h : Q (vX4_lives s L0 P0 a1) s) : KI MX4_lives 0 [.ref L0, .int a1] s Q := by
  refine bX4_lives hL0 a1 ?_
  unfold vX4_lives at h
  first | exact h | contradiction
set_option maxRecDepth 1000000 in
theorem bX4_marksOn_5 {L0 P0 : Nat} (hL0 : (L0, P0) ∈ LX) (a1 : Int32) (a2 : Int32) (a3 : Int32) (a4 : Int32) {s : SM} {Q : Int32 → SM → Prop} (h : (((gI s L0 9) ≤ a4 → Q a3 s) ∧ (¬ (gI s L0 9) ≤ a4 → vp_in a4 60 ∧ ((a2 < (gI s (L0 + 5) (a4).toNatClampNeg) → BI MX4_marksOn 0 5 [(0, .ref L0), (1, .int a1), (2, .int a2), (3, .int a3), (4, .int (a4 + 1))] s Q) ∧ (¬ a2 < (gI s (L0 + 5) (a4).toNatClampNeg) → vp_in a4 60 ∧ vp_in a4 60 ∧ BI MX4_marksOn 0 5 [(0, .ref L0), (1, .int a1), (2, .int a2), (3, .int ((a3 + (if (gI s (L0 + 9) (a4).toNatClampNeg) = a1 then (1 : Int32) else (0 : Int32))) + (if (gI s (L0 + 10) (a4).toNatClampNeg) = a1 then (1 : Int32) else (0 : Int32)))), (4, .int (a4 + 1))] s Q))))) : BI MX4_marksOn 0 5 [(0, .ref L0), (1, .int a1), (2, .int a2), (3, .int a3), (4, .int a4)] s Q := by
  refine JT_iload (q := 4) dX4_marksOn_5 rfl ?_
  refine JT_aload_n (q := 0) dX4_marksOn_7 rfl rfl ?_
  refine JS_getI dX4_marksOn_8 flX4_49 (lxB hL0) (lx2 hL0) (lxN hL0) (Or.inl ct_4_9) ?_
  refine JT_icmp_ge (tgt := 69) dX4_marksOn_11 (by decide) (fun hc9 => ?_) (fun hc9 => ?_)
  · have h := h.1 hc9
    refine JT_iload_n (q := 3) dX4_marksOn_69 rfl rfl ?_
    exact JS_iret dX4_marksOn_70 rfl rfl h
  · have h := h.2 hc9
    refine JT_aload_n (q := 0) dX4_marksOn_14 rfl rfl ?_
    refine JS_getR (x := (L0 + 5)) dX4_marksOn_15 flX4_24 (lxB hL0) (lx2 hL0) (lxN hL0) (Or.inr ⟨_, ct_4_4⟩) (lxR4 hL0) ?_
    refine JT_iload (q := 4) dX4_marksOn_18 rfl ?_
    obtain ⟨o1, h⟩ := h
    refine JS_iald dX4_marksOn_20 (lxB5 hL0) (lx2k hL0 _) (lxNk hL0 (Nat.le_of_ble_eq_true rfl)) o1 ?_
    refine JT_iload_n (q := 2) dX4_marksOn_21 rfl rfl ?_
    refine JT_icmp_gt (tgt := 63) dX4_marksOn_22 (by decide) (fun hc8 => ?_) (fun hc8 => ?_)
    · have h := h.1 hc8
      refine JT_iinc (q := 4) (v := (a4 + 1)) (lv' := [(4, .int (a4 + 1)), (0, .ref L0), (1, .int a1), (2, .int a2), (3, .int a3)]) dX4_marksOn_63 rfl (by rfl) (Nat.le_of_ble_eq_true rfl) rfl ?_
      refine JT_goto (tgt := 5) dX4_marksOn_66 (by decide) ?_
      exact JT_sub [1, 2, 3, 4, 0] rfl h
    · have h := h.2 hc8
      refine JT_iload_n (q := 3) dX4_marksOn_25 rfl rfl ?_
      refine JT_aload_n (q := 0) dX4_marksOn_26 rfl rfl ?_
      refine JS_getR (x := (L0 + 9)) dX4_marksOn_27 flX4_36 (lxB hL0) (lx2 hL0) (lxN hL0) (Or.inr ⟨_, ct_4_11⟩) (lxR11 hL0) ?_
      refine JT_iload (q := 4) dX4_marksOn_30 rfl ?_
      obtain ⟨o2, h⟩ := h
      refine JS_iald dX4_marksOn_32 (lxB9 hL0) (lx2k hL0 _) (lxNk hL0 (Nat.le_of_ble_eq_true rfl)) o2 ?_
      refine JT_iload_n (q := 1) dX4_marksOn_33 rfl rfl ?_
      have hj6 : ∀ v : Int32, v = (if (gI s (L0 + 9) (a4).toNatClampNeg) = a1 then (1 : Int32) else (0 : Int32)) → JT MX4_marksOn 0 0 0 42 [(0, .ref L0), (1, .int a1), (2, .int a2), (3, .int a3), (4, .int a4)] [.int v, .int a3] (std s) (KQ Q) := by
        intro v hv
        subst hv
        refine JT_iadd dX4_marksOn_42 ?_
        refine JT_istore_n (lv' := [(3, .int (a3 + (if (gI s (L0 + 9) (a4).toNatClampNeg) = a1 then (1 : Int32) else (0 : Int32)))), (0, .ref L0), (1, .int a1), (2, .int a2), (4, .int a4)]) dX4_marksOn_43 rfl (Nat.le_of_ble_eq_true rfl) rfl ?_
        refine JT_iload_n (q := 0) dX4_marksOn_44 rfl rfl ?_
        refine JT_aload_n (q := 1) dX4_marksOn_45 rfl rfl ?_
        refine JS_getR (x := (L0 + 10)) dX4_marksOn_46 flX4_39 (lxB hL0) (lx2 hL0) (lxN hL0) (Or.inr ⟨_, ct_4_12⟩) (lxR12 hL0) ?_
        refine JT_iload (q := 4) dX4_marksOn_49 rfl ?_
        obtain ⟨o3, h⟩ := h
        refine JS_iald dX4_marksOn_51 (lxB10 hL0) (lx2k hL0 _) (lxNk hL0 (Nat.le_of_ble_eq_true rfl)) o3 ?_
        refine JT_iload_n (q := 2) dX4_marksOn_52 rfl rfl ?_
        have hj4 : ∀ v : Int32, v = (if (gI s (L0 + 10) (a4).toNatClampNeg) = a1 then (1 : Int32) else (0 : Int32)) → JT MX4_marksOn 0 0 0 61 [(3, .int (a3 + (if (gI s (L0 + 9) (a4).toNatClampNeg) = a1 then (1 : Int32) else (0 : Int32)))), (0, .ref L0), (1, .int a1), (2, .int a2), (4, .int a4)] [.int v, .int (a3 + (if (gI s (L0 + 9) (a4).toNatClampNeg) = a1 then (1 : Int32) else (0 : Int32)))] (std s) (KQ Q) := by
          intro v hv
          subst hv
          refine JT_iadd dX4_marksOn_61 ?_
          refine JT_istore_n (lv' := [(3, .int ((a3 + (if (gI s (L0 + 9) (a4).toNatClampNeg) = a1 then (1 : Int32) else (0 : Int32))) + (if (gI s (L0 + 10) (a4).toNatClampNeg) = a1 then (1 : Int32) else (0 : Int32)))), (0, .ref L0), (1, .int a1), (2, .int a2), (4, .int a4)]) dX4_marksOn_62 rfl (Nat.le_of_ble_eq_true rfl) rfl ?_
          refine JT_iinc (q := 4) (v := (a4 + 1)) (lv' := [(4, .int (a4 + 1)), (3, .int ((a3 + (if (gI s (L0 + 9) (a4).toNatClampNeg) = a1 then (1 : Int32) else (0 : Int32))) + (if (gI s (L0 + 10) (a4).toNatClampNeg) = a1 then (1 : Int32) else (0 : Int32)))), (0, .ref L0), (1, .int a1), (2, .int a2)]) dX4_marksOn_63 rfl (by rfl) (Nat.le_of_ble_eq_true rfl) rfl ?_
          refine JT_goto (tgt := 5) dX4_marksOn_66 (by decide) ?_
          exact JT_sub [2, 3, 4, 1, 0] rfl h
        refine JT_icmp_ne (tgt := 60) dX4_marksOn_53 (by decide) (fun hc5 => ?_) (fun hc5 => ?_)
        · refine JT_iconst (v := 0) dX4_marksOn_60 ic_0 ?_
          exact hj4 _ (by rw [if_neg hc5])
        · refine JT_iconst (v := 1) dX4_marksOn_56 ic_1 ?_
          refine JT_goto (tgt := 61) dX4_marksOn_57 (by decide) ?_
          exact hj4 _ (by rw [if_pos hc5])
      refine JT_icmp_ne (tgt := 41) dX4_marksOn_34 (by decide) (fun hc7 => ?_) (fun hc7 => ?_)
      · refine JT_iconst (v := 0) dX4_marksOn_41 ic_0 ?_
        exact hj6 _ (by rw [if_neg hc7])
      · refine JT_iconst (v := 1) dX4_marksOn_37 ic_1 ?_
        refine JT_goto (tgt := 42) dX4_marksOn_38 (by decide) ?_
        exact hj6 _ (by rw [if_pos hc7])
set_option maxRecDepth 1000000 in
theorem bX4_marksOn {L0 P0 : Nat} (hL0 : (L0, P0) ∈ LX) (a1 : Int32) (a2 : Int32) {s : SM} {Q : Int32 → SM → Prop} (h : BI MX4_marksOn 0 5 [(0, .ref L0), (1, .int a1), (2, .int a2), (3, .int (0 : Int32)), (4, .int (0 : Int32))] s Q) : KI MX4_marksOn 0 [.ref L0, .int a1, .int a2] s Q := by
  show BI MX4_marksOn 0 0 [(0, .ref L0), (1, .int a1), (2, .int a2)] s Q
  refine JT_iconst (v := 0) dX4_marksOn_0 ic_0 ?_
  refine JT_istore_n (lv' := [(3, .int (0 : Int32)), (0, .ref L0), (1, .int a1), (2, .int a2)]) dX4_marksOn_1 rfl (Nat.le_of_ble_eq_true rfl) rfl ?_
  refine JT_iconst (v := 0) dX4_marksOn_2 ic_0 ?_
  refine JT_istore (lv' := [(4, .int (0 : Int32)), (3, .int (0 : Int32)), (0, .ref L0), (1, .int a1), (2, .int a2)]) dX4_marksOn_3 (Nat.le_of_ble_eq_true rfl) rfl ?_
  exact JT_sub [2, 3, 4, 1, 0] rfl h
set_option maxRecDepth 1000000 in
theorem gX4_marksOn {L0 P0 : Nat} (hL0 : (L0, P0) ∈ LX) : ∀ n : Nat, (∀ (a1 : Int32) (a2 : Int32) (a3 : Int32) (a4 : Int32) (s : SM) (Q : Int32 → SM → Prop), ((qX4_marksOn n) s L0 P0 a1 a2 a3 a4) → Q ((lX4_marksOn n) s L0 P0 a1 a2 a3 a4) s → BI MX4_marksOn 0 5 [(0, .ref L0), (1, .int a1), (2, .int a2), (3, .int a3), (4, .int a4)] s Q) := by
  intro n
  induction n with
  | zero => exact fun _ _ _ _ _ _ hq _ => absurd hq id
  | succ n ih =>
    intro a1 a2 a3 a4 s Q hr h
    replace hr : uX4_marksOn_5 (qX4_marksOn n) s L0 P0 a1 a2 a3 a4 := hr
    replace h : Q (tX4_marksOn_5 (lX4_marksOn n) s L0 P0 a1 a2 a3 a4) s := h
    unfold uX4_marksOn_5 at hr
    unfold tX4_marksOn_5 at h
    refine bX4_marksOn_5 hL0 a1 a2 a3 a4 ?_
    refine ⟨fun c => ?_, fun c => ?_⟩
    · replace h := qlp c h
      first | exact h | contradiction
    · replace hr := hr c
      replace h := qln c h
      refine ⟨hr.1, ?_⟩
      replace hr := hr.2
      refine ⟨fun c => ?_, fun c => ?_⟩
      · replace hr := hr.1 c
        replace h := qlp c h
        first | exact ih a1 a2 a3 (a4 + 1) _ Q hr h | contradiction
      · replace hr := hr.2 c
        replace h := qln c h
        refine ⟨hr.1, ?_⟩
        replace hr := hr.2
        refine ⟨hr.1, ?_⟩
        replace hr := hr.2
        first | exact ih a1 a2 ((a3 + (if (gI s (L0 + 9) (a4).toNatClampNeg) = a1 then (1 : Int32) else (0 : Int32))) + (if (gI s (L0 + 10) (a4).toNatClampNeg) = a1 then (1 : Int32) else (0 : Int32))) (a4 + 1) _ Q hr h | contradiction
set_option maxRecDepth 1000000 in
theorem pX4_marksOn {L0 P0 : Nat} (hL0 : (L0, P0) ∈ LX) (a1 : Int32) (a2 : Int32) {s : SM} {Q : Int32 → SM → Prop} (hr : rX4_marksOn s L0 P0 a1 a2) (h : Q (vX4_marksOn s L0 P0 a1 a2) s) : KI MX4_marksOn 0 [.ref L0, .int a1, .int a2] s Q := by
  replace h : Q (fX4_marksOn s L0 P0 a1 a2) s := h
  unfold rX4_marksOn at hr
  unfold fX4_marksOn at h
  refine bX4_marksOn hL0 a1 a2 ?_
  first | exact (gX4_marksOn hL0 FU) a1 a2 (0 : Int32) (0 : Int32) _ Q hr h | contradiction
set_option maxRecDepth 1000000 in
theorem bX4_scratch {L0 P0 : Nat} (hL0 : (L0, P0) ∈ LX) (a1 : Int32) (a2 : Int32) {s : SM} {Q : SM → Prop} (h : vp_in a1 9 ∧ vp_in a1 9 ∧ vp_in a1 9 ∧ vp_in a1 9 ∧ (∀ s5, s5 = (pI (pI s (L0 + 7) (a1).toNatClampNeg ((gI s (L0 + 7) (a1).toNatClampNeg) - a2)) (L0 + 8) (a1).toNatClampNeg ((gI (pI s (L0 + 7) (a1).toNatClampNeg ((gI s (L0 + 7) (a1).toNatClampNeg) - a2)) (L0 + 8) (a1).toNatClampNeg) + a2)) → Q s5)) : KV MX4_scratch 0 [.ref L0, .int a1, .int a2] s Q := by
  show BV MX4_scratch 0 0 [(0, .ref L0), (1, .int a1), (2, .int a2)] s Q
  refine JT_aload_n (q := 0) dX4_scratch_0 rfl rfl ?_
  refine JS_getR (x := (L0 + 7)) dX4_scratch_1 flX4_30 (lxB hL0) (lx2 hL0) (lxN hL0) (Or.inr ⟨_, ct_4_6⟩) (lxR6 hL0) ?_
  refine JT_iload_n (q := 1) dX4_scratch_4 rfl rfl ?_
  refine JT_dup2 dX4_scratch_5 rfl rfl ?_
  obtain ⟨o1, h⟩ := h
  refine JS_iald dX4_scratch_6 (lxB7 hL0) (lx2k hL0 _) (lxNk hL0 (Nat.le_of_ble_eq_true rfl)) o1 ?_
  refine JT_iload_n (q := 2) dX4_scratch_7 rfl rfl ?_
  refine JT_isub dX4_scratch_8 ?_
  obtain ⟨o2, h⟩ := h
  refine JS_iast dX4_scratch_9 (lxB7 hL0) (lx2k hL0 _) (lxNk hL0 (Nat.le_of_ble_eq_true rfl)) o2 ?_
  refine JT_aload_n (q := 0) dX4_scratch_10 rfl rfl ?_
  refine JS_getR (x := (L0 + 8)) dX4_scratch_11 flX4_33 (lxB hL0) (lx2 hL0) (lxN hL0) (Or.inr ⟨_, ct_4_7⟩) (lxR7 hL0) ?_
  refine JT_iload_n (q := 1) dX4_scratch_14 rfl rfl ?_
  refine JT_dup2 dX4_scratch_15 rfl rfl ?_
  obtain ⟨o3, h⟩ := h
  refine JS_iald dX4_scratch_16 (lxB8 hL0) (lx2k hL0 _) (lxNk hL0 (Nat.le_of_ble_eq_true rfl)) o3 ?_
  refine JT_iload_n (q := 2) dX4_scratch_17 rfl rfl ?_
  refine JT_iadd dX4_scratch_18 ?_
  obtain ⟨o4, h⟩ := h
  refine JS_iast dX4_scratch_19 (lxB8 hL0) (lx2k hL0 _) (lxNk hL0 (Nat.le_of_ble_eq_true rfl)) o4 ?_
  obtain ⟨s5, hs5⟩ : ∃ z, z = (pI (pI s (L0 + 7) (a1).toNatClampNeg ((gI s (L0 + 7) (a1).toNatClampNeg) - a2)) (L0 + 8) (a1).toNatClampNeg ((gI (pI s (L0 + 7) (a1).toNatClampNeg ((gI s (L0 + 7) (a1).toNatClampNeg) - a2)) (L0 + 8) (a1).toNatClampNeg) + a2)) := ⟨_, rfl⟩
  replace h := h s5 hs5
  rw [← hs5]
  exact JS_vret dX4_scratch_20 rfl h
set_option maxRecDepth 1000000 in
theorem pX4_scratch {L0 P0 : Nat} (hL0 : (L0, P0) ∈ LX) (a1 : Int32) (a2 : Int32) {s : SM} {Q : SM → Prop} (hr : rX4_scratch s L0 P0 a1 a2) (h : Q (mX4_scratch s L0 P0 a1 a2)) : KV MX4_scratch 0 [.ref L0, .int a1, .int a2] s Q := by
  refine bX4_scratch hL0 a1 a2 ?_
  unfold rX4_scratch at hr
  unfold mX4_scratch at h
  refine ⟨hr.1, ?_⟩
  replace hr := hr.2
  refine ⟨hr.1, ?_⟩
  replace hr := hr.2
  refine ⟨hr.1, ?_⟩
  replace hr := hr.2
  refine ⟨hr, ?_⟩
  intro s5 e9
  try rw [← e9] at h
  try dsimp only at h
  first | exact h | contradiction
set_option maxRecDepth 1000000 in
theorem bX4_tryYear {L0 P0 : Nat} (hL0 : (L0, P0) ∈ LX) {s : SM} {Q : Int32 → SM → Prop} (h : (((gI s L0 10) < (99 : Int32) → Q (0 : Int32) (pI s L0 10 ((gI s L0 10) + (1 : Int32)))) ∧ (¬ (gI s L0 10) < (99 : Int32) → Q (9 : Int32) s))) : KI MX4_tryYear 0 [.ref L0] s Q := by
  show BI MX4_tryYear 0 0 [(0, .ref L0)] s Q
  refine JT_aload_n (q := 0) dX4_tryYear_0 rfl rfl ?_
  refine JS_getI dX4_tryYear_1 flX4_53 (lxB hL0) (lx2 hL0) (lxN hL0) (Or.inl ct_4_10) ?_
  refine JT_bipush (v := 99) dX4_tryYear_4 bp_99 ?_
  refine JT_icmp_lt (tgt := 12) dX4_tryYear_6 (by decide) (fun hc1 => ?_) (fun hc1 => ?_)
  · have h := h.1 hc1
    refine JT_aload_n (q := 0) dX4_tryYear_12 rfl rfl ?_
    refine JT_dup dX4_tryYear_13 rfl ?_
    refine JS_getI dX4_tryYear_14 flX4_53 (lxB hL0) (lx2 hL0) (lxN hL0) (Or.inl ct_4_10) ?_
    refine JT_iconst (v := 1) dX4_tryYear_17 ic_1 ?_
    refine JT_iadd dX4_tryYear_18 ?_
    refine JS_putI dX4_tryYear_19 flX4_53 (lxB hL0) (lx2 hL0) (lxN hL0) ct_4_10 ?_
    refine JT_iconst (v := 0) dX4_tryYear_22 ic_0 ?_
    exact JS_iret dX4_tryYear_23 rfl rfl h
  · have h := h.2 hc1
    refine JT_bipush (v := 9) dX4_tryYear_9 bp_9 ?_
    exact JS_iret dX4_tryYear_11 rfl rfl h
set_option maxRecDepth 1000000 in
theorem pX4_tryYear {L0 P0 : Nat} (hL0 : (L0, P0) ∈ LX) {s : SM} {Q : Int32 → SM → Prop} (h : Q (vX4_tryYear s L0 P0) (mX4_tryYear s L0 P0)) : KI MX4_tryYear 0 [.ref L0] s Q := by
  refine bX4_tryYear hL0 ?_
  unfold vX4_tryYear mX4_tryYear at h
  refine ⟨fun c => ?_, fun c => ?_⟩
  · replace h := q2p c h
    first | exact h | contradiction
  · replace h := q2n c h
    first | exact h | contradiction
set_option maxRecDepth 1000000 in
theorem bX5_isPackedIn {p1 : Nat} (hp1 : p1 ∈ PX) {s : SM} {Q : Int32 → SM → Prop} (h : Q (if (gI s 225 0) ≤ 0 then (0 : Int32) else (if (gI s 225 1) = (gI s p1 11) then (1 : Int32) else (0 : Int32))) s) : KI MX5_isPackedIn 0 [.ref 225, .ref p1] s Q := by
  show BI MX5_isPackedIn 0 0 [(0, .ref 225), (1, .ref p1)] s Q
  refine JT_aload_n (q := 0) dX5_isPackedIn_0 rfl rfl ?_
  refine JS_getI dX5_isPackedIn_1 flX5_58 BS_225 (Nat.le_of_ble_eq_true rfl) (Nat.le_of_ble_eq_true rfl) (Or.inl ct_5_0) ?_
  have hj1 : ∀ v : Int32, v = (if (gI s 225 0) ≤ 0 then (0 : Int32) else (if (gI s 225 1) = (gI s p1 11) then (1 : Int32) else (0 : Int32))) → JT MX5_isPackedIn 0 0 0 23 [(0, .ref 225), (1, .ref p1)] [.int v] (std s) (KQ Q) := by
    intro v hv
    subst hv
    exact JS_iret dX5_isPackedIn_23 rfl (n01 (i01 (Or.inl rfl) (i01 (Or.inr rfl) (Or.inl rfl)))) h
  refine JT_if_le (tgt := 22) dX5_isPackedIn_4 (by decide) (fun hc2 => ?_) (fun hc2 => ?_)
  · refine JT_iconst (v := 0) dX5_isPackedIn_22 ic_0 ?_
    exact hj1 _ (by rw [if_pos hc2])
  · refine JT_aload_n (q := 0) dX5_isPackedIn_7 rfl rfl ?_
    refine JS_getI dX5_isPackedIn_8 flX5_64 BS_225 (Nat.le_of_ble_eq_true rfl) (Nat.le_of_ble_eq_true rfl) (Or.inl ct_5_1) ?_
    refine JT_aload_n (q := 1) dX5_isPackedIn_11 rfl rfl ?_
    refine JS_getI dX5_isPackedIn_12 flX5_61 (pxB hp1) (px2 hp1) (pxN hp1) (Or.inl ct_6_11) ?_
    refine JT_icmp_ne (tgt := 22) dX5_isPackedIn_15 (by decide) (fun hc3 => ?_) (fun hc3 => ?_)
    · refine JT_iconst (v := 0) dX5_isPackedIn_22 ic_0 ?_
      exact hj1 _ (by rw [if_neg hc2, if_neg hc3])
    · refine JT_iconst (v := 1) dX5_isPackedIn_18 ic_1 ?_
      refine JT_goto (tgt := 23) dX5_isPackedIn_19 (by decide) ?_
      exact hj1 _ (by rw [if_neg hc2, if_pos hc3])
set_option maxRecDepth 1000000 in
theorem zX5_isPackedIn (s : SM) (p1 : Nat) : vX5_isPackedIn s p1 = 0 ∨ vX5_isPackedIn s p1 = 1 := (i01 (Or.inl rfl) (i01 (Or.inr rfl) (Or.inl rfl)))
set_option maxRecDepth 1000000 in
theorem pX5_isPackedIn {p1 : Nat} (hp1 : p1 ∈ PX) {s : SM} {Q : Int32 → SM → Prop} (h : Q (vX5_isPackedIn s p1) s) : KI MX5_isPackedIn 0 [.ref 225, .ref p1] s Q := by
  refine bX5_isPackedIn hp1 ?_
  unfold vX5_isPackedIn at h
  first | exact h | contradiction
set_option maxRecDepth 1000000 in
theorem bX5_told (a1 : Int32) {s : SM} {Q : Int32 → SM → Prop} (h : ((a1 < 0 → Q (-1 : Int32) s) ∧ (¬ a1 < 0 → (((gI s 225 0) ≤ a1 → Q (-1 : Int32) s) ∧ (¬ (gI s 225 0) ≤ a1 → (((6 : Int32) ≤ a1 → Q (-1 : Int32) s) ∧ (¬ (6 : Int32) ≤ a1 → vp_in a1 6 ∧ (((gI s 231 (a1).toNatClampNeg) = (4 : Int32) → Q (-1 : Int32) s) ∧ (¬ (gI s 231 (a1).toNatClampNeg) = (4 : Int32) → vp_in a1 6 ∧ Q (gI s 231 (a1).toNatClampNeg) s))))))))) : KI MX5_told 0 [.ref 225, .int a1] s Q := by
  show BI MX5_told 0 0 [(0, .ref 225), (1, .int a1)] s Q
  refine JT_iload_n (q := 1) dX5_told_0 rfl rfl ?_
  refine JT_if_lt (tgt := 37) dX5_told_1 (by decide) (fun hc6 => ?_) (fun hc6 => ?_)
  · have h := h.1 hc6
    refine JT_iconst (v := -1) dX5_told_37 ic_m1 ?_
    exact JS_iret dX5_told_38 rfl rfl h
  · have h := h.2 hc6
    refine JT_iload_n (q := 1) dX5_told_4 rfl rfl ?_
    refine JT_aload_n (q := 0) dX5_told_5 rfl rfl ?_
    refine JS_getI dX5_told_6 flX5_58 BS_225 (Nat.le_of_ble_eq_true rfl) (Nat.le_of_ble_eq_true rfl) (Or.inl ct_5_0) ?_
    refine JT_icmp_ge (tgt := 37) dX5_told_9 (by decide) (fun hc5 => ?_) (fun hc5 => ?_)
    · have h := h.1 hc5
      refine JT_iconst (v := -1) dX5_told_37 ic_m1 ?_
      exact JS_iret dX5_told_38 rfl rfl h
    · have h := h.2 hc5
      refine JT_iload_n (q := 1) dX5_told_12 rfl rfl ?_
      refine JT_bipush (v := 6) dX5_told_13 bp_6 ?_
      refine JT_icmp_ge (tgt := 37) dX5_told_15 (by decide) (fun hc4 => ?_) (fun hc4 => ?_)
      · have h := h.1 hc4
        refine JT_iconst (v := -1) dX5_told_37 ic_m1 ?_
        exact JS_iret dX5_told_38 rfl rfl h
      · have h := h.2 hc4
        refine JT_aload_n (q := 0) dX5_told_18 rfl rfl ?_
        refine JS_getR (x := 231) dX5_told_19 flX5_27 BS_225 (Nat.le_of_ble_eq_true rfl) (Nat.le_of_ble_eq_true rfl) (Or.inr ⟨_, ct_5_7⟩) RF_225_7 ?_
        refine JT_iload_n (q := 1) dX5_told_22 rfl rfl ?_
        obtain ⟨o1, h⟩ := h
        refine JS_iald dX5_told_23 BS_231 (Nat.le_of_ble_eq_true rfl) (Nat.le_of_ble_eq_true rfl) o1 ?_
        refine JT_iconst (v := 4) dX5_told_24 ic_4 ?_
        refine JT_icmp_eq (tgt := 37) dX5_told_25 (by decide) (fun hc3 => ?_) (fun hc3 => ?_)
        · have h := h.1 hc3
          refine JT_iconst (v := -1) dX5_told_37 ic_m1 ?_
          exact JS_iret dX5_told_38 rfl rfl h
        · have h := h.2 hc3
          refine JT_aload_n (q := 0) dX5_told_28 rfl rfl ?_
          refine JS_getR (x := 231) dX5_told_29 flX5_27 BS_225 (Nat.le_of_ble_eq_true rfl) (Nat.le_of_ble_eq_true rfl) (Or.inr ⟨_, ct_5_7⟩) RF_225_7 ?_
          refine JT_iload_n (q := 1) dX5_told_32 rfl rfl ?_
          obtain ⟨o2, h⟩ := h
          refine JS_iald dX5_told_33 BS_231 (Nat.le_of_ble_eq_true rfl) (Nat.le_of_ble_eq_true rfl) o2 ?_
          refine JT_goto (tgt := 38) dX5_told_34 (by decide) ?_
          exact JS_iret dX5_told_38 rfl rfl h
set_option maxRecDepth 1000000 in
theorem pX5_told (a1 : Int32) {s : SM} {Q : Int32 → SM → Prop} (hr : rX5_told s a1) (h : Q (vX5_told s a1) s) : KI MX5_told 0 [.ref 225, .int a1] s Q := by
  refine bX5_told a1 ?_
  unfold rX5_told at hr
  unfold vX5_told at h
  refine ⟨fun c => ?_, fun c => ?_⟩
  · replace h := qlp c h
    first | exact h | contradiction
  · replace hr := hr c
    replace h := qln c h
    refine ⟨fun c => ?_, fun c => ?_⟩
    · replace h := qlp c h
      first | exact h | contradiction
    · replace hr := hr c
      replace h := qln c h
      refine ⟨fun c => ?_, fun c => ?_⟩
      · replace h := qlp c h
        first | exact h | contradiction
      · replace hr := hr c
        replace h := qln c h
        refine ⟨hr.1, ?_⟩
        replace hr := hr.2
        refine ⟨fun c => ?_, fun c => ?_⟩
        · replace h := qlp c h
          first | exact h | contradiction
        · replace hr := hr c
          replace h := qln c h
          refine ⟨hr, ?_⟩
          first | exact h | contradiction
set_option maxRecDepth 1000000 in
theorem bX6_bodyNamed_2 {p0 : Nat} (hp0 : p0 ∈ PX) (b1 : Int64) (a3 : Int32) {s : SM} {Q : Int32 → SM → Prop} (h : (((gI s p0 6) ≤ a3 → Q (-1 : Int32) s) ∧ (¬ (gI s p0 6) ≤ a3 → vp_in a3 9 ∧ ((¬ (lg_cmp (gL s (p0 + 1) (a3).toNatClampNeg) b1) = 0 → BI MX6_bodyNamed 0 2 [(0, .ref p0), (1, .long b1), (3, .int (a3 + 1))] s Q) ∧ ((lg_cmp (gL s (p0 + 1) (a3).toNatClampNeg) b1) = 0 → Q a3 s))))) : BI MX6_bodyNamed 0 2 [(0, .ref p0), (1, .long b1), (3, .int a3)] s Q := by
  refine JT_iload_n (q := 2) dX6_bodyNamed_2 rfl rfl ?_
  refine JT_aload_n (q := 0) dX6_bodyNamed_3 rfl rfl ?_
  refine JS_getI dX6_bodyNamed_4 flX6_35 (pxB hp0) (px2 hp0) (pxN hp0) (Or.inl ct_6_6) ?_
  refine JT_icmp_ge (tgt := 29) dX6_bodyNamed_7 (by decide) (fun hc3 => ?_) (fun hc3 => ?_)
  · have h := h.1 hc3
    refine JT_iconst (v := -1) dX6_bodyNamed_29 ic_m1 ?_
    exact JS_iret dX6_bodyNamed_30 rfl rfl h
  · have h := h.2 hc3
    refine JT_aload_n (q := 0) dX6_bodyNamed_10 rfl rfl ?_
    refine JS_getR (x := (p0 + 1)) dX6_bodyNamed_11 flX6_9 (pxB hp0) (px2 hp0) (pxN hp0) (Or.inr ⟨_, ct_6_0⟩) (pxR0 hp0) ?_
    refine JT_iload_n (q := 2) dX6_bodyNamed_14 rfl rfl ?_
    obtain ⟨o1, h⟩ := h
    refine JS_lald dX6_bodyNamed_15 (pxB1 hp0) (px2k hp0 _) (pxNk hp0 (Nat.le_of_ble_eq_true rfl)) o1 ?_
    refine JT_lload_n (q := 1) dX6_bodyNamed_16 rfl rfl ?_
    refine JT_lcmp dX6_bodyNamed_17 ?_
    refine JT_if_ne (tgt := 23) dX6_bodyNamed_18 (by decide) (fun hc2 => ?_) (fun hc2 => ?_)
    · have h := h.1 hc2
      refine JT_iinc (q := 2) (v := (a3 + 1)) (lv' := [(3, .int (a3 + 1)), (0, .ref p0), (1, .long b1)]) dX6_bodyNamed_23 rfl (by rfl) (Nat.le_of_ble_eq_true rfl) rfl ?_
      refine JT_goto (tgt := 2) dX6_bodyNamed_26 (by decide) ?_
      exact JT_sub [1, 2, 0] rfl h
    · have h := h.2 hc2
      refine JT_iload_n (q := 2) dX6_bodyNamed_21 rfl rfl ?_
      exact JS_iret dX6_bodyNamed_22 rfl rfl h
set_option maxRecDepth 1000000 in
theorem bX6_bodyNamed {p0 : Nat} (hp0 : p0 ∈ PX) (b1 : Int64) {s : SM} {Q : Int32 → SM → Prop} (h : BI MX6_bodyNamed 0 2 [(0, .ref p0), (1, .long b1), (3, .int (0 : Int32))] s Q) : KI MX6_bodyNamed 0 [.ref p0, .long b1] s Q := by
  show BI MX6_bodyNamed 0 0 [(0, .ref p0), (1, .long b1)] s Q
  refine JT_iconst (v := 0) dX6_bodyNamed_0 ic_0 ?_
  refine JT_istore_n (lv' := [(3, .int (0 : Int32)), (0, .ref p0), (1, .long b1)]) dX6_bodyNamed_1 rfl (Nat.le_of_ble_eq_true rfl) rfl ?_
  exact JT_sub [1, 2, 0] rfl h
set_option maxRecDepth 1000000 in
theorem gX6_bodyNamed {p0 : Nat} (hp0 : p0 ∈ PX) : ∀ n : Nat, (∀ (b1 : Int64) (a3 : Int32) (s : SM) (Q : Int32 → SM → Prop), ((qX6_bodyNamed n) s p0 b1 a3) → Q ((lX6_bodyNamed n) s p0 b1 a3) s → BI MX6_bodyNamed 0 2 [(0, .ref p0), (1, .long b1), (3, .int a3)] s Q) := by
  intro n
  induction n with
  | zero => exact fun _ _ _ _ hq _ => absurd hq id
  | succ n ih =>
    intro b1 a3 s Q hr h
    replace hr : uX6_bodyNamed_2 (qX6_bodyNamed n) s p0 b1 a3 := hr
    replace h : Q (tX6_bodyNamed_2 (lX6_bodyNamed n) s p0 b1 a3) s := h
    unfold uX6_bodyNamed_2 at hr
    unfold tX6_bodyNamed_2 at h
    refine bX6_bodyNamed_2 hp0 b1 a3 ?_
    refine ⟨fun c => ?_, fun c => ?_⟩
    · replace h := qlp c h
      first | exact h | contradiction
    · replace hr := hr c
      replace h := qln c h
      refine ⟨hr.1, ?_⟩
      replace hr := hr.2
      refine ⟨fun c => ?_, fun c => ?_⟩
      · replace hr := hr c
        replace h := qln c h
        first | exact ih b1 (a3 + 1) _ Q hr h | contradiction
      · replace h := qlp c h
        first | exact h | contradiction
set_option maxRecDepth 1000000 in
theorem pX6_bodyNamed {p0 : Nat} (hp0 : p0 ∈ PX) (b1 : Int64) {s : SM} {Q : Int32 → SM → Prop} (hr : rX6_bodyNamed s p0 b1) (h : Q (vX6_bodyNamed s p0 b1) s) : KI MX6_bodyNamed 0 [.ref p0, .long b1] s Q := by
  replace h : Q (fX6_bodyNamed s p0 b1) s := h
  unfold rX6_bodyNamed at hr
  unfold fX6_bodyNamed at h
  refine bX6_bodyNamed hp0 b1 ?_
  first | exact (gX6_bodyNamed hp0 FU) b1 (0 : Int32) _ Q hr h | contradiction
set_option maxRecDepth 1000000 in
theorem bX6_forget {p0 : Nat} (hp0 : p0 ∈ PX) {s : SM} {Q : SM → Prop} (h : (∀ s1, s1 = (pI (pI (pI (pI (pI (pI s p0 6 (0 : Int32)) p0 7 (0 : Int32)) p0 8 (1 : Int32)) p0 9 (0 : Int32)) p0 10 (0 : Int32)) p0 12 (0 : Int32)) → Q (pI s1 p0 13 (0 : Int32)))) : KV MX6_forget 0 [.ref p0] s Q := by
  show BV MX6_forget 0 0 [(0, .ref p0)] s Q
  refine JT_aload_n (q := 0) dX6_forget_0 rfl rfl ?_
  refine JT_iconst (v := 0) dX6_forget_1 ic_0 ?_
  refine JS_putI dX6_forget_2 flX6_35 (pxB hp0) (px2 hp0) (pxN hp0) ct_6_6 ?_
  refine JT_aload_n (q := 0) dX6_forget_5 rfl rfl ?_
  refine JT_iconst (v := 0) dX6_forget_6 ic_0 ?_
  refine JS_putI dX6_forget_7 flX6_38 (pxB hp0) (px2 hp0) (pxN hp0) ct_6_7 ?_
  refine JT_aload_n (q := 0) dX6_forget_10 rfl rfl ?_
  refine JT_iconst (v := 1) dX6_forget_11 ic_1 ?_
  refine JS_putI dX6_forget_12 flX6_31 (pxB hp0) (px2 hp0) (pxN hp0) ct_6_8 ?_
  refine JT_aload_n (q := 0) dX6_forget_15 rfl rfl ?_
  refine JT_iconst (v := 0) dX6_forget_16 ic_0 ?_
  refine JS_putI dX6_forget_17 flX6_41 (pxB hp0) (px2 hp0) (pxN hp0) ct_6_9 ?_
  refine JT_aload_n (q := 0) dX6_forget_20 rfl rfl ?_
  refine JT_iconst (v := 0) dX6_forget_21 ic_0 ?_
  refine JS_putI dX6_forget_22 flX6_44 (pxB hp0) (px2 hp0) (pxN hp0) ct_6_10 ?_
  refine JT_aload_n (q := 0) dX6_forget_25 rfl rfl ?_
  refine JT_iconst (v := 0) dX6_forget_26 ic_0 ?_
  refine JS_putZ dX6_forget_27 flX6_47 (pxB hp0) (px2 hp0) (pxN hp0) ct_6_12 (Or.inl rfl) ?_
  obtain ⟨s1, hs1⟩ : ∃ z, z = (pI (pI (pI (pI (pI (pI s p0 6 (0 : Int32)) p0 7 (0 : Int32)) p0 8 (1 : Int32)) p0 9 (0 : Int32)) p0 10 (0 : Int32)) p0 12 (0 : Int32)) := ⟨_, rfl⟩
  replace h := h s1 hs1
  rw [← hs1]
  refine JT_aload_n (q := 0) dX6_forget_30 rfl rfl ?_
  refine JT_iconst (v := 0) dX6_forget_31 ic_0 ?_
  refine JS_putZ dX6_forget_32 flX6_51 (pxB hp0) (px2 hp0) (pxN hp0) ct_6_13 (Or.inl rfl) ?_
  exact JS_vret dX6_forget_35 rfl h
set_option maxRecDepth 1000000 in
theorem pX6_forget {p0 : Nat} (hp0 : p0 ∈ PX) {s : SM} {Q : SM → Prop} (h : Q (mX6_forget s p0)) : KV MX6_forget 0 [.ref p0] s Q := by
  refine bX6_forget hp0 ?_
  unfold mX6_forget at h
  intro s1 e9
  try rw [← e9] at h
  try dsimp only at h
  first | exact h | contradiction
set_option maxRecDepth 1000000 in
theorem bX6_hasBody {p0 : Nat} (hp0 : p0 ∈ PX) (a1 : Int32) {s : SM} {Q : Int32 → SM → Prop} (h : Q (if a1 < 0 then (0 : Int32) else (if (gI s p0 6) ≤ a1 then (0 : Int32) else (if (9 : Int32) ≤ a1 then (0 : Int32) else (1 : Int32)))) s) : KI MX6_hasBody 0 [.ref p0, .int a1] s Q := by
  show BI MX6_hasBody 0 0 [(0, .ref p0), (1, .int a1)] s Q
  refine JT_iload_n (q := 1) dX6_hasBody_0 rfl rfl ?_
  have hj1 : ∀ v : Int32, v = (if a1 < 0 then (0 : Int32) else (if (gI s p0 6) ≤ a1 then (0 : Int32) else (if (9 : Int32) ≤ a1 then (0 : Int32) else (1 : Int32)))) → JT MX6_hasBody 0 0 0 23 [(0, .ref p0), (1, .int a1)] [.int v] (std s) (KQ Q) := by
    intro v hv
    subst hv
    exact JS_iret dX6_hasBody_23 rfl (n01 (i01 (Or.inl rfl) (i01 (Or.inl rfl) (i01 (Or.inl rfl) (Or.inr rfl))))) h
  refine JT_if_lt (tgt := 22) dX6_hasBody_1 (by decide) (fun hc2 => ?_) (fun hc2 => ?_)
  · refine JT_iconst (v := 0) dX6_hasBody_22 ic_0 ?_
    exact hj1 _ (by rw [if_pos hc2])
  · refine JT_iload_n (q := 1) dX6_hasBody_4 rfl rfl ?_
    refine JT_aload_n (q := 0) dX6_hasBody_5 rfl rfl ?_
    refine JS_getI dX6_hasBody_6 flX6_35 (pxB hp0) (px2 hp0) (pxN hp0) (Or.inl ct_6_6) ?_
    refine JT_icmp_ge (tgt := 22) dX6_hasBody_9 (by decide) (fun hc3 => ?_) (fun hc3 => ?_)
    · refine JT_iconst (v := 0) dX6_hasBody_22 ic_0 ?_
      exact hj1 _ (by rw [if_neg hc2, if_pos hc3])
    · refine JT_iload_n (q := 1) dX6_hasBody_12 rfl rfl ?_
      refine JT_bipush (v := 9) dX6_hasBody_13 bp_9 ?_
      refine JT_icmp_ge (tgt := 22) dX6_hasBody_15 (by decide) (fun hc4 => ?_) (fun hc4 => ?_)
      · refine JT_iconst (v := 0) dX6_hasBody_22 ic_0 ?_
        exact hj1 _ (by rw [if_neg hc2, if_neg hc3, if_pos hc4])
      · refine JT_iconst (v := 1) dX6_hasBody_18 ic_1 ?_
        refine JT_goto (tgt := 23) dX6_hasBody_19 (by decide) ?_
        exact hj1 _ (by rw [if_neg hc2, if_neg hc3, if_neg hc4])
set_option maxRecDepth 1000000 in
theorem zX6_hasBody (s : SM) (p0 : Nat) (a1 : Int32) : vX6_hasBody s p0 a1 = 0 ∨ vX6_hasBody s p0 a1 = 1 := (i01 (Or.inl rfl) (i01 (Or.inl rfl) (i01 (Or.inl rfl) (Or.inr rfl))))
set_option maxRecDepth 1000000 in
theorem pX6_hasBody {p0 : Nat} (hp0 : p0 ∈ PX) (a1 : Int32) {s : SM} {Q : Int32 → SM → Prop} (h : Q (vX6_hasBody s p0 a1) s) : KI MX6_hasBody 0 [.ref p0, .int a1] s Q := by
  refine bX6_hasBody hp0 a1 ?_
  unfold vX6_hasBody at h
  first | exact h | contradiction
set_option maxRecDepth 1000000 in
theorem bX6_hasKind {p0 : Nat} (hp0 : p0 ∈ PX) (a1 : Int32) {s : SM} {Q : Int32 → SM → Prop} (h : Q (if a1 < 0 then (0 : Int32) else (if (gI s p0 7) ≤ a1 then (0 : Int32) else (if (6 : Int32) ≤ a1 then (0 : Int32) else (1 : Int32)))) s) : KI MX6_hasKind 0 [.ref p0, .int a1] s Q := by
  show BI MX6_hasKind 0 0 [(0, .ref p0), (1, .int a1)] s Q
  refine JT_iload_n (q := 1) dX6_hasKind_0 rfl rfl ?_
  have hj1 : ∀ v : Int32, v = (if a1 < 0 then (0 : Int32) else (if (gI s p0 7) ≤ a1 then (0 : Int32) else (if (6 : Int32) ≤ a1 then (0 : Int32) else (1 : Int32)))) → JT MX6_hasKind 0 0 0 23 [(0, .ref p0), (1, .int a1)] [.int v] (std s) (KQ Q) := by
    intro v hv
    subst hv
    exact JS_iret dX6_hasKind_23 rfl (n01 (i01 (Or.inl rfl) (i01 (Or.inl rfl) (i01 (Or.inl rfl) (Or.inr rfl))))) h
  refine JT_if_lt (tgt := 22) dX6_hasKind_1 (by decide) (fun hc2 => ?_) (fun hc2 => ?_)
  · refine JT_iconst (v := 0) dX6_hasKind_22 ic_0 ?_
    exact hj1 _ (by rw [if_pos hc2])
  · refine JT_iload_n (q := 1) dX6_hasKind_4 rfl rfl ?_
    refine JT_aload_n (q := 0) dX6_hasKind_5 rfl rfl ?_
    refine JS_getI dX6_hasKind_6 flX6_38 (pxB hp0) (px2 hp0) (pxN hp0) (Or.inl ct_6_7) ?_
    refine JT_icmp_ge (tgt := 22) dX6_hasKind_9 (by decide) (fun hc3 => ?_) (fun hc3 => ?_)
    · refine JT_iconst (v := 0) dX6_hasKind_22 ic_0 ?_
      exact hj1 _ (by rw [if_neg hc2, if_pos hc3])
    · refine JT_iload_n (q := 1) dX6_hasKind_12 rfl rfl ?_
      refine JT_bipush (v := 6) dX6_hasKind_13 bp_6 ?_
      refine JT_icmp_ge (tgt := 22) dX6_hasKind_15 (by decide) (fun hc4 => ?_) (fun hc4 => ?_)
      · refine JT_iconst (v := 0) dX6_hasKind_22 ic_0 ?_
        exact hj1 _ (by rw [if_neg hc2, if_neg hc3, if_pos hc4])
      · refine JT_iconst (v := 1) dX6_hasKind_18 ic_1 ?_
        refine JT_goto (tgt := 23) dX6_hasKind_19 (by decide) ?_
        exact hj1 _ (by rw [if_neg hc2, if_neg hc3, if_neg hc4])
set_option maxRecDepth 1000000 in
theorem zX6_hasKind (s : SM) (p0 : Nat) (a1 : Int32) : vX6_hasKind s p0 a1 = 0 ∨ vX6_hasKind s p0 a1 = 1 := (i01 (Or.inl rfl) (i01 (Or.inl rfl) (i01 (Or.inl rfl) (Or.inr rfl))))
set_option maxRecDepth 1000000 in
theorem pX6_hasKind {p0 : Nat} (hp0 : p0 ∈ PX) (a1 : Int32) {s : SM} {Q : Int32 → SM → Prop} (h : Q (vX6_hasKind s p0 a1) s) : KI MX6_hasKind 0 [.ref p0, .int a1] s Q := by
  refine bX6_hasKind hp0 a1 ?_
  unfold vX6_hasKind at h
  first | exact h | contradiction
set_option maxRecDepth 1000000 in
theorem bX6_isForRings {p0 : Nat} (hp0 : p0 ∈ PX) (a1 : Int32) {s : SM} {Q : Int32 → SM → Prop} (h : vp_in a1 6 ∧ (((gI s (p0 + 6) (a1).toNatClampNeg) = 0 → Q (1 : Int32) s) ∧ (¬ (gI s (p0 + 6) (a1).toNatClampNeg) = 0 → vp_in a1 6 ∧ Q (if (gI s (p0 + 6) (a1).toNatClampNeg) = (4 : Int32) then (1 : Int32) else (0 : Int32)) s))) : KI MX6_isForRings 0 [.ref p0, .int a1] s Q := by
  show BI MX6_isForRings 0 0 [(0, .ref p0), (1, .int a1)] s Q
  refine JT_aload_n (q := 0) dX6_isForRings_0 rfl rfl ?_
  refine JS_getR (x := (p0 + 6)) dX6_isForRings_1 flX6_28 (pxB hp0) (px2 hp0) (pxN hp0) (Or.inr ⟨_, ct_6_5⟩) (pxR5 hp0) ?_
  refine JT_iload_n (q := 1) dX6_isForRings_4 rfl rfl ?_
  obtain ⟨o1, h⟩ := h
  refine JS_iald dX6_isForRings_5 (pxB6 hp0) (px2k hp0 _) (pxNk hp0 (Nat.le_of_ble_eq_true rfl)) o1 ?_
  refine JT_if_eq (tgt := 19) dX6_isForRings_6 (by decide) (fun hc5 => ?_) (fun hc5 => ?_)
  · have h := h.1 hc5
    refine JT_iconst (v := 1) dX6_isForRings_19 ic_1 ?_
    refine JT_goto (tgt := 24) dX6_isForRings_20 (by decide) ?_
    exact JS_iret dX6_isForRings_24 rfl (n01 (Or.inr rfl)) h
  · have h := h.2 hc5
    refine JT_aload_n (q := 0) dX6_isForRings_9 rfl rfl ?_
    refine JS_getR (x := (p0 + 6)) dX6_isForRings_10 flX6_28 (pxB hp0) (px2 hp0) (pxN hp0) (Or.inr ⟨_, ct_6_5⟩) (pxR5 hp0) ?_
    refine JT_iload_n (q := 1) dX6_isForRings_13 rfl rfl ?_
    obtain ⟨o2, h⟩ := h
    refine JS_iald dX6_isForRings_14 (pxB6 hp0) (px2k hp0 _) (pxNk hp0 (Nat.le_of_ble_eq_true rfl)) o2 ?_
    refine JT_iconst (v := 4) dX6_isForRings_15 ic_4 ?_
    have hj3 : ∀ v : Int32, v = (if (gI s (p0 + 6) (a1).toNatClampNeg) = (4 : Int32) then (1 : Int32) else (0 : Int32)) → JT MX6_isForRings 0 0 0 24 [(0, .ref p0), (1, .int a1)] [.int v] (std s) (KQ Q) := by
      intro v hv
      subst hv
      exact JS_iret dX6_isForRings_24 rfl (n01 (i01 (Or.inr rfl) (Or.inl rfl))) h
    refine JT_icmp_ne (tgt := 23) dX6_isForRings_16 (by decide) (fun hc4 => ?_) (fun hc4 => ?_)
    · refine JT_iconst (v := 0) dX6_isForRings_23 ic_0 ?_
      exact hj3 _ (by rw [if_neg hc4])
    · refine JT_iconst (v := 1) dX6_isForRings_19 ic_1 ?_
      refine JT_goto (tgt := 24) dX6_isForRings_20 (by decide) ?_
      exact hj3 _ (by rw [if_pos hc4])
set_option maxRecDepth 1000000 in
theorem zX6_isForRings (s : SM) (p0 : Nat) (a1 : Int32) : vX6_isForRings s p0 a1 = 0 ∨ vX6_isForRings s p0 a1 = 1 := (i01 (Or.inr rfl) (i01 (Or.inr rfl) (Or.inl rfl)))
set_option maxRecDepth 1000000 in
theorem pX6_isForRings {p0 : Nat} (hp0 : p0 ∈ PX) (a1 : Int32) {s : SM} {Q : Int32 → SM → Prop} (hr : rX6_isForRings s p0 a1) (h : Q (vX6_isForRings s p0 a1) s) : KI MX6_isForRings 0 [.ref p0, .int a1] s Q := by
  refine bX6_isForRings hp0 a1 ?_
  unfold rX6_isForRings at hr
  unfold vX6_isForRings at h
  refine ⟨hr.1, ?_⟩
  replace hr := hr.2
  refine ⟨fun c => ?_, fun c => ?_⟩
  · replace h := qlp c h
    first | exact h | contradiction
  · replace hr := hr c
    replace h := qln c h
    refine ⟨hr, ?_⟩
    first | exact h | contradiction
set_option maxRecDepth 1000000 in
theorem bX6_kindNamed_2 {p0 : Nat} (hp0 : p0 ∈ PX) (b1 : Int64) (a3 : Int32) {s : SM} {Q : Int32 → SM → Prop} (h : (((gI s p0 7) ≤ a3 → Q (-1 : Int32) s) ∧ (¬ (gI s p0 7) ≤ a3 → vp_in a3 6 ∧ ((¬ (lg_cmp (gL s (p0 + 4) (a3).toNatClampNeg) b1) = 0 → BI MX6_kindNamed 0 2 [(0, .ref p0), (1, .long b1), (3, .int (a3 + 1))] s Q) ∧ ((lg_cmp (gL s (p0 + 4) (a3).toNatClampNeg) b1) = 0 → Q a3 s))))) : BI MX6_kindNamed 0 2 [(0, .ref p0), (1, .long b1), (3, .int a3)] s Q := by
  refine JT_iload_n (q := 2) dX6_kindNamed_2 rfl rfl ?_
  refine JT_aload_n (q := 0) dX6_kindNamed_3 rfl rfl ?_
  refine JS_getI dX6_kindNamed_4 flX6_38 (pxB hp0) (px2 hp0) (pxN hp0) (Or.inl ct_6_7) ?_
  refine JT_icmp_ge (tgt := 29) dX6_kindNamed_7 (by decide) (fun hc3 => ?_) (fun hc3 => ?_)
  · have h := h.1 hc3
    refine JT_iconst (v := -1) dX6_kindNamed_29 ic_m1 ?_
    exact JS_iret dX6_kindNamed_30 rfl rfl h
  · have h := h.2 hc3
    refine JT_aload_n (q := 0) dX6_kindNamed_10 rfl rfl ?_
    refine JS_getR (x := (p0 + 4)) dX6_kindNamed_11 flX6_22 (pxB hp0) (px2 hp0) (pxN hp0) (Or.inr ⟨_, ct_6_3⟩) (pxR3 hp0) ?_
    refine JT_iload_n (q := 2) dX6_kindNamed_14 rfl rfl ?_
    obtain ⟨o1, h⟩ := h
    refine JS_lald dX6_kindNamed_15 (pxB4 hp0) (px2k hp0 _) (pxNk hp0 (Nat.le_of_ble_eq_true rfl)) o1 ?_
    refine JT_lload_n (q := 1) dX6_kindNamed_16 rfl rfl ?_
    refine JT_lcmp dX6_kindNamed_17 ?_
    refine JT_if_ne (tgt := 23) dX6_kindNamed_18 (by decide) (fun hc2 => ?_) (fun hc2 => ?_)
    · have h := h.1 hc2
      refine JT_iinc (q := 2) (v := (a3 + 1)) (lv' := [(3, .int (a3 + 1)), (0, .ref p0), (1, .long b1)]) dX6_kindNamed_23 rfl (by rfl) (Nat.le_of_ble_eq_true rfl) rfl ?_
      refine JT_goto (tgt := 2) dX6_kindNamed_26 (by decide) ?_
      exact JT_sub [1, 2, 0] rfl h
    · have h := h.2 hc2
      refine JT_iload_n (q := 2) dX6_kindNamed_21 rfl rfl ?_
      exact JS_iret dX6_kindNamed_22 rfl rfl h
set_option maxRecDepth 1000000 in
theorem bX6_kindNamed {p0 : Nat} (hp0 : p0 ∈ PX) (b1 : Int64) {s : SM} {Q : Int32 → SM → Prop} (h : BI MX6_kindNamed 0 2 [(0, .ref p0), (1, .long b1), (3, .int (0 : Int32))] s Q) : KI MX6_kindNamed 0 [.ref p0, .long b1] s Q := by
  show BI MX6_kindNamed 0 0 [(0, .ref p0), (1, .long b1)] s Q
  refine JT_iconst (v := 0) dX6_kindNamed_0 ic_0 ?_
  refine JT_istore_n (lv' := [(3, .int (0 : Int32)), (0, .ref p0), (1, .long b1)]) dX6_kindNamed_1 rfl (Nat.le_of_ble_eq_true rfl) rfl ?_
  exact JT_sub [1, 2, 0] rfl h
set_option maxRecDepth 1000000 in
theorem gX6_kindNamed {p0 : Nat} (hp0 : p0 ∈ PX) : ∀ n : Nat, (∀ (b1 : Int64) (a3 : Int32) (s : SM) (Q : Int32 → SM → Prop), ((qX6_kindNamed n) s p0 b1 a3) → Q ((lX6_kindNamed n) s p0 b1 a3) s → BI MX6_kindNamed 0 2 [(0, .ref p0), (1, .long b1), (3, .int a3)] s Q) := by
  intro n
  induction n with
  | zero => exact fun _ _ _ _ hq _ => absurd hq id
  | succ n ih =>
    intro b1 a3 s Q hr h
    replace hr : uX6_kindNamed_2 (qX6_kindNamed n) s p0 b1 a3 := hr
    replace h : Q (tX6_kindNamed_2 (lX6_kindNamed n) s p0 b1 a3) s := h
    unfold uX6_kindNamed_2 at hr
    unfold tX6_kindNamed_2 at h
    refine bX6_kindNamed_2 hp0 b1 a3 ?_
    refine ⟨fun c => ?_, fun c => ?_⟩
    · replace h := qlp c h
      first | exact h | contradiction
    · replace hr := hr c
      replace h := qln c h
      refine ⟨hr.1, ?_⟩
      replace hr := hr.2
      refine ⟨fun c => ?_, fun c => ?_⟩
      · replace hr := hr c
        replace h := qln c h
        first | exact ih b1 (a3 + 1) _ Q hr h | contradiction
      · replace h := qlp c h
        first | exact h | contradiction
set_option maxRecDepth 1000000 in
theorem pX6_kindNamed {p0 : Nat} (hp0 : p0 ∈ PX) (b1 : Int64) {s : SM} {Q : Int32 → SM → Prop} (hr : rX6_kindNamed s p0 b1) (h : Q (vX6_kindNamed s p0 b1) s) : KI MX6_kindNamed 0 [.ref p0, .long b1] s Q := by
  replace h : Q (fX6_kindNamed s p0 b1) s := h
  unfold rX6_kindNamed at hr
  unfold fX6_kindNamed at h
  refine bX6_kindNamed hp0 b1 ?_
  first | exact (gX6_kindNamed hp0 FU) b1 (0 : Int32) _ Q hr h | contradiction
set_option maxRecDepth 1000000 in
theorem bX6_valueOf {p0 : Nat} (hp0 : p0 ∈ PX) (a1 : Int32) (a2 : Int32) {s : SM} {Q : Int32 → SM → Prop} (h : vp_in a1 6 ∧ (((gI s (p0 + 6) (a1).toNatClampNeg) = 1 → Q ((2 : Int32) * a2) s) ∧ ((gI s (p0 + 6) (a1).toNatClampNeg) = 2 → Q (a2 / (2 : Int32)) s) ∧ ((gI s (p0 + 6) (a1).toNatClampNeg) = 3 → Q (0 : Int32) s) ∧ (((gI s (p0 + 6) (a1).toNatClampNeg).toInt < 1 ∨ 3 < (gI s (p0 + 6) (a1).toNatClampNeg).toInt) → Q a2 s))) : KI MX6_valueOf 0 [.ref p0, .int a1, .int a2] s Q := by
  show BI MX6_valueOf 0 0 [(0, .ref p0), (1, .int a1), (2, .int a2)] s Q
  refine JT_aload_n (q := 0) dX6_valueOf_0 rfl rfl ?_
  refine JS_getR (x := (p0 + 6)) dX6_valueOf_1 flX6_28 (pxB hp0) (px2 hp0) (pxN hp0) (Or.inr ⟨_, ct_6_5⟩) (pxR5 hp0) ?_
  refine JT_iload_n (q := 1) dX6_valueOf_4 rfl rfl ?_
  obtain ⟨o1, h⟩ := h
  refine JS_iald dX6_valueOf_5 (pxB6 hp0) (px2k hp0 _) (pxNk hp0 (Nat.le_of_ble_eq_true rfl)) o1 ?_
  by_cases ho2 : ((gI s (p0 + 6) (a1).toNatClampNeg)).toInt < 1 ∨ 3 < ((gI s (p0 + 6) (a1).toNatClampNeg)).toInt
  · have h := h.2.2.2 ho2
    refine JT_tableOut (tgt := 42) dX6_valueOf_6 ho2 (by decide) ?_
    refine JT_iload_n (q := 2) dX6_valueOf_42 rfl rfl ?_
    exact JS_iret dX6_valueOf_43 rfl rfl h
  · have hk3 : ((gI s (p0 + 6) (a1).toNatClampNeg)).toInt = 1 ∨ ((gI s (p0 + 6) (a1).toNatClampNeg)).toInt = 2 ∨ ((gI s (p0 + 6) (a1).toNatClampNeg)).toInt = 3 := by omega
    rcases hk3 with hk3 | hk3 | hk3
    · have h := h.1 (i32_of_toInt hk3)
      refine JT_tableIn (tgt := 32) dX6_valueOf_6 (by omega) (by omega) (by rw [hk3]; rfl) (by decide) ?_
      refine JT_iconst (v := 2) dX6_valueOf_32 ic_2 ?_
      refine JT_iload_n (q := 2) dX6_valueOf_33 rfl rfl ?_
      refine JT_imul dX6_valueOf_34 ?_
      exact JS_iret dX6_valueOf_35 rfl rfl h
    · have h := h.2.1 (i32_of_toInt hk3)
      refine JT_tableIn (tgt := 36) dX6_valueOf_6 (by omega) (by omega) (by rw [hk3]; rfl) (by decide) ?_
      refine JT_iload_n (q := 2) dX6_valueOf_36 rfl rfl ?_
      refine JT_iconst (v := 2) dX6_valueOf_37 ic_2 ?_
      refine JT_idiv dX6_valueOf_38 (by decide) ?_
      exact JS_iret dX6_valueOf_39 rfl rfl h
    · have h := h.2.2.1 (i32_of_toInt hk3)
      refine JT_tableIn (tgt := 40) dX6_valueOf_6 (by omega) (by omega) (by rw [hk3]; rfl) (by decide) ?_
      refine JT_iconst (v := 0) dX6_valueOf_40 ic_0 ?_
      exact JS_iret dX6_valueOf_41 rfl rfl h
set_option maxRecDepth 1000000 in
theorem pX6_valueOf {p0 : Nat} (hp0 : p0 ∈ PX) (a1 : Int32) (a2 : Int32) {s : SM} {Q : Int32 → SM → Prop} (hr : rX6_valueOf s p0 a1 a2) (h : Q (vX6_valueOf s p0 a1 a2) s) : KI MX6_valueOf 0 [.ref p0, .int a1, .int a2] s Q := by
  refine bX6_valueOf hp0 a1 a2 ?_
  unfold rX6_valueOf at hr
  unfold vX6_valueOf at h
  refine ⟨hr, ?_⟩
  refine ⟨fun c => ?_, fun c => ?_, fun c => ?_, fun c => ?_⟩
  · replace h := qlp c h
    first | exact h | contradiction
  · have n1 : ¬ (gI s (p0 + 6) (a1).toNatClampNeg) = (1 : Int32) := by rw [c]; decide
    replace h := qln n1 h
    replace h := qlp c h
    first | exact h | contradiction
  · have n1 : ¬ (gI s (p0 + 6) (a1).toNatClampNeg) = (1 : Int32) := by rw [c]; decide
    replace h := qln n1 h
    have n2 : ¬ (gI s (p0 + 6) (a1).toNatClampNeg) = (2 : Int32) := by rw [c]; decide
    replace h := qln n2 h
    replace h := qlp c h
    first | exact h | contradiction
  · have n1 : ¬ (gI s (p0 + 6) (a1).toNatClampNeg) = (1 : Int32) := by intro e9; rw [e9] at c; revert c; decide
    replace h := qln n1 h
    have n2 : ¬ (gI s (p0 + 6) (a1).toNatClampNeg) = (2 : Int32) := by intro e9; rw [e9] at c; revert c; decide
    replace h := qln n2 h
    have n3 : ¬ (gI s (p0 + 6) (a1).toNatClampNeg) = (3 : Int32) := by intro e9; rw [e9] at c; revert c; decide
    replace h := qln n3 h
    first | exact h | contradiction
set_option maxRecDepth 1000000 in
theorem bX7_isBetter (a1 : Int32) (a2 : Int32) {s : SM} {Q : Int32 → SM → Prop} (h : ((a2 = (gI s 218 2) → ((a1 < (gI s 218 1) → Q (1 : Int32) s) ∧ (¬ a1 < (gI s 218 1) → ((¬ a1 = (gI s 218 1) → Q (0 : Int32) s) ∧ (a1 = (gI s 218 1) → Q (if (gI s 220 ((0 : Int32)).toNatClampNeg) = (gI s 219 ((0 : Int32)).toNatClampNeg) then (0 : Int32) else (1 : Int32)) s))))) ∧ (¬ a2 = (gI s 218 2) → Q (if a2 ≤ (gI s 218 2) then (0 : Int32) else (1 : Int32)) s))) : KI MX7_isBetter 0 [.ref 218, .int a1, .int a2] s Q := by
  show BI MX7_isBetter 0 0 [(0, .ref 218), (1, .int a1), (2, .int a2)] s Q
  refine JT_iload_n (q := 2) dX7_isBetter_0 rfl rfl ?_
  refine JT_aload_n (q := 0) dX7_isBetter_1 rfl rfl ?_
  refine JS_getI dX7_isBetter_2 flX7_79 BS_218 (Nat.le_of_ble_eq_true rfl) (Nat.le_of_ble_eq_true rfl) (Or.inl ct_7_2) ?_
  refine JT_icmp_eq (tgt := 22) dX7_isBetter_5 (by decide) (fun hc7 => ?_) (fun hc7 => ?_)
  · have h := h.1 hc7
    refine JT_iload_n (q := 1) dX7_isBetter_22 rfl rfl ?_
    refine JT_aload_n (q := 0) dX7_isBetter_23 rfl rfl ?_
    refine JS_getI dX7_isBetter_24 flX7_61 BS_218 (Nat.le_of_ble_eq_true rfl) (Nat.le_of_ble_eq_true rfl) (Or.inl ct_7_1) ?_
    refine JT_icmp_lt (tgt := 53) dX7_isBetter_27 (by decide) (fun hc4 => ?_) (fun hc4 => ?_)
    · have h := h.1 hc4
      refine JT_iconst (v := 1) dX7_isBetter_53 ic_1 ?_
      refine JT_goto (tgt := 58) dX7_isBetter_54 (by decide) ?_
      exact JS_iret dX7_isBetter_58 rfl (n01 (Or.inr rfl)) h
    · have h := h.2 hc4
      refine JT_iload_n (q := 1) dX7_isBetter_30 rfl rfl ?_
      refine JT_aload_n (q := 0) dX7_isBetter_31 rfl rfl ?_
      refine JS_getI dX7_isBetter_32 flX7_61 BS_218 (Nat.le_of_ble_eq_true rfl) (Nat.le_of_ble_eq_true rfl) (Or.inl ct_7_1) ?_
      refine JT_icmp_ne (tgt := 57) dX7_isBetter_35 (by decide) (fun hc3 => ?_) (fun hc3 => ?_)
      · have h := h.1 hc3
        refine JT_iconst (v := 0) dX7_isBetter_57 ic_0 ?_
        exact JS_iret dX7_isBetter_58 rfl (n01 (Or.inl rfl)) h
      · have h := h.2 hc3
        refine JT_aload_n (q := 0) dX7_isBetter_38 rfl rfl ?_
        refine JS_getR (x := 220) dX7_isBetter_39 flX7_15 BS_218 (Nat.le_of_ble_eq_true rfl) (Nat.le_of_ble_eq_true rfl) (Or.inr ⟨_, ct_7_5⟩) RF_218_5 ?_
        refine JT_iconst (v := 0) dX7_isBetter_42 ic_0 ?_
        refine JS_iald dX7_isBetter_43 BS_220 (Nat.le_of_ble_eq_true rfl) (Nat.le_of_ble_eq_true rfl) (by unfold vp_in; decide) ?_
        refine JT_aload_n (q := 0) dX7_isBetter_44 rfl rfl ?_
        refine JS_getR (x := 219) dX7_isBetter_45 flX7_9 BS_218 (Nat.le_of_ble_eq_true rfl) (Nat.le_of_ble_eq_true rfl) (Or.inr ⟨_, ct_7_0⟩) RF_218_0 ?_
        refine JT_iconst (v := 0) dX7_isBetter_48 ic_0 ?_
        refine JS_iald dX7_isBetter_49 BS_219 (Nat.le_of_ble_eq_true rfl) (Nat.le_of_ble_eq_true rfl) (by unfold vp_in; decide) ?_
        have hj1 : ∀ v : Int32, v = (if (gI s 220 ((0 : Int32)).toNatClampNeg) = (gI s 219 ((0 : Int32)).toNatClampNeg) then (0 : Int32) else (1 : Int32)) → JT MX7_isBetter 0 0 0 58 [(0, .ref 218), (1, .int a1), (2, .int a2)] [.int v] (std s) (KQ Q) := by
          intro v hv
          subst hv
          exact JS_iret dX7_isBetter_58 rfl (n01 (i01 (Or.inl rfl) (Or.inr rfl))) h
        refine JT_icmp_eq (tgt := 57) dX7_isBetter_50 (by decide) (fun hc2 => ?_) (fun hc2 => ?_)
        · refine JT_iconst (v := 0) dX7_isBetter_57 ic_0 ?_
          exact hj1 _ (by rw [if_pos hc2])
        · refine JT_iconst (v := 1) dX7_isBetter_53 ic_1 ?_
          refine JT_goto (tgt := 58) dX7_isBetter_54 (by decide) ?_
          exact hj1 _ (by rw [if_neg hc2])
  · have h := h.2 hc7
    refine JT_iload_n (q := 2) dX7_isBetter_8 rfl rfl ?_
    refine JT_aload_n (q := 0) dX7_isBetter_9 rfl rfl ?_
    refine JS_getI dX7_isBetter_10 flX7_79 BS_218 (Nat.le_of_ble_eq_true rfl) (Nat.le_of_ble_eq_true rfl) (Or.inl ct_7_2) ?_
    have hj5 : ∀ v : Int32, v = (if a2 ≤ (gI s 218 2) then (0 : Int32) else (1 : Int32)) → JT MX7_isBetter 0 0 0 21 [(0, .ref 218), (1, .int a1), (2, .int a2)] [.int v] (std s) (KQ Q) := by
      intro v hv
      subst hv
      exact JS_iret dX7_isBetter_21 rfl (n01 (i01 (Or.inl rfl) (Or.inr rfl))) h
    refine JT_icmp_le (tgt := 20) dX7_isBetter_13 (by decide) (fun hc6 => ?_) (fun hc6 => ?_)
    · refine JT_iconst (v := 0) dX7_isBetter_20 ic_0 ?_
      exact hj5 _ (by rw [if_pos hc6])
    · refine JT_iconst (v := 1) dX7_isBetter_16 ic_1 ?_
      refine JT_goto (tgt := 21) dX7_isBetter_17 (by decide) ?_
      exact hj5 _ (by rw [if_neg hc6])
set_option maxRecDepth 1000000 in
theorem zX7_isBetter (s : SM) (a1 : Int32) (a2 : Int32) : vX7_isBetter s a1 a2 = 0 ∨ vX7_isBetter s a1 a2 = 1 := (i01 (i01 (Or.inr rfl) (i01 (i01 (Or.inl rfl) (Or.inr rfl)) (Or.inl rfl))) (i01 (Or.inl rfl) (Or.inr rfl)))
set_option maxRecDepth 1000000 in
theorem pX7_isBetter (a1 : Int32) (a2 : Int32) {s : SM} {Q : Int32 → SM → Prop} (h : Q (vX7_isBetter s a1 a2) s) : KI MX7_isBetter 0 [.ref 218, .int a1, .int a2] s Q := by
  refine bX7_isBetter a1 a2 ?_
  unfold vX7_isBetter at h
  refine ⟨fun c => ?_, fun c => ?_⟩
  · replace h := qlp c h
    refine ⟨fun c => ?_, fun c => ?_⟩
    · replace h := qlp c h
      first | exact h | contradiction
    · replace h := qln c h
      refine ⟨fun c => ?_, fun c => ?_⟩
      · replace h := qln c h
        first | exact h | contradiction
      · replace h := qlp c h
        first | exact h | contradiction
  · replace h := qln c h
    first | exact h | contradiction
set_option maxRecDepth 1000000 in
theorem bX9_add_3 (a1 : Int32) (a2 : Int32) {s : SM} {Q : SM → Prop} (h : ((a2 < 0 → Q s) ∧ (¬ a2 < 0 → (((640 : Int32) ≤ (gI s 3 1) → BV MX9_add 0 3 [(0, .ref 3), (1, .int a1), (2, .int (a2 + (-8)))] s Q) ∧ (¬ (640 : Int32) ≤ (gI s 3 1) → vp_in (gI s 3 1) 640 ∧ (∀ s2, s2 = (pI (pI s 4 ((gI s 3 1)).toNatClampNeg ((a1 >>> (a2 &&& 31)) &&& (255 : Int32))) 3 1 ((gI (pI s 4 ((gI s 3 1)).toNatClampNeg ((a1 >>> (a2 &&& 31)) &&& (255 : Int32))) 3 1) + (1 : Int32))) → BV MX9_add 0 3 [(0, .ref 3), (1, .int a1), (2, .int (a2 + (-8)))] s2 Q)))))) : BV MX9_add 0 3 [(0, .ref 3), (1, .int a1), (2, .int a2)] s Q := by
  refine JT_iload_n (q := 2) dX9_add_3 rfl rfl ?_
  refine JT_if_lt (tgt := 49) dX9_add_4 (by decide) (fun hc4 => ?_) (fun hc4 => ?_)
  · have h := h.1 hc4
    exact JS_vret dX9_add_49 rfl h
  · have h := h.2 hc4
    refine JT_aload_n (q := 0) dX9_add_7 rfl rfl ?_
    refine JS_getI dX9_add_8 flX9_15 BS_3 (Nat.le_of_ble_eq_true rfl) (Nat.le_of_ble_eq_true rfl) (Or.inl ct_9_1) ?_
    refine JT_sipush (v := 640) dX9_add_11 sp_640 ?_
    refine JT_icmp_ge (tgt := 43) dX9_add_14 (by decide) (fun hc3 => ?_) (fun hc3 => ?_)
    · have h := h.1 hc3
      refine JT_iinc (q := 2) (v := (a2 + (-8))) (lv' := [(2, .int (a2 + (-8))), (0, .ref 3), (1, .int a1)]) dX9_add_43 rfl (by rfl) (Nat.le_of_ble_eq_true rfl) rfl ?_
      refine JT_goto (tgt := 3) dX9_add_46 (by decide) ?_
      exact JT_sub [1, 2, 0] rfl h
    · have h := h.2 hc3
      refine JT_aload_n (q := 0) dX9_add_17 rfl rfl ?_
      refine JS_getR (x := 4) dX9_add_18 flX9_9 BS_3 (Nat.le_of_ble_eq_true rfl) (Nat.le_of_ble_eq_true rfl) (Or.inr ⟨_, ct_9_0⟩) RF_3_0 ?_
      refine JT_aload_n (q := 0) dX9_add_21 rfl rfl ?_
      refine JS_getI dX9_add_22 flX9_15 BS_3 (Nat.le_of_ble_eq_true rfl) (Nat.le_of_ble_eq_true rfl) (Or.inl ct_9_1) ?_
      refine JT_iload_n (q := 1) dX9_add_25 rfl rfl ?_
      refine JT_iload_n (q := 2) dX9_add_26 rfl rfl ?_
      refine JT_ishr dX9_add_27 ?_
      refine JT_sipush (v := 255) dX9_add_28 sp_255 ?_
      refine JT_iand dX9_add_31 ?_
      obtain ⟨o1, h⟩ := h
      refine JS_iast dX9_add_32 BS_4 (Nat.le_of_ble_eq_true rfl) (Nat.le_of_ble_eq_true rfl) o1 ?_
      refine JT_aload_n (q := 0) dX9_add_33 rfl rfl ?_
      refine JT_dup dX9_add_34 rfl ?_
      refine JS_getI dX9_add_35 flX9_15 BS_3 (Nat.le_of_ble_eq_true rfl) (Nat.le_of_ble_eq_true rfl) (Or.inl ct_9_1) ?_
      refine JT_iconst (v := 1) dX9_add_38 ic_1 ?_
      refine JT_iadd dX9_add_39 ?_
      refine JS_putI dX9_add_40 flX9_15 BS_3 (Nat.le_of_ble_eq_true rfl) (Nat.le_of_ble_eq_true rfl) ct_9_1 ?_
      obtain ⟨s2, hs2⟩ : ∃ z, z = (pI (pI s 4 ((gI s 3 1)).toNatClampNeg ((a1 >>> (a2 &&& 31)) &&& (255 : Int32))) 3 1 ((gI (pI s 4 ((gI s 3 1)).toNatClampNeg ((a1 >>> (a2 &&& 31)) &&& (255 : Int32))) 3 1) + (1 : Int32))) := ⟨_, rfl⟩
      replace h := h s2 hs2
      rw [← hs2]
      refine JT_iinc (q := 2) (v := (a2 + (-8))) (lv' := [(2, .int (a2 + (-8))), (0, .ref 3), (1, .int a1)]) dX9_add_43 rfl (by rfl) (Nat.le_of_ble_eq_true rfl) rfl ?_
      refine JT_goto (tgt := 3) dX9_add_46 (by decide) ?_
      exact JT_sub [1, 2, 0] rfl h
set_option maxRecDepth 1000000 in
theorem bX9_add (a1 : Int32) {s : SM} {Q : SM → Prop} (h : BV MX9_add 0 3 [(0, .ref 3), (1, .int a1), (2, .int (24 : Int32))] s Q) : KV MX9_add 0 [.ref 3, .int a1] s Q := by
  show BV MX9_add 0 0 [(0, .ref 3), (1, .int a1)] s Q
  refine JT_bipush (v := 24) dX9_add_0 bp_24 ?_
  refine JT_istore_n (lv' := [(2, .int (24 : Int32)), (0, .ref 3), (1, .int a1)]) dX9_add_2 rfl (Nat.le_of_ble_eq_true rfl) rfl ?_
  exact JT_sub [1, 2, 0] rfl h
set_option maxRecDepth 1000000 in
theorem gX9_add  : ∀ n : Nat, (∀ (a1 : Int32) (a2 : Int32) (s : SM) (Q : SM → Prop), ((qX9_add n) s a1 a2) → Q ((lX9_add n) s a1 a2) → BV MX9_add 0 3 [(0, .ref 3), (1, .int a1), (2, .int a2)] s Q) := by
  intro n
  induction n with
  | zero => exact fun _ _ _ _ hq _ => absurd hq id
  | succ n ih =>
    intro a1 a2 s Q hr h
    replace hr : uX9_add_3 (qX9_add n) s a1 a2 := hr
    replace h : Q (tX9_add_3 (lX9_add n) s a1 a2) := h
    unfold uX9_add_3 at hr
    unfold tX9_add_3 at h
    refine bX9_add_3 a1 a2 ?_
    refine ⟨fun c => ?_, fun c => ?_⟩
    · replace h := q1p c h
      first | exact h | contradiction
    · replace hr := hr c
      replace h := q1n c h
      refine ⟨fun c => ?_, fun c => ?_⟩
      · replace hr := hr.1 c
        replace h := q1p c h
        first | exact ih a1 (a2 + (-8)) _ Q hr h | contradiction
      · replace hr := hr.2 c
        replace h := q1n c h
        refine ⟨hr.1, ?_⟩
        replace hr := hr.2
        intro s2 e9
        replace hr := hr s2 e9
        try rw [← e9] at h
        try dsimp only at h
        first | exact ih a1 (a2 + (-8)) _ Q hr h | contradiction
set_option maxRecDepth 1000000 in
theorem pX9_add (a1 : Int32) {s : SM} {Q : SM → Prop} (hr : rX9_add s a1) (h : Q (mX9_add s a1)) : KV MX9_add 0 [.ref 3, .int a1] s Q := by
  replace h : Q (fX9_add s a1) := h
  unfold rX9_add at hr
  unfold fX9_add at h
  refine bX9_add a1 ?_
  first | exact (gX9_add  FU) a1 (24 : Int32) _ Q hr h | contradiction
set_option maxRecDepth 1000000 in
theorem bX9_begin  {s : SM} {Q : SM → Prop} (h : Q (pI (pI (pI s 3 7 (0 : Int32)) 3 2 (0 : Int32)) 3 3 (0 : Int32))) : KV MX9_begin 0 [.ref 3] s Q := by
  show BV MX9_begin 0 0 [(0, .ref 3)] s Q
  refine JT_aload_n (q := 0) dX9_begin_0 rfl rfl ?_
  refine JT_iconst (v := 0) dX9_begin_1 ic_0 ?_
  refine JS_putI dX9_begin_2 flX9_19 BS_3 (Nat.le_of_ble_eq_true rfl) (Nat.le_of_ble_eq_true rfl) ct_9_7 ?_
  refine JT_aload_n (q := 0) dX9_begin_5 rfl rfl ?_
  refine JT_iconst (v := 0) dX9_begin_6 ic_0 ?_
  refine JS_putI dX9_begin_7 flX9_22 BS_3 (Nat.le_of_ble_eq_true rfl) (Nat.le_of_ble_eq_true rfl) ct_9_2 ?_
  refine JT_aload_n (q := 0) dX9_begin_10 rfl rfl ?_
  refine JT_iconst (v := 0) dX9_begin_11 ic_0 ?_
  refine JS_putI dX9_begin_12 flX9_25 BS_3 (Nat.le_of_ble_eq_true rfl) (Nat.le_of_ble_eq_true rfl) ct_9_3 ?_
  exact JS_vret dX9_begin_15 rfl h
set_option maxRecDepth 1000000 in
theorem pX9_begin  {s : SM} {Q : SM → Prop} (h : Q (mX9_begin s )) : KV MX9_begin 0 [.ref 3] s Q := by
  refine bX9_begin  ?_
  unfold mX9_begin at h
  first | exact h | contradiction
set_option maxRecDepth 1000000 in
theorem bX9_byteOr (a1 : Int32) (a2 : Int32) {s : SM} {Q : Int32 → SM → Prop} (h : ((a1 < 0 → Q a2 s) ∧ (¬ a1 < 0 → (((gI s 3 1) ≤ a1 → Q a2 s) ∧ (¬ (gI s 3 1) ≤ a1 → (((640 : Int32) ≤ a1 → Q a2 s) ∧ (¬ (640 : Int32) ≤ a1 → vp_in a1 640 ∧ Q (gI s 4 (a1).toNatClampNeg) s))))))) : KI MX9_byteOr 0 [.ref 3, .int a1, .int a2] s Q := by
  show BI MX9_byteOr 0 0 [(0, .ref 3), (1, .int a1), (2, .int a2)] s Q
  refine JT_iload_n (q := 1) dX9_byteOr_0 rfl rfl ?_
  refine JT_if_lt (tgt := 28) dX9_byteOr_1 (by decide) (fun hc4 => ?_) (fun hc4 => ?_)
  · have h := h.1 hc4
    refine JT_iload_n (q := 2) dX9_byteOr_28 rfl rfl ?_
    exact JS_iret dX9_byteOr_29 rfl rfl h
  · have h := h.2 hc4
    refine JT_iload_n (q := 1) dX9_byteOr_4 rfl rfl ?_
    refine JT_aload_n (q := 0) dX9_byteOr_5 rfl rfl ?_
    refine JS_getI dX9_byteOr_6 flX9_15 BS_3 (Nat.le_of_ble_eq_true rfl) (Nat.le_of_ble_eq_true rfl) (Or.inl ct_9_1) ?_
    refine JT_icmp_ge (tgt := 28) dX9_byteOr_9 (by decide) (fun hc3 => ?_) (fun hc3 => ?_)
    · have h := h.1 hc3
      refine JT_iload_n (q := 2) dX9_byteOr_28 rfl rfl ?_
      exact JS_iret dX9_byteOr_29 rfl rfl h
    · have h := h.2 hc3
      refine JT_iload_n (q := 1) dX9_byteOr_12 rfl rfl ?_
      refine JT_sipush (v := 640) dX9_byteOr_13 sp_640 ?_
      refine JT_icmp_ge (tgt := 28) dX9_byteOr_16 (by decide) (fun hc2 => ?_) (fun hc2 => ?_)
      · have h := h.1 hc2
        refine JT_iload_n (q := 2) dX9_byteOr_28 rfl rfl ?_
        exact JS_iret dX9_byteOr_29 rfl rfl h
      · have h := h.2 hc2
        refine JT_aload_n (q := 0) dX9_byteOr_19 rfl rfl ?_
        refine JS_getR (x := 4) dX9_byteOr_20 flX9_9 BS_3 (Nat.le_of_ble_eq_true rfl) (Nat.le_of_ble_eq_true rfl) (Or.inr ⟨_, ct_9_0⟩) RF_3_0 ?_
        refine JT_iload_n (q := 1) dX9_byteOr_23 rfl rfl ?_
        obtain ⟨o1, h⟩ := h
        refine JS_iald dX9_byteOr_24 BS_4 (Nat.le_of_ble_eq_true rfl) (Nat.le_of_ble_eq_true rfl) o1 ?_
        refine JT_goto (tgt := 29) dX9_byteOr_25 (by decide) ?_
        exact JS_iret dX9_byteOr_29 rfl rfl h
set_option maxRecDepth 1000000 in
theorem pX9_byteOr (a1 : Int32) (a2 : Int32) {s : SM} {Q : Int32 → SM → Prop} (hr : rX9_byteOr s a1 a2) (h : Q (vX9_byteOr s a1 a2) s) : KI MX9_byteOr 0 [.ref 3, .int a1, .int a2] s Q := by
  refine bX9_byteOr a1 a2 ?_
  unfold rX9_byteOr at hr
  unfold vX9_byteOr at h
  refine ⟨fun c => ?_, fun c => ?_⟩
  · replace h := qlp c h
    first | exact h | contradiction
  · replace hr := hr c
    replace h := qln c h
    refine ⟨fun c => ?_, fun c => ?_⟩
    · replace h := qlp c h
      first | exact h | contradiction
    · replace hr := hr c
      replace h := qln c h
      refine ⟨fun c => ?_, fun c => ?_⟩
      · replace h := qlp c h
        first | exact h | contradiction
      · replace hr := hr c
        replace h := qln c h
        refine ⟨hr, ?_⟩
        first | exact h | contradiction
set_option maxRecDepth 1000000 in
theorem bX9_isBlank (a0 : Int32) {s : SM} {Q : Int32 → SM → Prop} (h : Q (if a0 = (32 : Int32) then (1 : Int32) else (if a0 = (10 : Int32) then (1 : Int32) else (0 : Int32))) s) : KI MX9_isBlank 0 [.int a0] s Q := by
  show BI MX9_isBlank 0 0 [(0, .int a0)] s Q
  refine JT_iload_n (q := 0) dX9_isBlank_0 rfl rfl ?_
  refine JT_bipush (v := 32) dX9_isBlank_1 bp_32 ?_
  have hj1 : ∀ v : Int32, v = (if a0 = (32 : Int32) then (1 : Int32) else (if a0 = (10 : Int32) then (1 : Int32) else (0 : Int32))) → JT MX9_isBlank 0 0 0 17 [(0, .int a0)] [.int v] (std s) (KQ Q) := by
    intro v hv
    subst hv
    exact JS_iret dX9_isBlank_17 rfl (n01 (i01 (Or.inr rfl) (i01 (Or.inr rfl) (Or.inl rfl)))) h
  refine JT_icmp_eq (tgt := 12) dX9_isBlank_3 (by decide) (fun hc2 => ?_) (fun hc2 => ?_)
  · refine JT_iconst (v := 1) dX9_isBlank_12 ic_1 ?_
    refine JT_goto (tgt := 17) dX9_isBlank_13 (by decide) ?_
    exact hj1 _ (by rw [if_pos hc2])
  · refine JT_iload_n (q := 0) dX9_isBlank_6 rfl rfl ?_
    refine JT_bipush (v := 10) dX9_isBlank_7 bp_10 ?_
    refine JT_icmp_ne (tgt := 16) dX9_isBlank_9 (by decide) (fun hc3 => ?_) (fun hc3 => ?_)
    · refine JT_iconst (v := 0) dX9_isBlank_16 ic_0 ?_
      exact hj1 _ (by rw [if_neg hc2, if_neg hc3])
    · refine JT_iconst (v := 1) dX9_isBlank_12 ic_1 ?_
      refine JT_goto (tgt := 17) dX9_isBlank_13 (by decide) ?_
      exact hj1 _ (by rw [if_neg hc2, if_pos hc3])
set_option maxRecDepth 1000000 in
theorem zX9_isBlank (s : SM) (a0 : Int32) : vX9_isBlank s a0 = 0 ∨ vX9_isBlank s a0 = 1 := (i01 (Or.inr rfl) (i01 (Or.inr rfl) (Or.inl rfl)))
set_option maxRecDepth 1000000 in
theorem pX9_isBlank (a0 : Int32) {s : SM} {Q : Int32 → SM → Prop} (h : Q (vX9_isBlank s a0) s) : KI MX9_isBlank 0 [.int a0] s Q := by
  refine bX9_isBlank a0 ?_
  unfold vX9_isBlank at h
  first | exact h | contradiction
set_option maxRecDepth 1000000 in
theorem bX9_isDigit (a0 : Int32) {s : SM} {Q : Int32 → SM → Prop} (h : Q (if a0 < (48 : Int32) then (0 : Int32) else (if (57 : Int32) < a0 then (0 : Int32) else (1 : Int32))) s) : KI MX9_isDigit 0 [.int a0] s Q := by
  show BI MX9_isDigit 0 0 [(0, .int a0)] s Q
  refine JT_iload_n (q := 0) dX9_isDigit_0 rfl rfl ?_
  refine JT_bipush (v := 48) dX9_isDigit_1 bp_48 ?_
  have hj1 : ∀ v : Int32, v = (if a0 < (48 : Int32) then (0 : Int32) else (if (57 : Int32) < a0 then (0 : Int32) else (1 : Int32))) → JT MX9_isDigit 0 0 0 17 [(0, .int a0)] [.int v] (std s) (KQ Q) := by
    intro v hv
    subst hv
    exact JS_iret dX9_isDigit_17 rfl (n01 (i01 (Or.inl rfl) (i01 (Or.inl rfl) (Or.inr rfl)))) h
  refine JT_icmp_lt (tgt := 16) dX9_isDigit_3 (by decide) (fun hc2 => ?_) (fun hc2 => ?_)
  · refine JT_iconst (v := 0) dX9_isDigit_16 ic_0 ?_
    exact hj1 _ (by rw [if_pos hc2])
  · refine JT_iload_n (q := 0) dX9_isDigit_6 rfl rfl ?_
    refine JT_bipush (v := 57) dX9_isDigit_7 bp_57 ?_
    refine JT_icmp_gt (tgt := 16) dX9_isDigit_9 (by decide) (fun hc3 => ?_) (fun hc3 => ?_)
    · refine JT_iconst (v := 0) dX9_isDigit_16 ic_0 ?_
      exact hj1 _ (by rw [if_neg hc2, if_pos hc3])
    · refine JT_iconst (v := 1) dX9_isDigit_12 ic_1 ?_
      refine JT_goto (tgt := 17) dX9_isDigit_13 (by decide) ?_
      exact hj1 _ (by rw [if_neg hc2, if_neg hc3])
set_option maxRecDepth 1000000 in
theorem zX9_isDigit (s : SM) (a0 : Int32) : vX9_isDigit s a0 = 0 ∨ vX9_isDigit s a0 = 1 := (i01 (Or.inl rfl) (i01 (Or.inl rfl) (Or.inr rfl)))
set_option maxRecDepth 1000000 in
theorem pX9_isDigit (a0 : Int32) {s : SM} {Q : Int32 → SM → Prop} (h : Q (vX9_isDigit s a0) s) : KI MX9_isDigit 0 [.int a0] s Q := by
  refine bX9_isDigit a0 ?_
  unfold vX9_isDigit at h
  first | exact h | contradiction
set_option maxRecDepth 1000000 in
theorem bX9_isEnd  {s : SM} {Q : Int32 → SM → Prop} (h : Q (if (gI s 3 9) = 0 then (1 : Int32) else (0 : Int32)) s) : KI MX9_isEnd 0 [.ref 3] s Q := by
  show BI MX9_isEnd 0 0 [(0, .ref 3)] s Q
  refine JT_aload_n (q := 0) dX9_isEnd_0 rfl rfl ?_
  refine JS_getI dX9_isEnd_1 flX9_44 BS_3 (Nat.le_of_ble_eq_true rfl) (Nat.le_of_ble_eq_true rfl) (Or.inl ct_9_9) ?_
  have hj1 : ∀ v : Int32, v = (if (gI s 3 9) = 0 then (1 : Int32) else (0 : Int32)) → JT MX9_isEnd 0 0 0 12 [(0, .ref 3)] [.int v] (std s) (KQ Q) := by
    intro v hv
    subst hv
    exact JS_iret dX9_isEnd_12 rfl (n01 (i01 (Or.inr rfl) (Or.inl rfl))) h
  refine JT_if_ne (tgt := 11) dX9_isEnd_4 (by decide) (fun hc2 => ?_) (fun hc2 => ?_)
  · refine JT_iconst (v := 0) dX9_isEnd_11 ic_0 ?_
    exact hj1 _ (by rw [if_neg hc2])
  · refine JT_iconst (v := 1) dX9_isEnd_7 ic_1 ?_
    refine JT_goto (tgt := 12) dX9_isEnd_8 (by decide) ?_
    exact hj1 _ (by rw [if_pos hc2])
set_option maxRecDepth 1000000 in
theorem zX9_isEnd (s : SM)  : vX9_isEnd s  = 0 ∨ vX9_isEnd s  = 1 := (i01 (Or.inr rfl) (Or.inl rfl))
set_option maxRecDepth 1000000 in
theorem pX9_isEnd  {s : SM} {Q : Int32 → SM → Prop} (h : Q (vX9_isEnd s ) s) : KI MX9_isEnd 0 [.ref 3] s Q := by
  refine bX9_isEnd  ?_
  unfold vX9_isEnd at h
  first | exact h | contradiction
set_option maxRecDepth 1000000 in
theorem bX9_isLetter (a0 : Int32) {s : SM} {Q : Int32 → SM → Prop} (h : Q (if a0 < (97 : Int32) then (0 : Int32) else (if (122 : Int32) < a0 then (0 : Int32) else (1 : Int32))) s) : KI MX9_isLetter 0 [.int a0] s Q := by
  show BI MX9_isLetter 0 0 [(0, .int a0)] s Q
  refine JT_iload_n (q := 0) dX9_isLetter_0 rfl rfl ?_
  refine JT_bipush (v := 97) dX9_isLetter_1 bp_97 ?_
  have hj1 : ∀ v : Int32, v = (if a0 < (97 : Int32) then (0 : Int32) else (if (122 : Int32) < a0 then (0 : Int32) else (1 : Int32))) → JT MX9_isLetter 0 0 0 17 [(0, .int a0)] [.int v] (std s) (KQ Q) := by
    intro v hv
    subst hv
    exact JS_iret dX9_isLetter_17 rfl (n01 (i01 (Or.inl rfl) (i01 (Or.inl rfl) (Or.inr rfl)))) h
  refine JT_icmp_lt (tgt := 16) dX9_isLetter_3 (by decide) (fun hc2 => ?_) (fun hc2 => ?_)
  · refine JT_iconst (v := 0) dX9_isLetter_16 ic_0 ?_
    exact hj1 _ (by rw [if_pos hc2])
  · refine JT_iload_n (q := 0) dX9_isLetter_6 rfl rfl ?_
    refine JT_bipush (v := 122) dX9_isLetter_7 bp_122 ?_
    refine JT_icmp_gt (tgt := 16) dX9_isLetter_9 (by decide) (fun hc3 => ?_) (fun hc3 => ?_)
    · refine JT_iconst (v := 0) dX9_isLetter_16 ic_0 ?_
      exact hj1 _ (by rw [if_neg hc2, if_pos hc3])
    · refine JT_iconst (v := 1) dX9_isLetter_12 ic_1 ?_
      refine JT_goto (tgt := 17) dX9_isLetter_13 (by decide) ?_
      exact hj1 _ (by rw [if_neg hc2, if_neg hc3])
set_option maxRecDepth 1000000 in
theorem zX9_isLetter (s : SM) (a0 : Int32) : vX9_isLetter s a0 = 0 ∨ vX9_isLetter s a0 = 1 := (i01 (Or.inl rfl) (i01 (Or.inl rfl) (Or.inr rfl)))
set_option maxRecDepth 1000000 in
theorem pX9_isLetter (a0 : Int32) {s : SM} {Q : Int32 → SM → Prop} (h : Q (vX9_isLetter s a0) s) : KI MX9_isLetter 0 [.int a0] s Q := by
  refine bX9_isLetter a0 ?_
  unfold vX9_isLetter at h
  first | exact h | contradiction
set_option maxRecDepth 1000000 in
theorem bX9_isName_2 (a1 : Int32) {s : SM} {Q : Int32 → SM → Prop} (h : (((17 : Int32) ≤ a1 → Q (if (gI s 3 9) = (1 : Int32) then (1 : Int32) else (0 : Int32)) s) ∧ (¬ (17 : Int32) ≤ a1 → vp_in a1 17 ∧ ((¬ (lg_cmp (gL s 3 4) (WV (a1).toNatClampNeg)) = 0 → BI MX9_isName 0 2 [(0, .ref 3), (1, .int (a1 + 1))] s Q) ∧ ((lg_cmp (gL s 3 4) (WV (a1).toNatClampNeg)) = 0 → Q (0 : Int32) s))))) : BI MX9_isName 0 2 [(0, .ref 3), (1, .int a1)] s Q := by
  refine JT_iload_n (q := 1) dX9_isName_2 rfl rfl ?_
  refine JT_gets dX9_isName_3 fsX9_66 ?_
  refine JT_wlen dX9_isName_6 ?_
  refine JT_icmp_ge (tgt := 31) dX9_isName_7 (by decide) (fun hc5 => ?_) (fun hc5 => ?_)
  · have h := h.1 hc5
    refine JT_aload_n (q := 0) dX9_isName_31 rfl rfl ?_
    refine JS_getI dX9_isName_32 flX9_44 BS_3 (Nat.le_of_ble_eq_true rfl) (Nat.le_of_ble_eq_true rfl) (Or.inl ct_9_9) ?_
    refine JT_iconst (v := 1) dX9_isName_35 ic_1 ?_
    have hj1 : ∀ v : Int32, v = (if (gI s 3 9) = (1 : Int32) then (1 : Int32) else (0 : Int32)) → JT MX9_isName 0 0 0 44 [(0, .ref 3), (1, .int a1)] [.int v] (std s) (KQ Q) := by
      intro v hv
      subst hv
      exact JS_iret dX9_isName_44 rfl (n01 (i01 (Or.inr rfl) (Or.inl rfl))) h
    refine JT_icmp_ne (tgt := 43) dX9_isName_36 (by decide) (fun hc2 => ?_) (fun hc2 => ?_)
    · refine JT_iconst (v := 0) dX9_isName_43 ic_0 ?_
      exact hj1 _ (by rw [if_neg hc2])
    · refine JT_iconst (v := 1) dX9_isName_39 ic_1 ?_
      refine JT_goto (tgt := 44) dX9_isName_40 (by decide) ?_
      exact hj1 _ (by rw [if_pos hc2])
  · have h := h.2 hc5
    refine JT_aload_n (q := 0) dX9_isName_10 rfl rfl ?_
    refine JS_getL dX9_isName_11 flX9_56 BS_3 (Nat.le_of_ble_eq_true rfl) (Nat.le_of_ble_eq_true rfl) ct_9_4 ?_
    refine JT_gets dX9_isName_14 fsX9_66 ?_
    refine JT_iload_n (q := 1) dX9_isName_17 rfl rfl ?_
    obtain ⟨o3, h⟩ := h
    refine JT_wld dX9_isName_18 o3 ?_
    refine JT_lcmp dX9_isName_19 ?_
    refine JT_if_ne (tgt := 25) dX9_isName_20 (by decide) (fun hc4 => ?_) (fun hc4 => ?_)
    · have h := h.1 hc4
      refine JT_iinc (q := 1) (v := (a1 + 1)) (lv' := [(1, .int (a1 + 1)), (0, .ref 3)]) dX9_isName_25 rfl (by rfl) (Nat.le_of_ble_eq_true rfl) rfl ?_
      refine JT_goto (tgt := 2) dX9_isName_28 (by decide) ?_
      exact JT_sub [1, 0] rfl h
    · have h := h.2 hc4
      refine JT_iconst (v := 0) dX9_isName_23 ic_0 ?_
      exact JS_iret dX9_isName_24 rfl (n01 (Or.inl rfl)) h
set_option maxRecDepth 1000000 in
theorem bX9_isName  {s : SM} {Q : Int32 → SM → Prop} (h : BI MX9_isName 0 2 [(0, .ref 3), (1, .int (0 : Int32))] s Q) : KI MX9_isName 0 [.ref 3] s Q := by
  show BI MX9_isName 0 0 [(0, .ref 3)] s Q
  refine JT_iconst (v := 0) dX9_isName_0 ic_0 ?_
  refine JT_istore_n (lv' := [(1, .int (0 : Int32)), (0, .ref 3)]) dX9_isName_1 rfl (Nat.le_of_ble_eq_true rfl) rfl ?_
  exact JT_sub [1, 0] rfl h
set_option maxRecDepth 1000000 in
theorem gX9_isName  : ∀ n : Nat, (∀ (a1 : Int32) (s : SM) (Q : Int32 → SM → Prop), ((qX9_isName n) s a1) → Q ((lX9_isName n) s a1) s → BI MX9_isName 0 2 [(0, .ref 3), (1, .int a1)] s Q) := by
  intro n
  induction n with
  | zero => exact fun _ _ _ hq _ => absurd hq id
  | succ n ih =>
    intro a1 s Q hr h
    replace hr : uX9_isName_2 (qX9_isName n) s a1 := hr
    replace h : Q (tX9_isName_2 (lX9_isName n) s a1) s := h
    unfold uX9_isName_2 at hr
    unfold tX9_isName_2 at h
    refine bX9_isName_2 a1 ?_
    refine ⟨fun c => ?_, fun c => ?_⟩
    · replace h := qlp c h
      first | exact h | contradiction
    · replace hr := hr c
      replace h := qln c h
      refine ⟨hr.1, ?_⟩
      replace hr := hr.2
      refine ⟨fun c => ?_, fun c => ?_⟩
      · replace hr := hr c
        replace h := qln c h
        first | exact ih (a1 + 1) _ Q hr h | contradiction
      · replace h := qlp c h
        first | exact h | contradiction
set_option maxRecDepth 1000000 in
theorem pX9_isName  {s : SM} {Q : Int32 → SM → Prop} (hr : rX9_isName s ) (h : Q (vX9_isName s ) s) : KI MX9_isName 0 [.ref 3] s Q := by
  replace h : Q (fX9_isName s ) s := h
  unfold rX9_isName at hr
  unfold fX9_isName at h
  refine bX9_isName  ?_
  first | exact (gX9_isName  FU) (0 : Int32) _ Q hr h | contradiction
set_option maxRecDepth 1000000 in
theorem bX9_refuse (a1 : Int32) {s : SM} {Q : Int32 → SM → Prop} (h : Q (0 : Int32) (pI (pI s 3 2 a1) 3 3 (gI (pI s 3 2 a1) 3 8))) : KI MX9_refuse 0 [.ref 3, .int a1] s Q := by
  show BI MX9_refuse 0 0 [(0, .ref 3), (1, .int a1)] s Q
  refine JT_aload_n (q := 0) dX9_refuse_0 rfl rfl ?_
  refine JT_iload_n (q := 1) dX9_refuse_1 rfl rfl ?_
  refine JS_putI dX9_refuse_2 flX9_22 BS_3 (Nat.le_of_ble_eq_true rfl) (Nat.le_of_ble_eq_true rfl) ct_9_2 ?_
  refine JT_aload_n (q := 0) dX9_refuse_5 rfl rfl ?_
  refine JT_aload_n (q := 0) dX9_refuse_6 rfl rfl ?_
  refine JS_getI dX9_refuse_7 flX9_28 BS_3 (Nat.le_of_ble_eq_true rfl) (Nat.le_of_ble_eq_true rfl) (Or.inl ct_9_8) ?_
  refine JS_putI dX9_refuse_10 flX9_25 BS_3 (Nat.le_of_ble_eq_true rfl) (Nat.le_of_ble_eq_true rfl) ct_9_3 ?_
  refine JT_iconst (v := 0) dX9_refuse_13 ic_0 ?_
  exact JS_iret dX9_refuse_14 rfl (n01 (Or.inl rfl)) h
set_option maxRecDepth 1000000 in
theorem zX9_refuse (s : SM) (a1 : Int32) : vX9_refuse s a1 = 0 ∨ vX9_refuse s a1 = 1 := (Or.inl rfl)
set_option maxRecDepth 1000000 in
theorem pX9_refuse (a1 : Int32) {s : SM} {Q : Int32 → SM → Prop} (h : Q (vX9_refuse s a1) (mX9_refuse s a1)) : KI MX9_refuse 0 [.ref 3, .int a1] s Q := by
  refine bX9_refuse a1 ?_
  unfold vX9_refuse mX9_refuse at h
  first | exact h | contradiction
set_option maxRecDepth 1000000 in
theorem bX9_says (b1 : Int64) {s : SM} {Q : Int32 → SM → Prop} (h : ((¬ (gI s 3 9) = (1 : Int32) → Q (0 : Int32) s) ∧ ((gI s 3 9) = (1 : Int32) → Q (if (lg_cmp (gL s 3 4) b1) = 0 then (1 : Int32) else (0 : Int32)) s))) : KI MX9_says 0 [.ref 3, .long b1] s Q := by
  show BI MX9_says 0 0 [(0, .ref 3), (1, .long b1)] s Q
  refine JT_aload_n (q := 0) dX9_says_0 rfl rfl ?_
  refine JS_getI dX9_says_1 flX9_44 BS_3 (Nat.le_of_ble_eq_true rfl) (Nat.le_of_ble_eq_true rfl) (Or.inl ct_9_9) ?_
  refine JT_iconst (v := 1) dX9_says_4 ic_1 ?_
  refine JT_icmp_ne (tgt := 21) dX9_says_5 (by decide) (fun hc3 => ?_) (fun hc3 => ?_)
  · have h := h.1 hc3
    refine JT_iconst (v := 0) dX9_says_21 ic_0 ?_
    exact JS_iret dX9_says_22 rfl (n01 (Or.inl rfl)) h
  · have h := h.2 hc3
    refine JT_aload_n (q := 0) dX9_says_8 rfl rfl ?_
    refine JS_getL dX9_says_9 flX9_56 BS_3 (Nat.le_of_ble_eq_true rfl) (Nat.le_of_ble_eq_true rfl) ct_9_4 ?_
    refine JT_lload_n (q := 1) dX9_says_12 rfl rfl ?_
    refine JT_lcmp dX9_says_13 ?_
    have hj1 : ∀ v : Int32, v = (if (lg_cmp (gL s 3 4) b1) = 0 then (1 : Int32) else (0 : Int32)) → JT MX9_says 0 0 0 22 [(0, .ref 3), (1, .long b1)] [.int v] (std s) (KQ Q) := by
      intro v hv
      subst hv
      exact JS_iret dX9_says_22 rfl (n01 (i01 (Or.inr rfl) (Or.inl rfl))) h
    refine JT_if_ne (tgt := 21) dX9_says_14 (by decide) (fun hc2 => ?_) (fun hc2 => ?_)
    · refine JT_iconst (v := 0) dX9_says_21 ic_0 ?_
      exact hj1 _ (by rw [if_neg hc2])
    · refine JT_iconst (v := 1) dX9_says_17 ic_1 ?_
      refine JT_goto (tgt := 22) dX9_says_18 (by decide) ?_
      exact hj1 _ (by rw [if_pos hc2])
set_option maxRecDepth 1000000 in
theorem zX9_says (s : SM) (b1 : Int64) : vX9_says s b1 = 0 ∨ vX9_says s b1 = 1 := (i01 (i01 (Or.inr rfl) (Or.inl rfl)) (Or.inl rfl))
set_option maxRecDepth 1000000 in
theorem pX9_says (b1 : Int64) {s : SM} {Q : Int32 → SM → Prop} (h : Q (vX9_says s b1) s) : KI MX9_says 0 [.ref 3, .long b1] s Q := by
  refine bX9_says b1 ?_
  unfold vX9_says at h
  refine ⟨fun c => ?_, fun c => ?_⟩
  · replace h := qln c h
    first | exact h | contradiction
  · replace h := qlp c h
    first | exact h | contradiction
