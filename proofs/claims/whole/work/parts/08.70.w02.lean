set_option maxRecDepth 1000000 in
theorem bX12_sizeOf (a1 : Int32) {s : SM} {Q : Int32 → SM → Prop} (h : rX12_of s a1 (3 : Int32) ∧ vp_in ((22 : Int32) + (vX12_of s a1 (3 : Int32))) 787 ∧ Q (gI s 250 (((22 : Int32) + (vX12_of s a1 (3 : Int32)))).toNatClampNeg) s) : KI MX12_sizeOf 1 [.ref 248, .int a1] s Q := by
  show BI MX12_sizeOf 1 0 [(0, .ref 248), (1, .int a1)] s Q
  refine JT_aload_n (q := 0) dX12_sizeOf_0 rfl rfl ?_
  refine JS_getR (x := 250) dX12_sizeOf_1 flX12_33 BS_248 (Nat.le_of_ble_eq_true rfl) (Nat.le_of_ble_eq_true rfl) (Or.inr ⟨_, ct_12_6⟩) RF_248_6 ?_
  refine JT_bipush (v := 22) dX12_sizeOf_4 bp_22 ?_
  refine JT_aload_n (q := 0) dX12_sizeOf_6 rfl rfl ?_
  refine JT_iload_n (q := 1) dX12_sizeOf_7 rfl rfl ?_
  refine JT_iconst (v := 3) dX12_sizeOf_8 ic_3 ?_
  obtain ⟨o2, h⟩ := h
  refine JS_callVI (M' := MX12_of) (d' := 0) (As := [.int a1, .int (3 : Int32)]) (rest := [.int (22 : Int32), .ref 250]) (P := (fun zv9 wm9 => (vX12_of s a1 (3 : Int32)) = zv9 ∧ s = wm9)) dX12_sizeOf_9 cvX12_265 okX12_of rfl (Nat.le_of_ble_eq_true rfl) BS_248 (Nat.le_of_ble_eq_true rfl) (Nat.le_of_ble_eq_true rfl) hci_12 (Nat.le_of_ble_eq_true rfl) (Nat.le_of_ble_eq_true rfl) (pX12_of  (a1) ((3 : Int32)) o2 ⟨rfl, rfl⟩) (fun zv9 wm9 hq9 => ?_)
  obtain ⟨rfl, rfl⟩ := hq9
  refine JT_iadd dX12_sizeOf_12 ?_
  obtain ⟨o1, h⟩ := h
  refine JS_iald dX12_sizeOf_13 BS_250 (Nat.le_of_ble_eq_true rfl) (Nat.le_of_ble_eq_true rfl) o1 ?_
  exact JS_iret dX12_sizeOf_14 rfl rfl h
set_option maxRecDepth 1000000 in
theorem pX12_sizeOf (a1 : Int32) {s : SM} {Q : Int32 → SM → Prop} (hr : rX12_sizeOf s a1) (h : Q (vX12_sizeOf s a1) s) : KI MX12_sizeOf 1 [.ref 248, .int a1] s Q := by
  refine bX12_sizeOf a1 ?_
  unfold rX12_sizeOf at hr
  unfold vX12_sizeOf at h
  refine ⟨hr.1, ?_⟩
  replace hr := hr.2
  refine ⟨hr, ?_⟩
  first | exact h | contradiction
set_option maxRecDepth 1000000 in
theorem bX12_sortOf (a1 : Int32) {s : SM} {Q : Int32 → SM → Prop} (h : rX12_of s a1 (3 : Int32) ∧ vp_in ((28 : Int32) + (vX12_of s a1 (3 : Int32))) 787 ∧ Q (gI s 250 (((28 : Int32) + (vX12_of s a1 (3 : Int32)))).toNatClampNeg) s) : KI MX12_sortOf 1 [.ref 248, .int a1] s Q := by
  show BI MX12_sortOf 1 0 [(0, .ref 248), (1, .int a1)] s Q
  refine JT_aload_n (q := 0) dX12_sortOf_0 rfl rfl ?_
  refine JS_getR (x := 250) dX12_sortOf_1 flX12_33 BS_248 (Nat.le_of_ble_eq_true rfl) (Nat.le_of_ble_eq_true rfl) (Or.inr ⟨_, ct_12_6⟩) RF_248_6 ?_
  refine JT_bipush (v := 28) dX12_sortOf_4 bp_28 ?_
  refine JT_aload_n (q := 0) dX12_sortOf_6 rfl rfl ?_
  refine JT_iload_n (q := 1) dX12_sortOf_7 rfl rfl ?_
  refine JT_iconst (v := 3) dX12_sortOf_8 ic_3 ?_
  obtain ⟨o2, h⟩ := h
  refine JS_callVI (M' := MX12_of) (d' := 0) (As := [.int a1, .int (3 : Int32)]) (rest := [.int (28 : Int32), .ref 250]) (P := (fun zv9 wm9 => (vX12_of s a1 (3 : Int32)) = zv9 ∧ s = wm9)) dX12_sortOf_9 cvX12_265 okX12_of rfl (Nat.le_of_ble_eq_true rfl) BS_248 (Nat.le_of_ble_eq_true rfl) (Nat.le_of_ble_eq_true rfl) hci_12 (Nat.le_of_ble_eq_true rfl) (Nat.le_of_ble_eq_true rfl) (pX12_of  (a1) ((3 : Int32)) o2 ⟨rfl, rfl⟩) (fun zv9 wm9 hq9 => ?_)
  obtain ⟨rfl, rfl⟩ := hq9
  refine JT_iadd dX12_sortOf_12 ?_
  obtain ⟨o1, h⟩ := h
  refine JS_iald dX12_sortOf_13 BS_250 (Nat.le_of_ble_eq_true rfl) (Nat.le_of_ble_eq_true rfl) o1 ?_
  exact JS_iret dX12_sortOf_14 rfl rfl h
set_option maxRecDepth 1000000 in
theorem pX12_sortOf (a1 : Int32) {s : SM} {Q : Int32 → SM → Prop} (hr : rX12_sortOf s a1) (h : Q (vX12_sortOf s a1) s) : KI MX12_sortOf 1 [.ref 248, .int a1] s Q := by
  refine bX12_sortOf a1 ?_
  unfold rX12_sortOf at hr
  unfold vX12_sortOf at h
  refine ⟨hr.1, ?_⟩
  replace hr := hr.2
  refine ⟨hr, ?_⟩
  first | exact h | contradiction
set_option maxRecDepth 1000000 in
theorem bX12_year  {s : SM} {Q : Int32 → SM → Prop} (h : ((¬ (gI (pI s 248 0 (0 : Int32)) 250 ((35 : Int32)).toNatClampNeg) = (99 : Int32) → rX12_keep (pI s 248 0 (0 : Int32))  ∧ (∀ s1, s1 = (pI (mX12_keep (pI s 248 0 (0 : Int32)) ) 250 ((35 : Int32)).toNatClampNeg ((gI (mX12_keep (pI s 248 0 (0 : Int32)) ) 250 ((35 : Int32)).toNatClampNeg) + (1 : Int32))) → Q (gI s1 250 ((35 : Int32)).toNatClampNeg) s1)) ∧ ((gI (pI s 248 0 (0 : Int32)) 250 ((35 : Int32)).toNatClampNeg) = (99 : Int32) → Q (-1 : Int32) (pI s 248 0 (0 : Int32))))) : KI MX12_year 1 [.ref 248] s Q := by
  show BI MX12_year 1 0 [(0, .ref 248)] s Q
  refine JT_aload_n (q := 0) dX12_year_0 rfl rfl ?_
  refine JT_iconst (v := 0) dX12_year_1 ic_0 ?_
  refine JS_putI dX12_year_2 flX12_1 BS_248 (Nat.le_of_ble_eq_true rfl) (Nat.le_of_ble_eq_true rfl) ct_12_0 ?_
  refine JT_aload_n (q := 0) dX12_year_5 rfl rfl ?_
  refine JS_getR (x := 250) dX12_year_6 flX12_33 BS_248 (Nat.le_of_ble_eq_true rfl) (Nat.le_of_ble_eq_true rfl) (Or.inr ⟨_, ct_12_6⟩) RF_248_6 ?_
  refine JT_bipush (v := 35) dX12_year_9 bp_35 ?_
  refine JS_iald dX12_year_11 BS_250 (Nat.le_of_ble_eq_true rfl) (Nat.le_of_ble_eq_true rfl) (by unfold vp_in; decide) ?_
  refine JT_bipush (v := 99) dX12_year_12 bp_99 ?_
  refine JT_icmp_ne (tgt := 19) dX12_year_14 (by decide) (fun hc3 => ?_) (fun hc3 => ?_)
  · have h := h.1 hc3
    refine JT_aload_n (q := 0) dX12_year_19 rfl rfl ?_
    obtain ⟨o2, h⟩ := h
    refine JS_callVV (M' := MX12_keep) (d' := 0) (As := []) (rest := []) (P := (fun wm9 => (mX12_keep (pI s 248 0 (0 : Int32)) ) = wm9)) dX12_year_20 cvX12_329 okX12_keep rfl (Nat.le_of_ble_eq_true rfl) BS_248 (Nat.le_of_ble_eq_true rfl) (Nat.le_of_ble_eq_true rfl) hci_12 (Nat.le_of_ble_eq_true rfl) (Nat.le_of_ble_eq_true rfl) (pX12_keep   o2 rfl) (fun wm9 hq9 => ?_)
    subst hq9
    refine JT_aload_n (q := 0) dX12_year_23 rfl rfl ?_
    refine JS_getR (x := 250) dX12_year_24 flX12_33 BS_248 (Nat.le_of_ble_eq_true rfl) (Nat.le_of_ble_eq_true rfl) (Or.inr ⟨_, ct_12_6⟩) RF_248_6 ?_
    refine JT_bipush (v := 35) dX12_year_27 bp_35 ?_
    refine JT_dup2 dX12_year_29 rfl rfl ?_
    refine JS_iald dX12_year_30 BS_250 (Nat.le_of_ble_eq_true rfl) (Nat.le_of_ble_eq_true rfl) (by unfold vp_in; decide) ?_
    refine JT_iconst (v := 1) dX12_year_31 ic_1 ?_
    refine JT_iadd dX12_year_32 ?_
    refine JS_iast dX12_year_33 BS_250 (Nat.le_of_ble_eq_true rfl) (Nat.le_of_ble_eq_true rfl) (by unfold vp_in; decide) ?_
    obtain ⟨s1, hs1⟩ : ∃ z, z = (pI (mX12_keep (pI s 248 0 (0 : Int32)) ) 250 ((35 : Int32)).toNatClampNeg ((gI (mX12_keep (pI s 248 0 (0 : Int32)) ) 250 ((35 : Int32)).toNatClampNeg) + (1 : Int32))) := ⟨_, rfl⟩
    replace h := h s1 hs1
    rw [← hs1]
    refine JT_aload_n (q := 0) dX12_year_34 rfl rfl ?_
    refine JS_getR (x := 250) dX12_year_35 flX12_33 BS_248 (Nat.le_of_ble_eq_true rfl) (Nat.le_of_ble_eq_true rfl) (Or.inr ⟨_, ct_12_6⟩) RF_248_6 ?_
    refine JT_bipush (v := 35) dX12_year_38 bp_35 ?_
    refine JS_iald dX12_year_40 BS_250 (Nat.le_of_ble_eq_true rfl) (Nat.le_of_ble_eq_true rfl) (by unfold vp_in; decide) ?_
    exact JS_iret dX12_year_41 rfl rfl h
  · have h := h.2 hc3
    refine JT_iconst (v := -1) dX12_year_17 ic_m1 ?_
    exact JS_iret dX12_year_18 rfl rfl h
set_option maxRecDepth 1000000 in
theorem pX12_year  {s : SM} {Q : Int32 → SM → Prop} (hr : rX12_year s ) (h : Q (vX12_year s ) (mX12_year s )) : KI MX12_year 1 [.ref 248] s Q := by
  refine bX12_year  ?_
  unfold rX12_year at hr
  unfold vX12_year mX12_year at h
  refine ⟨fun c => ?_, fun c => ?_⟩
  · replace hr := hr c
    replace h := q2n c h
    refine ⟨hr, ?_⟩
    intro s1 e9
    try rw [← e9] at h
    try dsimp only at h
    first | exact h | contradiction
  · replace h := q2p c h
    first | exact h | contradiction
set_option maxRecDepth 1000000 in
theorem bX1_noteWay_2 (a1 : Int32) {s : SM} {Q : SM → Prop} (h : (((gI s 233 6) ≤ a1 → Q (pI s 233 9 ((gI s 233 9) + (1 : Int32)))) ∧ (¬ (gI s 233 6) ≤ a1 → ((¬ (gI s 233 9) = 0 → vp_in a1 4 ∧ vp_in a1 4 ∧ vp_in a1 4 ∧ (∀ s4, s4 = (pI s 236 (a1).toNatClampNeg (if (gI s 235 (a1).toNatClampNeg) < (gI s 236 (a1).toNatClampNeg) then (gI s 235 (a1).toNatClampNeg) else (gI s 236 (a1).toNatClampNeg))) → ((¬ (gI s4 233 9) = 0 → vp_in a1 4 ∧ vp_in a1 4 ∧ vp_in a1 4 ∧ (∀ s8, s8 = (pI s4 237 (a1).toNatClampNeg (if (gI s4 237 (a1).toNatClampNeg) < (gI s4 235 (a1).toNatClampNeg) then (gI s4 235 (a1).toNatClampNeg) else (gI s4 237 (a1).toNatClampNeg))) → BV MX1_noteWay 1 2 [(0, .ref 233), (1, .int (a1 + 1))] s8 Q)) ∧ ((gI s4 233 9) = 0 → vp_in a1 4 ∧ vp_in a1 4 ∧ BV MX1_noteWay 1 2 [(0, .ref 233), (1, .int (a1 + 1))] (pI s4 237 (a1).toNatClampNeg (gI s4 235 (a1).toNatClampNeg)) Q)))) ∧ ((gI s 233 9) = 0 → vp_in a1 4 ∧ vp_in a1 4 ∧ ((¬ (gI (pI s 236 (a1).toNatClampNeg (gI s 235 (a1).toNatClampNeg)) 233 9) = 0 → vp_in a1 4 ∧ vp_in a1 4 ∧ vp_in a1 4 ∧ (∀ s17, s17 = (pI (pI s 236 (a1).toNatClampNeg (gI s 235 (a1).toNatClampNeg)) 237 (a1).toNatClampNeg (if (gI (pI s 236 (a1).toNatClampNeg (gI s 235 (a1).toNatClampNeg)) 237 (a1).toNatClampNeg) < (gI (pI s 236 (a1).toNatClampNeg (gI s 235 (a1).toNatClampNeg)) 235 (a1).toNatClampNeg) then (gI (pI s 236 (a1).toNatClampNeg (gI s 235 (a1).toNatClampNeg)) 235 (a1).toNatClampNeg) else (gI (pI s 236 (a1).toNatClampNeg (gI s 235 (a1).toNatClampNeg)) 237 (a1).toNatClampNeg))) → BV MX1_noteWay 1 2 [(0, .ref 233), (1, .int (a1 + 1))] s17 Q)) ∧ ((gI (pI s 236 (a1).toNatClampNeg (gI s 235 (a1).toNatClampNeg)) 233 9) = 0 → vp_in a1 4 ∧ vp_in a1 4 ∧ (∀ s20, s20 = (pI (pI s 236 (a1).toNatClampNeg (gI s 235 (a1).toNatClampNeg)) 237 (a1).toNatClampNeg (gI (pI s 236 (a1).toNatClampNeg (gI s 235 (a1).toNatClampNeg)) 235 (a1).toNatClampNeg)) → BV MX1_noteWay 1 2 [(0, .ref 233), (1, .int (a1 + 1))] s20 Q)))))))) : BV MX1_noteWay 1 2 [(0, .ref 233), (1, .int a1)] s Q := by
  refine JT_iload_n (q := 1) dX1_noteWay_2 rfl rfl ?_
  refine JT_aload_n (q := 0) dX1_noteWay_3 rfl rfl ?_
  refine JS_getI dX1_noteWay_4 flX1_67 BS_233 (Nat.le_of_ble_eq_true rfl) (Nat.le_of_ble_eq_true rfl) (Or.inl ct_1_6) ?_
  refine JT_icmp_ge (tgt := 90) dX1_noteWay_7 (by decide) (fun hc23 => ?_) (fun hc23 => ?_)
  · have h := h.1 hc23
    refine JT_aload_n (q := 0) dX1_noteWay_90 rfl rfl ?_
    refine JT_dup dX1_noteWay_91 rfl ?_
    refine JS_getI dX1_noteWay_92 flX1_96 BS_233 (Nat.le_of_ble_eq_true rfl) (Nat.le_of_ble_eq_true rfl) (Or.inl ct_1_9) ?_
    refine JT_iconst (v := 1) dX1_noteWay_95 ic_1 ?_
    refine JT_iadd dX1_noteWay_96 ?_
    refine JS_putI dX1_noteWay_97 flX1_96 BS_233 (Nat.le_of_ble_eq_true rfl) (Nat.le_of_ble_eq_true rfl) ct_1_9 ?_
    exact JS_vret dX1_noteWay_100 rfl h
  · have h := h.2 hc23
    refine JT_aload_n (q := 0) dX1_noteWay_10 rfl rfl ?_
    refine JS_getR (x := 236) dX1_noteWay_11 flX1_18 BS_233 (Nat.le_of_ble_eq_true rfl) (Nat.le_of_ble_eq_true rfl) (Or.inr ⟨_, ct_1_2⟩) RF_233_2 ?_
    refine JT_iload_n (q := 1) dX1_noteWay_14 rfl rfl ?_
    refine JT_aload_n (q := 0) dX1_noteWay_15 rfl rfl ?_
    refine JS_getI dX1_noteWay_16 flX1_96 BS_233 (Nat.le_of_ble_eq_true rfl) (Nat.le_of_ble_eq_true rfl) (Or.inl ct_1_9) ?_
    refine JT_if_ne (tgt := 31) dX1_noteWay_19 (by decide) (fun hc22 => ?_) (fun hc22 => ?_)
    · have h := h.1 hc22
      refine JT_aload_n (q := 0) dX1_noteWay_31 rfl rfl ?_
      refine JS_getR (x := 236) dX1_noteWay_32 flX1_18 BS_233 (Nat.le_of_ble_eq_true rfl) (Nat.le_of_ble_eq_true rfl) (Or.inr ⟨_, ct_1_2⟩) RF_233_2 ?_
      refine JT_iload_n (q := 1) dX1_noteWay_35 rfl rfl ?_
      obtain ⟨o1, h⟩ := h
      refine JS_iald dX1_noteWay_36 BS_236 (Nat.le_of_ble_eq_true rfl) (Nat.le_of_ble_eq_true rfl) o1 ?_
      refine JT_aload_n (q := 0) dX1_noteWay_37 rfl rfl ?_
      refine JS_getR (x := 235) dX1_noteWay_38 flX1_15 BS_233 (Nat.le_of_ble_eq_true rfl) (Nat.le_of_ble_eq_true rfl) (Or.inr ⟨_, ct_1_1⟩) RF_233_1 ?_
      refine JT_iload_n (q := 1) dX1_noteWay_41 rfl rfl ?_
      obtain ⟨o2, h⟩ := h
      refine JS_iald dX1_noteWay_42 BS_235 (Nat.le_of_ble_eq_true rfl) (Nat.le_of_ble_eq_true rfl) o2 ?_
      refine JT_mmin (d2 := 0) dX1_noteWay_43 mlX1_115 (Nat.le_of_ble_eq_true rfl) rfl ?_
      obtain ⟨o3, h⟩ := h
      refine JS_iast dX1_noteWay_46 BS_236 (Nat.le_of_ble_eq_true rfl) (Nat.le_of_ble_eq_true rfl) o3 ?_
      obtain ⟨s4, hs4⟩ : ∃ z, z = (pI s 236 (a1).toNatClampNeg (if (gI s 235 (a1).toNatClampNeg) < (gI s 236 (a1).toNatClampNeg) then (gI s 235 (a1).toNatClampNeg) else (gI s 236 (a1).toNatClampNeg))) := ⟨_, rfl⟩
      replace h := h s4 hs4
      rw [← hs4]
      refine JT_aload_n (q := 0) dX1_noteWay_47 rfl rfl ?_
      refine JS_getR (x := 237) dX1_noteWay_48 flX1_21 BS_233 (Nat.le_of_ble_eq_true rfl) (Nat.le_of_ble_eq_true rfl) (Or.inr ⟨_, ct_1_3⟩) RF_233_3 ?_
      refine JT_iload_n (q := 1) dX1_noteWay_51 rfl rfl ?_
      refine JT_aload_n (q := 0) dX1_noteWay_52 rfl rfl ?_
      refine JS_getI dX1_noteWay_53 flX1_96 BS_233 (Nat.le_of_ble_eq_true rfl) (Nat.le_of_ble_eq_true rfl) (Or.inl ct_1_9) ?_
      refine JT_if_ne (tgt := 68) dX1_noteWay_56 (by decide) (fun hc11 => ?_) (fun hc11 => ?_)
      · have h := h.1 hc11
        refine JT_aload_n (q := 0) dX1_noteWay_68 rfl rfl ?_
        refine JS_getR (x := 237) dX1_noteWay_69 flX1_21 BS_233 (Nat.le_of_ble_eq_true rfl) (Nat.le_of_ble_eq_true rfl) (Or.inr ⟨_, ct_1_3⟩) RF_233_3 ?_
        refine JT_iload_n (q := 1) dX1_noteWay_72 rfl rfl ?_
        obtain ⟨o5, h⟩ := h
        refine JS_iald dX1_noteWay_73 BS_237 (Nat.le_of_ble_eq_true rfl) (Nat.le_of_ble_eq_true rfl) o5 ?_
        refine JT_aload_n (q := 0) dX1_noteWay_74 rfl rfl ?_
        refine JS_getR (x := 235) dX1_noteWay_75 flX1_15 BS_233 (Nat.le_of_ble_eq_true rfl) (Nat.le_of_ble_eq_true rfl) (Or.inr ⟨_, ct_1_1⟩) RF_233_1 ?_
        refine JT_iload_n (q := 1) dX1_noteWay_78 rfl rfl ?_
        obtain ⟨o6, h⟩ := h
        refine JS_iald dX1_noteWay_79 BS_235 (Nat.le_of_ble_eq_true rfl) (Nat.le_of_ble_eq_true rfl) o6 ?_
        refine JT_mmax (d2 := 0) dX1_noteWay_80 mlX1_120 (Nat.le_of_ble_eq_true rfl) rfl ?_
        obtain ⟨o7, h⟩ := h
        refine JS_iast dX1_noteWay_83 BS_237 (Nat.le_of_ble_eq_true rfl) (Nat.le_of_ble_eq_true rfl) o7 ?_
        obtain ⟨s8, hs8⟩ : ∃ z, z = (pI s4 237 (a1).toNatClampNeg (if (gI s4 237 (a1).toNatClampNeg) < (gI s4 235 (a1).toNatClampNeg) then (gI s4 235 (a1).toNatClampNeg) else (gI s4 237 (a1).toNatClampNeg))) := ⟨_, rfl⟩
        replace h := h s8 hs8
        rw [← hs8]
        refine JT_iinc (q := 1) (v := (a1 + 1)) (lv' := [(1, .int (a1 + 1)), (0, .ref 233)]) dX1_noteWay_84 rfl (by rfl) (Nat.le_of_ble_eq_true rfl) rfl ?_
        refine JT_goto (tgt := 2) dX1_noteWay_87 (by decide) ?_
        exact JT_sub [1, 0] rfl h
      · have h := h.2 hc11
        refine JT_aload_n (q := 0) dX1_noteWay_59 rfl rfl ?_
        refine JS_getR (x := 235) dX1_noteWay_60 flX1_15 BS_233 (Nat.le_of_ble_eq_true rfl) (Nat.le_of_ble_eq_true rfl) (Or.inr ⟨_, ct_1_1⟩) RF_233_1 ?_
        refine JT_iload_n (q := 1) dX1_noteWay_63 rfl rfl ?_
        obtain ⟨o9, h⟩ := h
        refine JS_iald dX1_noteWay_64 BS_235 (Nat.le_of_ble_eq_true rfl) (Nat.le_of_ble_eq_true rfl) o9 ?_
        refine JT_goto (tgt := 83) dX1_noteWay_65 (by decide) ?_
        obtain ⟨o10, h⟩ := h
        refine JS_iast dX1_noteWay_83 BS_237 (Nat.le_of_ble_eq_true rfl) (Nat.le_of_ble_eq_true rfl) o10 ?_
        refine JT_iinc (q := 1) (v := (a1 + 1)) (lv' := [(1, .int (a1 + 1)), (0, .ref 233)]) dX1_noteWay_84 rfl (by rfl) (Nat.le_of_ble_eq_true rfl) rfl ?_
        refine JT_goto (tgt := 2) dX1_noteWay_87 (by decide) ?_
        exact JT_sub [1, 0] rfl h
    · have h := h.2 hc22
      refine JT_aload_n (q := 0) dX1_noteWay_22 rfl rfl ?_
      refine JS_getR (x := 235) dX1_noteWay_23 flX1_15 BS_233 (Nat.le_of_ble_eq_true rfl) (Nat.le_of_ble_eq_true rfl) (Or.inr ⟨_, ct_1_1⟩) RF_233_1 ?_
      refine JT_iload_n (q := 1) dX1_noteWay_26 rfl rfl ?_
      obtain ⟨o12, h⟩ := h
      refine JS_iald dX1_noteWay_27 BS_235 (Nat.le_of_ble_eq_true rfl) (Nat.le_of_ble_eq_true rfl) o12 ?_
      refine JT_goto (tgt := 46) dX1_noteWay_28 (by decide) ?_
      obtain ⟨o13, h⟩ := h
      refine JS_iast dX1_noteWay_46 BS_236 (Nat.le_of_ble_eq_true rfl) (Nat.le_of_ble_eq_true rfl) o13 ?_
      refine JT_aload_n (q := 0) dX1_noteWay_47 rfl rfl ?_
      refine JS_getR (x := 237) dX1_noteWay_48 flX1_21 BS_233 (Nat.le_of_ble_eq_true rfl) (Nat.le_of_ble_eq_true rfl) (Or.inr ⟨_, ct_1_3⟩) RF_233_3 ?_
      refine JT_iload_n (q := 1) dX1_noteWay_51 rfl rfl ?_
      refine JT_aload_n (q := 0) dX1_noteWay_52 rfl rfl ?_
      refine JS_getI dX1_noteWay_53 flX1_96 BS_233 (Nat.le_of_ble_eq_true rfl) (Nat.le_of_ble_eq_true rfl) (Or.inl ct_1_9) ?_
      refine JT_if_ne (tgt := 68) dX1_noteWay_56 (by decide) (fun hc21 => ?_) (fun hc21 => ?_)
      · have h := h.1 hc21
        refine JT_aload_n (q := 0) dX1_noteWay_68 rfl rfl ?_
        refine JS_getR (x := 237) dX1_noteWay_69 flX1_21 BS_233 (Nat.le_of_ble_eq_true rfl) (Nat.le_of_ble_eq_true rfl) (Or.inr ⟨_, ct_1_3⟩) RF_233_3 ?_
        refine JT_iload_n (q := 1) dX1_noteWay_72 rfl rfl ?_
        obtain ⟨o14, h⟩ := h
        refine JS_iald dX1_noteWay_73 BS_237 (Nat.le_of_ble_eq_true rfl) (Nat.le_of_ble_eq_true rfl) o14 ?_
        refine JT_aload_n (q := 0) dX1_noteWay_74 rfl rfl ?_
        refine JS_getR (x := 235) dX1_noteWay_75 flX1_15 BS_233 (Nat.le_of_ble_eq_true rfl) (Nat.le_of_ble_eq_true rfl) (Or.inr ⟨_, ct_1_1⟩) RF_233_1 ?_
        refine JT_iload_n (q := 1) dX1_noteWay_78 rfl rfl ?_
        obtain ⟨o15, h⟩ := h
        refine JS_iald dX1_noteWay_79 BS_235 (Nat.le_of_ble_eq_true rfl) (Nat.le_of_ble_eq_true rfl) o15 ?_
        refine JT_mmax (d2 := 0) dX1_noteWay_80 mlX1_120 (Nat.le_of_ble_eq_true rfl) rfl ?_
        obtain ⟨o16, h⟩ := h
        refine JS_iast dX1_noteWay_83 BS_237 (Nat.le_of_ble_eq_true rfl) (Nat.le_of_ble_eq_true rfl) o16 ?_
        obtain ⟨s17, hs17⟩ : ∃ z, z = (pI (pI s 236 (a1).toNatClampNeg (gI s 235 (a1).toNatClampNeg)) 237 (a1).toNatClampNeg (if (gI (pI s 236 (a1).toNatClampNeg (gI s 235 (a1).toNatClampNeg)) 237 (a1).toNatClampNeg) < (gI (pI s 236 (a1).toNatClampNeg (gI s 235 (a1).toNatClampNeg)) 235 (a1).toNatClampNeg) then (gI (pI s 236 (a1).toNatClampNeg (gI s 235 (a1).toNatClampNeg)) 235 (a1).toNatClampNeg) else (gI (pI s 236 (a1).toNatClampNeg (gI s 235 (a1).toNatClampNeg)) 237 (a1).toNatClampNeg))) := ⟨_, rfl⟩
        replace h := h s17 hs17
        rw [← hs17]
        refine JT_iinc (q := 1) (v := (a1 + 1)) (lv' := [(1, .int (a1 + 1)), (0, .ref 233)]) dX1_noteWay_84 rfl (by rfl) (Nat.le_of_ble_eq_true rfl) rfl ?_
        refine JT_goto (tgt := 2) dX1_noteWay_87 (by decide) ?_
        exact JT_sub [1, 0] rfl h
      · have h := h.2 hc21
        refine JT_aload_n (q := 0) dX1_noteWay_59 rfl rfl ?_
        refine JS_getR (x := 235) dX1_noteWay_60 flX1_15 BS_233 (Nat.le_of_ble_eq_true rfl) (Nat.le_of_ble_eq_true rfl) (Or.inr ⟨_, ct_1_1⟩) RF_233_1 ?_
        refine JT_iload_n (q := 1) dX1_noteWay_63 rfl rfl ?_
        obtain ⟨o18, h⟩ := h
        refine JS_iald dX1_noteWay_64 BS_235 (Nat.le_of_ble_eq_true rfl) (Nat.le_of_ble_eq_true rfl) o18 ?_
        refine JT_goto (tgt := 83) dX1_noteWay_65 (by decide) ?_
        obtain ⟨o19, h⟩ := h
        refine JS_iast dX1_noteWay_83 BS_237 (Nat.le_of_ble_eq_true rfl) (Nat.le_of_ble_eq_true rfl) o19 ?_
        obtain ⟨s20, hs20⟩ : ∃ z, z = (pI (pI s 236 (a1).toNatClampNeg (gI s 235 (a1).toNatClampNeg)) 237 (a1).toNatClampNeg (gI (pI s 236 (a1).toNatClampNeg (gI s 235 (a1).toNatClampNeg)) 235 (a1).toNatClampNeg)) := ⟨_, rfl⟩
        replace h := h s20 hs20
        rw [← hs20]
        refine JT_iinc (q := 1) (v := (a1 + 1)) (lv' := [(1, .int (a1 + 1)), (0, .ref 233)]) dX1_noteWay_84 rfl (by rfl) (Nat.le_of_ble_eq_true rfl) rfl ?_
        refine JT_goto (tgt := 2) dX1_noteWay_87 (by decide) ?_
        exact JT_sub [1, 0] rfl h
set_option maxRecDepth 1000000 in
theorem bX1_noteWay  {s : SM} {Q : SM → Prop} (h : BV MX1_noteWay 1 2 [(0, .ref 233), (1, .int (0 : Int32))] s Q) : KV MX1_noteWay 1 [.ref 233] s Q := by
  show BV MX1_noteWay 1 0 [(0, .ref 233)] s Q
  refine JT_iconst (v := 0) dX1_noteWay_0 ic_0 ?_
  refine JT_istore_n (lv' := [(1, .int (0 : Int32)), (0, .ref 233)]) dX1_noteWay_1 rfl (Nat.le_of_ble_eq_true rfl) rfl ?_
  exact JT_sub [1, 0] rfl h
set_option maxRecDepth 1000000 in
theorem gX1_noteWay  : ∀ n : Nat, (∀ (a1 : Int32) (s : SM) (Q : SM → Prop), ((qX1_noteWay n) s a1) → Q ((lX1_noteWay n) s a1) → BV MX1_noteWay 1 2 [(0, .ref 233), (1, .int a1)] s Q) := by
  intro n
  induction n with
  | zero => exact fun _ _ _ hq _ => absurd hq id
  | succ n ih =>
    intro a1 s Q hr h
    replace hr : uX1_noteWay_2 (qX1_noteWay n) s a1 := hr
    replace h : Q (tX1_noteWay_2 (lX1_noteWay n) s a1) := h
    unfold uX1_noteWay_2 at hr
    unfold tX1_noteWay_2 at h
    refine bX1_noteWay_2 a1 ?_
    refine ⟨fun c => ?_, fun c => ?_⟩
    · replace h := q1p c h
      first | exact h | contradiction
    · replace hr := hr c
      replace h := q1n c h
      refine ⟨fun c => ?_, fun c => ?_⟩
      · replace hr := hr.1 c
        replace h := q1n c h
        refine ⟨hr.1, ?_⟩
        replace hr := hr.2
        refine ⟨hr.1, ?_⟩
        replace hr := hr.2
        refine ⟨hr.1, ?_⟩
        replace hr := hr.2
        intro s4 e9
        replace hr := hr s4 e9
        try rw [← e9] at h
        try dsimp only at h
        refine ⟨fun c => ?_, fun c => ?_⟩
        · replace hr := hr.1 c
          replace h := q1n c h
          refine ⟨hr.1, ?_⟩
          replace hr := hr.2
          refine ⟨hr.1, ?_⟩
          replace hr := hr.2
          refine ⟨hr.1, ?_⟩
          replace hr := hr.2
          intro s8 e9
          replace hr := hr s8 e9
          try rw [← e9] at h
          try dsimp only at h
          first | exact ih (a1 + 1) _ Q hr h | contradiction
        · replace hr := hr.2 c
          replace h := q1p c h
          refine ⟨hr.1, ?_⟩
          replace hr := hr.2
          refine ⟨hr.1, ?_⟩
          replace hr := hr.2
          first | exact ih (a1 + 1) _ Q hr h | contradiction
      · replace hr := hr.2 c
        replace h := q1p c h
        refine ⟨hr.1, ?_⟩
        replace hr := hr.2
        refine ⟨hr.1, ?_⟩
        replace hr := hr.2
        refine ⟨fun c => ?_, fun c => ?_⟩
        · replace hr := hr.1 c
          replace h := q1n c h
          refine ⟨hr.1, ?_⟩
          replace hr := hr.2
          refine ⟨hr.1, ?_⟩
          replace hr := hr.2
          refine ⟨hr.1, ?_⟩
          replace hr := hr.2
          intro s17 e9
          replace hr := hr s17 e9
          try rw [← e9] at h
          try dsimp only at h
          first | exact ih (a1 + 1) _ Q hr h | contradiction
        · replace hr := hr.2 c
          replace h := q1p c h
          refine ⟨hr.1, ?_⟩
          replace hr := hr.2
          refine ⟨hr.1, ?_⟩
          replace hr := hr.2
          intro s20 e9
          replace hr := hr s20 e9
          try rw [← e9] at h
          try dsimp only at h
          first | exact ih (a1 + 1) _ Q hr h | contradiction
set_option maxRecDepth 1000000 in
theorem pX1_noteWay  {s : SM} {Q : SM → Prop} (hr : rX1_noteWay s ) (h : Q (mX1_noteWay s )) : KV MX1_noteWay 1 [.ref 233] s Q := by
  replace h : Q (fX1_noteWay s ) := h
  unfold rX1_noteWay at hr
  unfold fX1_noteWay at h
  refine bX1_noteWay  ?_
  first | exact (gX1_noteWay  FU) (0 : Int32) _ Q hr h | contradiction
set_option maxRecDepth 1000000 in
theorem bX2_keepNoted  {s : SM} {Q : SM → Prop} (h : (∀ s1, s1 = (pI (pI s 55 1 (((gI s 55 1) + (1 : Int32)) - ((gI s 55 1) + (1 : Int32)) / (9 : Int32) * (9 : Int32))) 55 2 (if (8 : Int32) < ((gI (pI s 55 1 (((gI s 55 1) + (1 : Int32)) - ((gI s 55 1) + (1 : Int32)) / (9 : Int32) * (9 : Int32))) 55 2) + (1 : Int32)) then (8 : Int32) else ((gI (pI s 55 1 (((gI s 55 1) + (1 : Int32)) - ((gI s 55 1) + (1 : Int32)) / (9 : Int32) * (9 : Int32))) 55 2) + (1 : Int32)))) → Q s1)) : KV MX2_keepNoted 1 [.ref 55] s Q := by
  show BV MX2_keepNoted 1 0 [(0, .ref 55)] s Q
  refine JT_aload_n (q := 0) dX2_keepNoted_0 rfl rfl ?_
  refine JT_aload_n (q := 0) dX2_keepNoted_1 rfl rfl ?_
  refine JS_getI dX2_keepNoted_2 flX2_24 BS_55 (Nat.le_of_ble_eq_true rfl) (Nat.le_of_ble_eq_true rfl) (Or.inl ct_2_1) ?_
  refine JT_iconst (v := 1) dX2_keepNoted_5 ic_1 ?_
  refine JT_iadd dX2_keepNoted_6 ?_
  refine JT_bipush (v := 9) dX2_keepNoted_7 bp_9 ?_
  refine JT_irem dX2_keepNoted_9 (by decide) ?_
  refine JS_putI dX2_keepNoted_10 flX2_24 BS_55 (Nat.le_of_ble_eq_true rfl) (Nat.le_of_ble_eq_true rfl) ct_2_1 ?_
  refine JT_aload_n (q := 0) dX2_keepNoted_13 rfl rfl ?_
  refine JT_aload_n (q := 0) dX2_keepNoted_14 rfl rfl ?_
  refine JS_getI dX2_keepNoted_15 flX2_20 BS_55 (Nat.le_of_ble_eq_true rfl) (Nat.le_of_ble_eq_true rfl) (Or.inl ct_2_2) ?_
  refine JT_iconst (v := 1) dX2_keepNoted_18 ic_1 ?_
  refine JT_iadd dX2_keepNoted_19 ?_
  refine JT_bipush (v := 8) dX2_keepNoted_20 bp_8 ?_
  refine JT_mmin (d2 := 0) dX2_keepNoted_22 mlX2_31 (Nat.le_of_ble_eq_true rfl) rfl ?_
  refine JS_putI dX2_keepNoted_25 flX2_20 BS_55 (Nat.le_of_ble_eq_true rfl) (Nat.le_of_ble_eq_true rfl) ct_2_2 ?_
  obtain ⟨s1, hs1⟩ : ∃ z, z = (pI (pI s 55 1 (((gI s 55 1) + (1 : Int32)) - ((gI s 55 1) + (1 : Int32)) / (9 : Int32) * (9 : Int32))) 55 2 (if (8 : Int32) < ((gI (pI s 55 1 (((gI s 55 1) + (1 : Int32)) - ((gI s 55 1) + (1 : Int32)) / (9 : Int32) * (9 : Int32))) 55 2) + (1 : Int32)) then (8 : Int32) else ((gI (pI s 55 1 (((gI s 55 1) + (1 : Int32)) - ((gI s 55 1) + (1 : Int32)) / (9 : Int32) * (9 : Int32))) 55 2) + (1 : Int32)))) := ⟨_, rfl⟩
  replace h := h s1 hs1
  rw [← hs1]
  exact JS_vret dX2_keepNoted_28 rfl h
set_option maxRecDepth 1000000 in
theorem pX2_keepNoted  {s : SM} {Q : SM → Prop} (h : Q (mX2_keepNoted s )) : KV MX2_keepNoted 1 [.ref 55] s Q := by
  refine bX2_keepNoted  ?_
  unfold mX2_keepNoted at h
  intro s1 e9
  try rw [← e9] at h
  try dsimp only at h
  first | exact h | contradiction
set_option maxRecDepth 1000000 in
theorem bX4_bearerFor {L0 P0 : Nat} (hL0 : (L0, P0) ∈ LX) (a1 : Int32) (a2 : Int32) {s : SM} {Q : Int32 → SM → Prop} (h : vp_in a1 9 ∧ (((gI s (L0 + 7) (a1).toNatClampNeg) < a2 → vp_in a1 9 ∧ (((gI s (P0 + 3) (a1).toNatClampNeg) = (-1 : Int32) → Q (-1 : Int32) s) ∧ (¬ (gI s (P0 + 3) (a1).toNatClampNeg) = (-1 : Int32) → (((vX4_lives s L0 P0 (gI s (P0 + 3) (a1).toNatClampNeg)) = 0 → Q (-1 : Int32) s) ∧ (¬ (vX4_lives s L0 P0 (gI s (P0 + 3) (a1).toNatClampNeg)) = 0 → vp_in (gI s (P0 + 3) (a1).toNatClampNeg) 9 ∧ Q (if (gI s (L0 + 7) ((gI s (P0 + 3) (a1).toNatClampNeg)).toNatClampNeg) < a2 then (-1 : Int32) else (gI s (P0 + 3) (a1).toNatClampNeg)) s))))) ∧ (¬ (gI s (L0 + 7) (a1).toNatClampNeg) < a2 → Q a1 s))) : KI MX4_bearerFor 1 [.ref L0, .int a1, .int a2] s Q := by
  show BI MX4_bearerFor 1 0 [(0, .ref L0), (1, .int a1), (2, .int a2)] s Q
  refine JT_aload_n (q := 0) dX4_bearerFor_0 rfl rfl ?_
  refine JS_getR (x := (L0 + 7)) dX4_bearerFor_1 flX4_30 (lxB hL0) (lx2 hL0) (lxN hL0) (Or.inr ⟨_, ct_4_6⟩) (lxR6 hL0) ?_
  refine JT_iload_n (q := 1) dX4_bearerFor_4 rfl rfl ?_
  obtain ⟨o1, h⟩ := h
  refine JS_iald dX4_bearerFor_5 (lxB7 hL0) (lx2k hL0 _) (lxNk hL0 (Nat.le_of_ble_eq_true rfl)) o1 ?_
  refine JT_iload_n (q := 2) dX4_bearerFor_6 rfl rfl ?_
  refine JT_icmp_lt (tgt := 12) dX4_bearerFor_7 (by decide) (fun hc9 => ?_) (fun hc9 => ?_)
  · have h := h.1 hc9
    refine JT_aload_n (q := 0) dX4_bearerFor_12 rfl rfl ?_
    refine JS_getR (x := P0) dX4_bearerFor_13 flX4_45 (lxB hL0) (lx2 hL0) (lxN hL0) (Or.inl ⟨_, ct_4_8⟩) (lxR8 hL0) ?_
    refine JS_getR (x := (P0 + 3)) dX4_bearerFor_16 flX4_122 (pxB (lxP hL0)) (px2 (lxP hL0)) (pxN (lxP hL0)) (Or.inr ⟨_, ct_6_2⟩) (pxR2 (lxP hL0)) ?_
    refine JT_iload_n (q := 1) dX4_bearerFor_19 rfl rfl ?_
    obtain ⟨o2, h⟩ := h
    refine JS_iald dX4_bearerFor_20 (pxB3 (lxP hL0)) (px2k (lxP hL0) _) (pxNk (lxP hL0) (Nat.le_of_ble_eq_true rfl)) o2 ?_
    refine JT_istore_n (lv' := [(3, .int (gI s (P0 + 3) (a1).toNatClampNeg)), (0, .ref L0), (1, .int a1), (2, .int a2)]) dX4_bearerFor_21 rfl (Nat.le_of_ble_eq_true rfl) rfl ?_
    refine JT_iload_n (q := 0) dX4_bearerFor_22 rfl rfl ?_
    refine JT_iconst (v := -1) dX4_bearerFor_23 ic_m1 ?_
    refine JT_icmp_eq (tgt := 49) dX4_bearerFor_24 (by decide) (fun hc8 => ?_) (fun hc8 => ?_)
    · have h := h.1 hc8
      refine JT_iconst (v := -1) dX4_bearerFor_49 ic_m1 ?_
      exact JS_iret dX4_bearerFor_50 rfl rfl h
    · have h := h.2 hc8
      refine JT_aload_n (q := 1) dX4_bearerFor_27 rfl rfl ?_
      refine JT_iload_n (q := 0) dX4_bearerFor_28 rfl rfl ?_
      refine JS_callVI (M' := MX4_lives) (d' := 0) (As := [.int (gI s (P0 + 3) (a1).toNatClampNeg)]) (rest := []) (P := (fun zv9 wm9 => (vX4_lives s L0 P0 (gI s (P0 + 3) (a1).toNatClampNeg)) = zv9 ∧ s = wm9)) dX4_bearerFor_29 cvX4_85 okX4_lives rfl (Nat.le_of_ble_eq_true rfl) (lxB hL0) (lx2 hL0) (lxN hL0) hci_4 (Nat.le_of_ble_eq_true rfl) (Nat.le_of_ble_eq_true rfl) (pX4_lives hL0 ((gI s (P0 + 3) (a1).toNatClampNeg))  ⟨rfl, rfl⟩) (fun zv9 wm9 hq9 => ?_)
      obtain ⟨rfl, rfl⟩ := hq9
      refine JT_if_eq (tgt := 49) dX4_bearerFor_32 (by decide) (fun hc6 => ?_) (fun hc6 => ?_)
      · have h := h.1 hc6
        refine JT_iconst (v := -1) dX4_bearerFor_49 ic_m1 ?_
        exact JS_iret dX4_bearerFor_50 rfl rfl h
      · have h := h.2 hc6
        refine JT_aload_n (q := 1) dX4_bearerFor_35 rfl rfl ?_
        refine JS_getR (x := (L0 + 7)) dX4_bearerFor_36 flX4_30 (lxB hL0) (lx2 hL0) (lxN hL0) (Or.inr ⟨_, ct_4_6⟩) (lxR6 hL0) ?_
        refine JT_iload_n (q := 0) dX4_bearerFor_39 rfl rfl ?_
        obtain ⟨o3, h⟩ := h
        refine JS_iald dX4_bearerFor_40 (lxB7 hL0) (lx2k hL0 _) (lxNk hL0 (Nat.le_of_ble_eq_true rfl)) o3 ?_
        refine JT_iload_n (q := 3) dX4_bearerFor_41 rfl rfl ?_
        have hj4 : ∀ v : Int32, v = (if (gI s (L0 + 7) ((gI s (P0 + 3) (a1).toNatClampNeg)).toNatClampNeg) < a2 then (-1 : Int32) else (gI s (P0 + 3) (a1).toNatClampNeg)) → JT MX4_bearerFor 1 0 0 50 [(3, .int (gI s (P0 + 3) (a1).toNatClampNeg)), (0, .ref L0), (1, .int a1), (2, .int a2)] [.int v] (std s) (KQ Q) := by
          intro v hv
          subst hv
          exact JS_iret dX4_bearerFor_50 rfl rfl h
        refine JT_icmp_lt (tgt := 49) dX4_bearerFor_42 (by decide) (fun hc5 => ?_) (fun hc5 => ?_)
        · refine JT_iconst (v := -1) dX4_bearerFor_49 ic_m1 ?_
          exact hj4 _ (by rw [if_pos hc5])
        · refine JT_iload_n (q := 0) dX4_bearerFor_45 rfl rfl ?_
          refine JT_goto (tgt := 50) dX4_bearerFor_46 (by decide) ?_
          exact hj4 _ (by rw [if_neg hc5])
  · have h := h.2 hc9
    refine JT_iload_n (q := 1) dX4_bearerFor_10 rfl rfl ?_
    exact JS_iret dX4_bearerFor_11 rfl rfl h
set_option maxRecDepth 1000000 in
theorem pX4_bearerFor {L0 P0 : Nat} (hL0 : (L0, P0) ∈ LX) (a1 : Int32) (a2 : Int32) {s : SM} {Q : Int32 → SM → Prop} (hr : rX4_bearerFor s L0 P0 a1 a2) (h : Q (vX4_bearerFor s L0 P0 a1 a2) s) : KI MX4_bearerFor 1 [.ref L0, .int a1, .int a2] s Q := by
  refine bX4_bearerFor hL0 a1 a2 ?_
  unfold rX4_bearerFor at hr
  unfold vX4_bearerFor at h
  refine ⟨hr.1, ?_⟩
  replace hr := hr.2
  refine ⟨fun c => ?_, fun c => ?_⟩
  · replace hr := hr c
    replace h := qlp c h
    refine ⟨hr.1, ?_⟩
    replace hr := hr.2
    refine ⟨fun c => ?_, fun c => ?_⟩
    · replace h := qlp c h
      first | exact h | contradiction
    · replace hr := hr c
      replace h := qln c h
      refine ⟨fun c => ?_, fun c => ?_⟩
      · replace h := qlp c h
        first | exact h | contradiction
      · replace hr := hr c
        replace h := qln c h
        refine ⟨hr, ?_⟩
        first | exact h | contradiction
  · replace h := qln c h
    first | exact h | contradiction
set_option maxRecDepth 1000000 in
theorem bX4_copyFrom {L0 P0 : Nat} (hL0 : (L0, P0) ∈ LX) {L1 P1 : Nat} (hL1 : (L1, P1) ∈ LX) {s : SM} {Q : SM → Prop} (h : (((gI s L1 9) < 0 → Q s) ∧ (¬ (gI s L1 9) < 0 → (((gI s L1 9) ≤ (60 : Int32) → (¬ (gI s L1 9) < 0 ∧ 0 + ((gI s L1 9)).toNatClampNeg ≤ 60) ∧ (∀ s1, s1 = (cI s (L0 + 1) (va_cpy (gI s (L1 + 1)) (gI s (L0 + 1)) ((0 : Int32)).toNatClampNeg ((0 : Int32)).toNatClampNeg ((gI s L1 9)).toNatClampNeg)) → (¬ (gI s L1 9) < 0 ∧ 0 + ((gI s L1 9)).toNatClampNeg ≤ 60) ∧ (∀ s2, s2 = (cI s1 (L0 + 2) (va_cpy (gI s1 (L1 + 2)) (gI s1 (L0 + 2)) ((0 : Int32)).toNatClampNeg ((0 : Int32)).toNatClampNeg ((gI s L1 9)).toNatClampNeg)) → (¬ (gI s L1 9) < 0 ∧ 0 + ((gI s L1 9)).toNatClampNeg ≤ 60) ∧ (∀ s3, s3 = (cI s2 (L0 + 3) (va_cpy (gI s2 (L1 + 3)) (gI s2 (L0 + 3)) ((0 : Int32)).toNatClampNeg ((0 : Int32)).toNatClampNeg ((gI s L1 9)).toNatClampNeg)) → (¬ (gI s L1 9) < 0 ∧ 0 + ((gI s L1 9)).toNatClampNeg ≤ 60) ∧ (∀ s4, s4 = (cI s3 (L0 + 4) (va_cpy (gI s3 (L1 + 4)) (gI s3 (L0 + 4)) ((0 : Int32)).toNatClampNeg ((0 : Int32)).toNatClampNeg ((gI s L1 9)).toNatClampNeg)) → (¬ (gI s L1 9) < 0 ∧ 0 + ((gI s L1 9)).toNatClampNeg ≤ 60) ∧ (∀ s5, s5 = (cI s4 (L0 + 5) (va_cpy (gI s4 (L1 + 5)) (gI s4 (L0 + 5)) ((0 : Int32)).toNatClampNeg ((0 : Int32)).toNatClampNeg ((gI s L1 9)).toNatClampNeg)) → (¬ (gI s L1 9) < 0 ∧ 0 + ((gI s L1 9)).toNatClampNeg ≤ 60) ∧ (∀ s6, s6 = (cI s5 (L0 + 6) (va_cpy (gI s5 (L1 + 6)) (gI s5 (L0 + 6)) ((0 : Int32)).toNatClampNeg ((0 : Int32)).toNatClampNeg ((gI s L1 9)).toNatClampNeg)) → (¬ (gI s L1 9) < 0 ∧ 0 + ((gI s L1 9)).toNatClampNeg ≤ 60) ∧ (∀ s7, s7 = (cI s6 (L0 + 9) (va_cpy (gI s6 (L1 + 9)) (gI s6 (L0 + 9)) ((0 : Int32)).toNatClampNeg ((0 : Int32)).toNatClampNeg ((gI s L1 9)).toNatClampNeg)) → (¬ (gI s L1 9) < 0 ∧ 0 + ((gI s L1 9)).toNatClampNeg ≤ 60) ∧ (∀ s8, s8 = (cI s7 (L0 + 10) (va_cpy (gI s7 (L1 + 10)) (gI s7 (L0 + 10)) ((0 : Int32)).toNatClampNeg ((0 : Int32)).toNatClampNeg ((gI s L1 9)).toNatClampNeg)) → (¬ (gI s L1 9) < 0 ∧ 0 + ((gI s L1 9)).toNatClampNeg ≤ 60) ∧ (∀ s9, s9 = (cI s8 (L0 + 11) (va_cpy (gI s8 (L1 + 11)) (gI s8 (L0 + 11)) ((0 : Int32)).toNatClampNeg ((0 : Int32)).toNatClampNeg ((gI s L1 9)).toNatClampNeg)) → (∀ s10, s10 = (cI s9 (L0 + 7) (va_cpy (gI s9 (L1 + 7)) (gI s9 (L0 + 7)) ((0 : Int32)).toNatClampNeg ((0 : Int32)).toNatClampNeg ((9 : Int32)).toNatClampNeg)) → (∀ s11, s11 = (cI s10 (L0 + 8) (va_cpy (gI s10 (L1 + 8)) (gI s10 (L0 + 8)) ((0 : Int32)).toNatClampNeg ((0 : Int32)).toNatClampNeg ((9 : Int32)).toNatClampNeg)) → (∀ s12, s12 = (pI (pI (pI s11 L0 9 (gI s L1 9)) L0 10 (gI (pI s11 L0 9 (gI s L1 9)) L1 10)) L0 14 (gI (pI (pI s11 L0 9 (gI s L1 9)) L0 10 (gI (pI s11 L0 9 (gI s L1 9)) L1 10)) L1 14)) → Q s12))))))))))))) ∧ (¬ (gI s L1 9) ≤ (60 : Int32) → Q s))))) : KV MX4_copyFrom 1 [.ref L0, .ref L1] s Q := by
  show BV MX4_copyFrom 1 0 [(0, .ref L0), (1, .ref L1)] s Q
  refine JT_aload_n (q := 1) dX4_copyFrom_0 rfl rfl ?_
  refine JS_getI dX4_copyFrom_1 flX4_49 (lxB hL1) (lx2 hL1) (lxN hL1) (Or.inl ct_4_9) ?_
  refine JT_istore_n (lv' := [(2, .int (gI s L1 9)), (0, .ref L0), (1, .ref L1)]) dX4_copyFrom_4 rfl (Nat.le_of_ble_eq_true rfl) rfl ?_
  refine JT_iload_n (q := 0) dX4_copyFrom_5 rfl rfl ?_
  refine JT_if_lt (tgt := 15) dX4_copyFrom_6 (by decide) (fun hc23 => ?_) (fun hc23 => ?_)
  · have h := h.1 hc23
    exact JS_vret dX4_copyFrom_15 rfl h
  · have h := h.2 hc23
    refine JT_iload_n (q := 0) dX4_copyFrom_9 rfl rfl ?_
    refine JT_bipush (v := 60) dX4_copyFrom_10 bp_60 ?_
    refine JT_icmp_le (tgt := 16) dX4_copyFrom_12 (by decide) (fun hc22 => ?_) (fun hc22 => ?_)
    · have h := h.1 hc22
      refine JT_aload_n (q := 2) dX4_copyFrom_16 rfl rfl ?_
      refine JS_getR (x := (L1 + 1)) dX4_copyFrom_17 flX4_9 (lxB hL1) (lx2 hL1) (lxN hL1) (Or.inr ⟨_, ct_4_0⟩) (lxR0 hL1) ?_
      refine JT_iconst (v := 0) dX4_copyFrom_20 ic_0 ?_
      refine JT_aload_n (q := 1) dX4_copyFrom_21 rfl rfl ?_
      refine JS_getR (x := (L0 + 1)) dX4_copyFrom_22 flX4_9 (lxB hL0) (lx2 hL0) (lxN hL0) (Or.inr ⟨_, ct_4_0⟩) (lxR0 hL0) ?_
      refine JT_iconst (v := 0) dX4_copyFrom_25 ic_0 ?_
      refine JT_iload_n (q := 0) dX4_copyFrom_26 rfl rfl ?_
      obtain ⟨o21, h⟩ := h
      refine JS_copyI (d2 := 0) (na := 60) (nb := 60) dX4_copyFrom_27 mlX4_64 (lxB1 hL0) (lx2k hL0 _) (lxNk hL0 (Nat.le_of_ble_eq_true rfl)) (lxB1 hL1) (lx2k hL1 _) (lxNk hL1 (Nat.le_of_ble_eq_true rfl)) (by decide) (by decide) o21.1 (Nat.le_trans o21.2 (by decide)) (Nat.le_trans o21.2 (by decide)) (Nat.le_of_ble_eq_true rfl) rfl ?_
      obtain ⟨s1, hs1⟩ : ∃ z, z = (cI s (L0 + 1) (va_cpy (gI s (L1 + 1)) (gI s (L0 + 1)) ((0 : Int32)).toNatClampNeg ((0 : Int32)).toNatClampNeg ((gI s L1 9)).toNatClampNeg)) := ⟨_, rfl⟩
      replace h := h s1 hs1
      rw [← hs1]
      refine JT_aload_n (q := 2) dX4_copyFrom_30 rfl rfl ?_
      refine JS_getR (x := (L1 + 2)) dX4_copyFrom_31 flX4_15 (lxB hL1) (lx2 hL1) (lxN hL1) (Or.inr ⟨_, ct_4_1⟩) (lxR1 hL1) ?_
      refine JT_iconst (v := 0) dX4_copyFrom_34 ic_0 ?_
      refine JT_aload_n (q := 1) dX4_copyFrom_35 rfl rfl ?_
      refine JS_getR (x := (L0 + 2)) dX4_copyFrom_36 flX4_15 (lxB hL0) (lx2 hL0) (lxN hL0) (Or.inr ⟨_, ct_4_1⟩) (lxR1 hL0) ?_
      refine JT_iconst (v := 0) dX4_copyFrom_39 ic_0 ?_
      refine JT_iload_n (q := 0) dX4_copyFrom_40 rfl rfl ?_
      obtain ⟨o20, h⟩ := h
      refine JS_copyI (d2 := 0) (na := 60) (nb := 60) dX4_copyFrom_41 mlX4_64 (lxB2 hL0) (lx2k hL0 _) (lxNk hL0 (Nat.le_of_ble_eq_true rfl)) (lxB2 hL1) (lx2k hL1 _) (lxNk hL1 (Nat.le_of_ble_eq_true rfl)) (by decide) (by decide) o20.1 (Nat.le_trans o20.2 (by decide)) (Nat.le_trans o20.2 (by decide)) (Nat.le_of_ble_eq_true rfl) rfl ?_
      obtain ⟨s2, hs2⟩ : ∃ z, z = (cI s1 (L0 + 2) (va_cpy (gI s1 (L1 + 2)) (gI s1 (L0 + 2)) ((0 : Int32)).toNatClampNeg ((0 : Int32)).toNatClampNeg ((gI s L1 9)).toNatClampNeg)) := ⟨_, rfl⟩
      replace h := h s2 hs2
      rw [← hs2]
      refine JT_aload_n (q := 2) dX4_copyFrom_44 rfl rfl ?_
      refine JS_getR (x := (L1 + 3)) dX4_copyFrom_45 flX4_18 (lxB hL1) (lx2 hL1) (lxN hL1) (Or.inr ⟨_, ct_4_2⟩) (lxR2 hL1) ?_
      refine JT_iconst (v := 0) dX4_copyFrom_48 ic_0 ?_
      refine JT_aload_n (q := 1) dX4_copyFrom_49 rfl rfl ?_
      refine JS_getR (x := (L0 + 3)) dX4_copyFrom_50 flX4_18 (lxB hL0) (lx2 hL0) (lxN hL0) (Or.inr ⟨_, ct_4_2⟩) (lxR2 hL0) ?_
      refine JT_iconst (v := 0) dX4_copyFrom_53 ic_0 ?_
      refine JT_iload_n (q := 0) dX4_copyFrom_54 rfl rfl ?_
      obtain ⟨o19, h⟩ := h
      refine JS_copyI (d2 := 0) (na := 60) (nb := 60) dX4_copyFrom_55 mlX4_64 (lxB3 hL0) (lx2k hL0 _) (lxNk hL0 (Nat.le_of_ble_eq_true rfl)) (lxB3 hL1) (lx2k hL1 _) (lxNk hL1 (Nat.le_of_ble_eq_true rfl)) (by decide) (by decide) o19.1 (Nat.le_trans o19.2 (by decide)) (Nat.le_trans o19.2 (by decide)) (Nat.le_of_ble_eq_true rfl) rfl ?_
      obtain ⟨s3, hs3⟩ : ∃ z, z = (cI s2 (L0 + 3) (va_cpy (gI s2 (L1 + 3)) (gI s2 (L0 + 3)) ((0 : Int32)).toNatClampNeg ((0 : Int32)).toNatClampNeg ((gI s L1 9)).toNatClampNeg)) := ⟨_, rfl⟩
      replace h := h s3 hs3
      rw [← hs3]
      refine JT_aload_n (q := 2) dX4_copyFrom_58 rfl rfl ?_
      refine JS_getR (x := (L1 + 4)) dX4_copyFrom_59 flX4_21 (lxB hL1) (lx2 hL1) (lxN hL1) (Or.inr ⟨_, ct_4_3⟩) (lxR3 hL1) ?_
      refine JT_iconst (v := 0) dX4_copyFrom_62 ic_0 ?_
      refine JT_aload_n (q := 1) dX4_copyFrom_63 rfl rfl ?_
      refine JS_getR (x := (L0 + 4)) dX4_copyFrom_64 flX4_21 (lxB hL0) (lx2 hL0) (lxN hL0) (Or.inr ⟨_, ct_4_3⟩) (lxR3 hL0) ?_
      refine JT_iconst (v := 0) dX4_copyFrom_67 ic_0 ?_
      refine JT_iload_n (q := 0) dX4_copyFrom_68 rfl rfl ?_
      obtain ⟨o18, h⟩ := h
      refine JS_copyI (d2 := 0) (na := 60) (nb := 60) dX4_copyFrom_69 mlX4_64 (lxB4 hL0) (lx2k hL0 _) (lxNk hL0 (Nat.le_of_ble_eq_true rfl)) (lxB4 hL1) (lx2k hL1 _) (lxNk hL1 (Nat.le_of_ble_eq_true rfl)) (by decide) (by decide) o18.1 (Nat.le_trans o18.2 (by decide)) (Nat.le_trans o18.2 (by decide)) (Nat.le_of_ble_eq_true rfl) rfl ?_
      obtain ⟨s4, hs4⟩ : ∃ z, z = (cI s3 (L0 + 4) (va_cpy (gI s3 (L1 + 4)) (gI s3 (L0 + 4)) ((0 : Int32)).toNatClampNeg ((0 : Int32)).toNatClampNeg ((gI s L1 9)).toNatClampNeg)) := ⟨_, rfl⟩
      replace h := h s4 hs4
      rw [← hs4]
      refine JT_aload_n (q := 2) dX4_copyFrom_72 rfl rfl ?_
      refine JS_getR (x := (L1 + 5)) dX4_copyFrom_73 flX4_24 (lxB hL1) (lx2 hL1) (lxN hL1) (Or.inr ⟨_, ct_4_4⟩) (lxR4 hL1) ?_
      refine JT_iconst (v := 0) dX4_copyFrom_76 ic_0 ?_
      refine JT_aload_n (q := 1) dX4_copyFrom_77 rfl rfl ?_
      refine JS_getR (x := (L0 + 5)) dX4_copyFrom_78 flX4_24 (lxB hL0) (lx2 hL0) (lxN hL0) (Or.inr ⟨_, ct_4_4⟩) (lxR4 hL0) ?_
      refine JT_iconst (v := 0) dX4_copyFrom_81 ic_0 ?_
      refine JT_iload_n (q := 0) dX4_copyFrom_82 rfl rfl ?_
      obtain ⟨o17, h⟩ := h
      refine JS_copyI (d2 := 0) (na := 60) (nb := 60) dX4_copyFrom_83 mlX4_64 (lxB5 hL0) (lx2k hL0 _) (lxNk hL0 (Nat.le_of_ble_eq_true rfl)) (lxB5 hL1) (lx2k hL1 _) (lxNk hL1 (Nat.le_of_ble_eq_true rfl)) (by decide) (by decide) o17.1 (Nat.le_trans o17.2 (by decide)) (Nat.le_trans o17.2 (by decide)) (Nat.le_of_ble_eq_true rfl) rfl ?_
      obtain ⟨s5, hs5⟩ : ∃ z, z = (cI s4 (L0 + 5) (va_cpy (gI s4 (L1 + 5)) (gI s4 (L0 + 5)) ((0 : Int32)).toNatClampNeg ((0 : Int32)).toNatClampNeg ((gI s L1 9)).toNatClampNeg)) := ⟨_, rfl⟩
      replace h := h s5 hs5
      rw [← hs5]
      refine JT_aload_n (q := 2) dX4_copyFrom_86 rfl rfl ?_
      refine JS_getR (x := (L1 + 6)) dX4_copyFrom_87 flX4_27 (lxB hL1) (lx2 hL1) (lxN hL1) (Or.inr ⟨_, ct_4_5⟩) (lxR5 hL1) ?_
      refine JT_iconst (v := 0) dX4_copyFrom_90 ic_0 ?_
      refine JT_aload_n (q := 1) dX4_copyFrom_91 rfl rfl ?_
      refine JS_getR (x := (L0 + 6)) dX4_copyFrom_92 flX4_27 (lxB hL0) (lx2 hL0) (lxN hL0) (Or.inr ⟨_, ct_4_5⟩) (lxR5 hL0) ?_
      refine JT_iconst (v := 0) dX4_copyFrom_95 ic_0 ?_
      refine JT_iload_n (q := 0) dX4_copyFrom_96 rfl rfl ?_
      obtain ⟨o16, h⟩ := h
      refine JS_copyI (d2 := 0) (na := 60) (nb := 60) dX4_copyFrom_97 mlX4_64 (lxB6 hL0) (lx2k hL0 _) (lxNk hL0 (Nat.le_of_ble_eq_true rfl)) (lxB6 hL1) (lx2k hL1 _) (lxNk hL1 (Nat.le_of_ble_eq_true rfl)) (by decide) (by decide) o16.1 (Nat.le_trans o16.2 (by decide)) (Nat.le_trans o16.2 (by decide)) (Nat.le_of_ble_eq_true rfl) rfl ?_
      obtain ⟨s6, hs6⟩ : ∃ z, z = (cI s5 (L0 + 6) (va_cpy (gI s5 (L1 + 6)) (gI s5 (L0 + 6)) ((0 : Int32)).toNatClampNeg ((0 : Int32)).toNatClampNeg ((gI s L1 9)).toNatClampNeg)) := ⟨_, rfl⟩
      replace h := h s6 hs6
      rw [← hs6]
      refine JT_aload_n (q := 2) dX4_copyFrom_100 rfl rfl ?_
      refine JS_getR (x := (L1 + 9)) dX4_copyFrom_101 flX4_36 (lxB hL1) (lx2 hL1) (lxN hL1) (Or.inr ⟨_, ct_4_11⟩) (lxR11 hL1) ?_
      refine JT_iconst (v := 0) dX4_copyFrom_104 ic_0 ?_
      refine JT_aload_n (q := 1) dX4_copyFrom_105 rfl rfl ?_
      refine JS_getR (x := (L0 + 9)) dX4_copyFrom_106 flX4_36 (lxB hL0) (lx2 hL0) (lxN hL0) (Or.inr ⟨_, ct_4_11⟩) (lxR11 hL0) ?_
      refine JT_iconst (v := 0) dX4_copyFrom_109 ic_0 ?_
      refine JT_iload_n (q := 0) dX4_copyFrom_110 rfl rfl ?_
      obtain ⟨o15, h⟩ := h
      refine JS_copyI (d2 := 0) (na := 60) (nb := 60) dX4_copyFrom_111 mlX4_64 (lxB9 hL0) (lx2k hL0 _) (lxNk hL0 (Nat.le_of_ble_eq_true rfl)) (lxB9 hL1) (lx2k hL1 _) (lxNk hL1 (Nat.le_of_ble_eq_true rfl)) (by decide) (by decide) o15.1 (Nat.le_trans o15.2 (by decide)) (Nat.le_trans o15.2 (by decide)) (Nat.le_of_ble_eq_true rfl) rfl ?_
      obtain ⟨s7, hs7⟩ : ∃ z, z = (cI s6 (L0 + 9) (va_cpy (gI s6 (L1 + 9)) (gI s6 (L0 + 9)) ((0 : Int32)).toNatClampNeg ((0 : Int32)).toNatClampNeg ((gI s L1 9)).toNatClampNeg)) := ⟨_, rfl⟩
      replace h := h s7 hs7
      rw [← hs7]
      refine JT_aload_n (q := 2) dX4_copyFrom_114 rfl rfl ?_
      refine JS_getR (x := (L1 + 10)) dX4_copyFrom_115 flX4_39 (lxB hL1) (lx2 hL1) (lxN hL1) (Or.inr ⟨_, ct_4_12⟩) (lxR12 hL1) ?_
      refine JT_iconst (v := 0) dX4_copyFrom_118 ic_0 ?_
      refine JT_aload_n (q := 1) dX4_copyFrom_119 rfl rfl ?_
      refine JS_getR (x := (L0 + 10)) dX4_copyFrom_120 flX4_39 (lxB hL0) (lx2 hL0) (lxN hL0) (Or.inr ⟨_, ct_4_12⟩) (lxR12 hL0) ?_
      refine JT_iconst (v := 0) dX4_copyFrom_123 ic_0 ?_
      refine JT_iload_n (q := 0) dX4_copyFrom_124 rfl rfl ?_
      obtain ⟨o14, h⟩ := h
      refine JS_copyI (d2 := 0) (na := 60) (nb := 60) dX4_copyFrom_125 mlX4_64 (lxB10 hL0) (lx2k hL0 _) (lxNk hL0 (Nat.le_of_ble_eq_true rfl)) (lxB10 hL1) (lx2k hL1 _) (lxNk hL1 (Nat.le_of_ble_eq_true rfl)) (by decide) (by decide) o14.1 (Nat.le_trans o14.2 (by decide)) (Nat.le_trans o14.2 (by decide)) (Nat.le_of_ble_eq_true rfl) rfl ?_
      obtain ⟨s8, hs8⟩ : ∃ z, z = (cI s7 (L0 + 10) (va_cpy (gI s7 (L1 + 10)) (gI s7 (L0 + 10)) ((0 : Int32)).toNatClampNeg ((0 : Int32)).toNatClampNeg ((gI s L1 9)).toNatClampNeg)) := ⟨_, rfl⟩
      replace h := h s8 hs8
      rw [← hs8]
      refine JT_aload_n (q := 2) dX4_copyFrom_128 rfl rfl ?_
      refine JS_getR (x := (L1 + 11)) dX4_copyFrom_129 flX4_42 (lxB hL1) (lx2 hL1) (lxN hL1) (Or.inr ⟨_, ct_4_13⟩) (lxR13 hL1) ?_
      refine JT_iconst (v := 0) dX4_copyFrom_132 ic_0 ?_
      refine JT_aload_n (q := 1) dX4_copyFrom_133 rfl rfl ?_
      refine JS_getR (x := (L0 + 11)) dX4_copyFrom_134 flX4_42 (lxB hL0) (lx2 hL0) (lxN hL0) (Or.inr ⟨_, ct_4_13⟩) (lxR13 hL0) ?_
      refine JT_iconst (v := 0) dX4_copyFrom_137 ic_0 ?_
      refine JT_iload_n (q := 0) dX4_copyFrom_138 rfl rfl ?_
      obtain ⟨o13, h⟩ := h
      refine JS_copyI (d2 := 0) (na := 60) (nb := 60) dX4_copyFrom_139 mlX4_64 (lxB11 hL0) (lx2k hL0 _) (lxNk hL0 (Nat.le_of_ble_eq_true rfl)) (lxB11 hL1) (lx2k hL1 _) (lxNk hL1 (Nat.le_of_ble_eq_true rfl)) (by decide) (by decide) o13.1 (Nat.le_trans o13.2 (by decide)) (Nat.le_trans o13.2 (by decide)) (Nat.le_of_ble_eq_true rfl) rfl ?_
      obtain ⟨s9, hs9⟩ : ∃ z, z = (cI s8 (L0 + 11) (va_cpy (gI s8 (L1 + 11)) (gI s8 (L0 + 11)) ((0 : Int32)).toNatClampNeg ((0 : Int32)).toNatClampNeg ((gI s L1 9)).toNatClampNeg)) := ⟨_, rfl⟩
      replace h := h s9 hs9
      rw [← hs9]
      refine JT_aload_n (q := 2) dX4_copyFrom_142 rfl rfl ?_
      refine JS_getR (x := (L1 + 7)) dX4_copyFrom_143 flX4_30 (lxB hL1) (lx2 hL1) (lxN hL1) (Or.inr ⟨_, ct_4_6⟩) (lxR6 hL1) ?_
      refine JT_iconst (v := 0) dX4_copyFrom_146 ic_0 ?_
      refine JT_aload_n (q := 1) dX4_copyFrom_147 rfl rfl ?_
      refine JS_getR (x := (L0 + 7)) dX4_copyFrom_148 flX4_30 (lxB hL0) (lx2 hL0) (lxN hL0) (Or.inr ⟨_, ct_4_6⟩) (lxR6 hL0) ?_
      refine JT_iconst (v := 0) dX4_copyFrom_151 ic_0 ?_
      refine JT_bipush (v := 9) dX4_copyFrom_152 bp_9 ?_
      refine JS_copyI (d2 := 0) (na := 9) (nb := 9) dX4_copyFrom_154 mlX4_64 (lxB7 hL0) (lx2k hL0 _) (lxNk hL0 (Nat.le_of_ble_eq_true rfl)) (lxB7 hL1) (lx2k hL1 _) (lxNk hL1 (Nat.le_of_ble_eq_true rfl)) (by decide) (by decide) (by decide) (by decide) (by decide) (Nat.le_of_ble_eq_true rfl) rfl ?_
      obtain ⟨s10, hs10⟩ : ∃ z, z = (cI s9 (L0 + 7) (va_cpy (gI s9 (L1 + 7)) (gI s9 (L0 + 7)) ((0 : Int32)).toNatClampNeg ((0 : Int32)).toNatClampNeg ((9 : Int32)).toNatClampNeg)) := ⟨_, rfl⟩
      replace h := h s10 hs10
      rw [← hs10]
      refine JT_aload_n (q := 2) dX4_copyFrom_157 rfl rfl ?_
      refine JS_getR (x := (L1 + 8)) dX4_copyFrom_158 flX4_33 (lxB hL1) (lx2 hL1) (lxN hL1) (Or.inr ⟨_, ct_4_7⟩) (lxR7 hL1) ?_
      refine JT_iconst (v := 0) dX4_copyFrom_161 ic_0 ?_
      refine JT_aload_n (q := 1) dX4_copyFrom_162 rfl rfl ?_
      refine JS_getR (x := (L0 + 8)) dX4_copyFrom_163 flX4_33 (lxB hL0) (lx2 hL0) (lxN hL0) (Or.inr ⟨_, ct_4_7⟩) (lxR7 hL0) ?_
      refine JT_iconst (v := 0) dX4_copyFrom_166 ic_0 ?_
      refine JT_bipush (v := 9) dX4_copyFrom_167 bp_9 ?_
      refine JS_copyI (d2 := 0) (na := 9) (nb := 9) dX4_copyFrom_169 mlX4_64 (lxB8 hL0) (lx2k hL0 _) (lxNk hL0 (Nat.le_of_ble_eq_true rfl)) (lxB8 hL1) (lx2k hL1 _) (lxNk hL1 (Nat.le_of_ble_eq_true rfl)) (by decide) (by decide) (by decide) (by decide) (by decide) (Nat.le_of_ble_eq_true rfl) rfl ?_
      obtain ⟨s11, hs11⟩ : ∃ z, z = (cI s10 (L0 + 8) (va_cpy (gI s10 (L1 + 8)) (gI s10 (L0 + 8)) ((0 : Int32)).toNatClampNeg ((0 : Int32)).toNatClampNeg ((9 : Int32)).toNatClampNeg)) := ⟨_, rfl⟩
      replace h := h s11 hs11
      rw [← hs11]
      refine JT_aload_n (q := 1) dX4_copyFrom_172 rfl rfl ?_
      refine JT_iload_n (q := 0) dX4_copyFrom_173 rfl rfl ?_
      refine JS_putI dX4_copyFrom_174 flX4_49 (lxB hL0) (lx2 hL0) (lxN hL0) ct_4_9 ?_
      refine JT_aload_n (q := 1) dX4_copyFrom_177 rfl rfl ?_
      refine JT_aload_n (q := 2) dX4_copyFrom_178 rfl rfl ?_
      refine JS_getI dX4_copyFrom_179 flX4_53 (lxB hL1) (lx2 hL1) (lxN hL1) (Or.inl ct_4_10) ?_
      refine JS_putI dX4_copyFrom_182 flX4_53 (lxB hL0) (lx2 hL0) (lxN hL0) ct_4_10 ?_
      refine JT_aload_n (q := 1) dX4_copyFrom_185 rfl rfl ?_
      refine JT_aload_n (q := 2) dX4_copyFrom_186 rfl rfl ?_
      refine JS_getI dX4_copyFrom_187 flX4_56 (lxB hL1) (lx2 hL1) (lxN hL1) (Or.inl ct_4_14) ?_
      refine JS_putI dX4_copyFrom_190 flX4_56 (lxB hL0) (lx2 hL0) (lxN hL0) ct_4_14 ?_
      obtain ⟨s12, hs12⟩ : ∃ z, z = (pI (pI (pI s11 L0 9 (gI s L1 9)) L0 10 (gI (pI s11 L0 9 (gI s L1 9)) L1 10)) L0 14 (gI (pI (pI s11 L0 9 (gI s L1 9)) L0 10 (gI (pI s11 L0 9 (gI s L1 9)) L1 10)) L1 14)) := ⟨_, rfl⟩
      replace h := h s12 hs12
      rw [← hs12]
      exact JS_vret dX4_copyFrom_193 rfl h
    · have h := h.2 hc22
      exact JS_vret dX4_copyFrom_15 rfl h
set_option maxRecDepth 1000000 in
theorem pX4_copyFrom {L0 P0 : Nat} (hL0 : (L0, P0) ∈ LX) {L1 P1 : Nat} (hL1 : (L1, P1) ∈ LX) {s : SM} {Q : SM → Prop} (hr : rX4_copyFrom s L0 P0 L1 P1) (h : Q (mX4_copyFrom s L0 P0 L1 P1)) : KV MX4_copyFrom 1 [.ref L0, .ref L1] s Q := by
  refine bX4_copyFrom hL0 hL1 ?_
  unfold rX4_copyFrom at hr
  unfold mX4_copyFrom at h
  refine ⟨fun c => ?_, fun c => ?_⟩
  · replace h := q1p c h
    first | exact h | contradiction
  · replace hr := hr c
    replace h := q1n c h
    refine ⟨fun c => ?_, fun c => ?_⟩
    · replace hr := hr c
      replace h := q1p c h
      refine ⟨hr.1, ?_⟩
      replace hr := hr.2
      intro s1 e9
      replace hr := hr s1 e9
      try rw [← e9] at h
      try dsimp only at h
      refine ⟨hr.1, ?_⟩
      replace hr := hr.2
      intro s2 e9
      replace hr := hr s2 e9
      try rw [← e9] at h
      try dsimp only at h
      refine ⟨hr.1, ?_⟩
      replace hr := hr.2
      intro s3 e9
      replace hr := hr s3 e9
      try rw [← e9] at h
      try dsimp only at h
      refine ⟨hr.1, ?_⟩
      replace hr := hr.2
      intro s4 e9
      replace hr := hr s4 e9
      try rw [← e9] at h
      try dsimp only at h
      refine ⟨hr.1, ?_⟩
      replace hr := hr.2
      intro s5 e9
      replace hr := hr s5 e9
      try rw [← e9] at h
      try dsimp only at h
      refine ⟨hr.1, ?_⟩
      replace hr := hr.2
      intro s6 e9
      replace hr := hr s6 e9
      try rw [← e9] at h
      try dsimp only at h
      refine ⟨hr.1, ?_⟩
      replace hr := hr.2
      intro s7 e9
      replace hr := hr s7 e9
      try rw [← e9] at h
      try dsimp only at h
      refine ⟨hr.1, ?_⟩
      replace hr := hr.2
      intro s8 e9
      replace hr := hr s8 e9
      try rw [← e9] at h
      try dsimp only at h
      refine ⟨hr, ?_⟩
      intro s9 e9
      try rw [← e9] at h
      try dsimp only at h
      intro s10 e9
      try rw [← e9] at h
      try dsimp only at h
      intro s11 e9
      try rw [← e9] at h
      try dsimp only at h
      intro s12 e9
      try rw [← e9] at h
      try dsimp only at h
      first | exact h | contradiction
    · replace h := q1n c h
      first | exact h | contradiction
set_option maxRecDepth 1000000 in
theorem bX4_isBuried {L0 P0 : Nat} (hL0 : (L0, P0) ∈ LX) (a1 : Int32) {s : SM} {Q : Int32 → SM → Prop} (h : ((a1 = (-1 : Int32) → Q (1 : Int32) s) ∧ (¬ a1 = (-1 : Int32) → Q (if (vX4_lives s L0 P0 a1) = 0 then (1 : Int32) else (0 : Int32)) s))) : KI MX4_isBuried 1 [.ref L0, .int a1] s Q := by
  show BI MX4_isBuried 1 0 [(0, .ref L0), (1, .int a1)] s Q
  refine JT_iload_n (q := 1) dX4_isBuried_0 rfl rfl ?_
  refine JT_iconst (v := -1) dX4_isBuried_1 ic_m1 ?_
  refine JT_icmp_eq (tgt := 13) dX4_isBuried_2 (by decide) (fun hc4 => ?_) (fun hc4 => ?_)
  · have h := h.1 hc4
    refine JT_iconst (v := 1) dX4_isBuried_13 ic_1 ?_
    refine JT_goto (tgt := 18) dX4_isBuried_14 (by decide) ?_
    exact JS_iret dX4_isBuried_18 rfl (n01 (Or.inr rfl)) h
  · have h := h.2 hc4
    refine JT_aload_n (q := 0) dX4_isBuried_5 rfl rfl ?_
    refine JT_iload_n (q := 1) dX4_isBuried_6 rfl rfl ?_
    refine JS_callVI (M' := MX4_lives) (d' := 0) (As := [.int a1]) (rest := []) (P := (fun zv9 wm9 => (vX4_lives s L0 P0 a1) = zv9 ∧ s = wm9)) dX4_isBuried_7 cvX4_85 okX4_lives rfl (Nat.le_of_ble_eq_true rfl) (lxB hL0) (lx2 hL0) (lxN hL0) hci_4 (Nat.le_of_ble_eq_true rfl) (Nat.le_of_ble_eq_true rfl) (pX4_lives hL0 (a1)  ⟨rfl, rfl⟩) (fun zv9 wm9 hq9 => ?_)
    obtain ⟨rfl, rfl⟩ := hq9
    have hj1 : ∀ v : Int32, v = (if (vX4_lives s L0 P0 a1) = 0 then (1 : Int32) else (0 : Int32)) → JT MX4_isBuried 1 0 0 18 [(0, .ref L0), (1, .int a1)] [.int v] (std s) (KQ Q) := by
      intro v hv
      subst hv
      exact JS_iret dX4_isBuried_18 rfl (n01 (i01 (Or.inr rfl) (Or.inl rfl))) h
    refine JT_if_ne (tgt := 17) dX4_isBuried_10 (by decide) (fun hc2 => ?_) (fun hc2 => ?_)
    · refine JT_iconst (v := 0) dX4_isBuried_17 ic_0 ?_
      exact hj1 _ (by rw [if_neg hc2])
    · refine JT_iconst (v := 1) dX4_isBuried_13 ic_1 ?_
      refine JT_goto (tgt := 18) dX4_isBuried_14 (by decide) ?_
      exact hj1 _ (by rw [if_pos hc2])
set_option maxRecDepth 1000000 in
theorem zX4_isBuried (s : SM) (L0 P0 : Nat) (a1 : Int32) : vX4_isBuried s L0 P0 a1 = 0 ∨ vX4_isBuried s L0 P0 a1 = 1 := (i01 (Or.inr rfl) (i01 (Or.inr rfl) (Or.inl rfl)))
set_option maxRecDepth 1000000 in
theorem pX4_isBuried {L0 P0 : Nat} (hL0 : (L0, P0) ∈ LX) (a1 : Int32) {s : SM} {Q : Int32 → SM → Prop} (h : Q (vX4_isBuried s L0 P0 a1) s) : KI MX4_isBuried 1 [.ref L0, .int a1] s Q := by
  refine bX4_isBuried hL0 a1 ?_
  unfold vX4_isBuried at h
  refine ⟨fun c => ?_, fun c => ?_⟩
  · replace h := qlp c h
    first | exact h | contradiction
  · replace h := qln c h
    first | exact h | contradiction
set_option maxRecDepth 1000000 in
theorem bX4_isOnAny_27 {L0 P0 : Nat} (hL0 : (L0, P0) ∈ LX) (a1 : Int32) (a2 : Int32) {s : SM} {Q : Int32 → SM → Prop} (h : vp_in a1 60 ∧ (((gI s (L0 + 10) (a1).toNatClampNeg) = (-1 : Int32) → BI MX4_isOnAny 1 56 [(0, .ref L0), (1, .int a1), (2, .int a2), (3, .int (0 : Int32))] s Q) ∧ (¬ (gI s (L0 + 10) (a1).toNatClampNeg) = (-1 : Int32) → vp_in a1 60 ∧ (((vX11_isIn s (gI s (L0 + 10) (a1).toNatClampNeg) a2) = 0 → BI MX4_isOnAny 1 56 [(0, .ref L0), (1, .int a1), (2, .int a2), (3, .int (0 : Int32))] s Q) ∧ (¬ (vX11_isIn s (gI s (L0 + 10) (a1).toNatClampNeg) a2) = 0 → Q (if (0 : Int32) = 0 then (if (1 : Int32) = 0 then (0 : Int32) else (1 : Int32)) else (1 : Int32)) s))))) : BI MX4_isOnAny 1 27 [(0, .ref L0), (1, .int a1), (2, .int a2)] s Q := by
  refine JT_iconst (v := 0) dX4_isOnAny_27 ic_0 ?_
  refine JT_istore_n (lv' := [(3, .int (0 : Int32)), (0, .ref L0), (1, .int a1), (2, .int a2)]) dX4_isOnAny_28 rfl (Nat.le_of_ble_eq_true rfl) rfl ?_
  refine JT_aload_n (q := 1) dX4_isOnAny_29 rfl rfl ?_
  refine JS_getR (x := (L0 + 10)) dX4_isOnAny_30 flX4_39 (lxB hL0) (lx2 hL0) (lxN hL0) (Or.inr ⟨_, ct_4_12⟩) (lxR12 hL0) ?_
  refine JT_iload_n (q := 2) dX4_isOnAny_33 rfl rfl ?_
  obtain ⟨o1, h⟩ := h
  refine JS_iald dX4_isOnAny_34 (lxB10 hL0) (lx2k hL0 _) (lxNk hL0 (Nat.le_of_ble_eq_true rfl)) o1 ?_
  refine JT_iconst (v := -1) dX4_isOnAny_35 ic_m1 ?_
  refine JT_icmp_eq (tgt := 56) dX4_isOnAny_36 (by decide) (fun hc8 => ?_) (fun hc8 => ?_)
  · have h := h.1 hc8
    exact JT_sub [1, 2, 3, 0] rfl h
  · have h := h.2 hc8
    refine JT_aload_n (q := 1) dX4_isOnAny_39 rfl rfl ?_
    refine JS_getR (x := (L0 + 10)) dX4_isOnAny_40 flX4_39 (lxB hL0) (lx2 hL0) (lxN hL0) (Or.inr ⟨_, ct_4_12⟩) (lxR12 hL0) ?_
    refine JT_iload_n (q := 2) dX4_isOnAny_43 rfl rfl ?_
    obtain ⟨o2, h⟩ := h
    refine JS_iald dX4_isOnAny_44 (lxB10 hL0) (lx2k hL0 _) (lxNk hL0 (Nat.le_of_ble_eq_true rfl)) o2 ?_
    refine JT_iload_n (q := 3) dX4_isOnAny_45 rfl rfl ?_
    refine JS_callSNI (M' := MX11_isIn) (d' := 0) (As := [.int (gI s (L0 + 10) (a1).toNatClampNeg), .int a2]) (rest := []) (P := (fun zv9 wm9 => (vX11_isIn s (gI s (L0 + 10) (a1).toNatClampNeg) a2) = zv9 ∧ s = wm9)) dX4_isOnAny_46 cvX4_74 okX11_isIn rfl (Nat.le_of_ble_eq_true rfl) (Nat.le_of_ble_eq_true rfl) (Nat.le_of_ble_eq_true rfl) (pX11_isIn  ((gI s (L0 + 10) (a1).toNatClampNeg)) (a2)  ⟨rfl, rfl⟩) (fun zv9 wm9 hq9 => ?_)
    obtain ⟨rfl, rfl⟩ := hq9
    refine JT_if_eq (tgt := 56) dX4_isOnAny_49 (by decide) (fun hc6 => ?_) (fun hc6 => ?_)
    · have h := h.1 hc6
      exact JT_sub [1, 2, 3, 0] rfl h
    · have h := h.2 hc6
      refine JT_iconst (v := 1) dX4_isOnAny_52 ic_1 ?_
      refine JT_goto (tgt := 57) dX4_isOnAny_53 (by decide) ?_
      refine JT_istore (lv' := [(4, .int (1 : Int32)), (3, .int (0 : Int32)), (0, .ref L0), (1, .int a1), (2, .int a2)]) dX4_isOnAny_57 (Nat.le_of_ble_eq_true rfl) rfl ?_
      refine JT_iload_n (q := 1) dX4_isOnAny_59 rfl rfl ?_
      have hj3 : ∀ v : Int32, v = (if (0 : Int32) = 0 then (if (1 : Int32) = 0 then (0 : Int32) else (1 : Int32)) else (1 : Int32)) → JT MX4_isOnAny 1 0 0 73 [(4, .int (1 : Int32)), (3, .int (0 : Int32)), (0, .ref L0), (1, .int a1), (2, .int a2)] [.int v] (std s) (KQ Q) := by
        intro v hv
        subst hv
        exact JS_iret dX4_isOnAny_73 rfl (n01 (i01 (i01 (Or.inl rfl) (Or.inr rfl)) (Or.inr rfl))) h
      refine JT_if_ne (tgt := 68) dX4_isOnAny_60 (by decide) (fun hc4 => ?_) (fun hc4 => ?_)
      · refine JT_iconst (v := 1) dX4_isOnAny_68 ic_1 ?_
        refine JT_goto (tgt := 73) dX4_isOnAny_69 (by decide) ?_
        exact hj3 _ (by rw [if_neg hc4])
      · refine JT_iload (q := 0) dX4_isOnAny_63 rfl ?_
        refine JT_if_eq (tgt := 72) dX4_isOnAny_65 (by decide) (fun hc5 => ?_) (fun hc5 => ?_)
        · refine JT_iconst (v := 0) dX4_isOnAny_72 ic_0 ?_
          exact hj3 _ (by rw [if_pos hc4, if_pos hc5])
        · refine JT_iconst (v := 1) dX4_isOnAny_68 ic_1 ?_
          refine JT_goto (tgt := 73) dX4_isOnAny_69 (by decide) ?_
          exact hj3 _ (by rw [if_pos hc4, if_neg hc5])
set_option maxRecDepth 1000000 in
theorem bX4_isOnAny_56 {L0 P0 : Nat} (hL0 : (L0, P0) ∈ LX) (a1 : Int32) (a2 : Int32) (a3 : Int32) {s : SM} {Q : Int32 → SM → Prop} (h : Q (if a3 = 0 then (if (0 : Int32) = 0 then (0 : Int32) else (1 : Int32)) else (1 : Int32)) s) : BI MX4_isOnAny 1 56 [(0, .ref L0), (1, .int a1), (2, .int a2), (3, .int a3)] s Q := by
  refine JT_iconst (v := 0) dX4_isOnAny_56 ic_0 ?_
  refine JT_istore (lv' := [(4, .int (0 : Int32)), (0, .ref L0), (1, .int a1), (2, .int a2), (3, .int a3)]) dX4_isOnAny_57 (Nat.le_of_ble_eq_true rfl) rfl ?_
  refine JT_iload_n (q := 4) dX4_isOnAny_59 rfl rfl ?_
  have hj1 : ∀ v : Int32, v = (if a3 = 0 then (if (0 : Int32) = 0 then (0 : Int32) else (1 : Int32)) else (1 : Int32)) → JT MX4_isOnAny 1 0 0 73 [(4, .int (0 : Int32)), (0, .ref L0), (1, .int a1), (2, .int a2), (3, .int a3)] [.int v] (std s) (KQ Q) := by
    intro v hv
    subst hv
    exact JS_iret dX4_isOnAny_73 rfl (n01 (i01 (i01 (Or.inl rfl) (Or.inr rfl)) (Or.inr rfl))) h
  refine JT_if_ne (tgt := 68) dX4_isOnAny_60 (by decide) (fun hc2 => ?_) (fun hc2 => ?_)
  · refine JT_iconst (v := 1) dX4_isOnAny_68 ic_1 ?_
    refine JT_goto (tgt := 73) dX4_isOnAny_69 (by decide) ?_
    exact hj1 _ (by rw [if_neg hc2])
  · refine JT_iload (q := 0) dX4_isOnAny_63 rfl ?_
    refine JT_if_eq (tgt := 72) dX4_isOnAny_65 (by decide) (fun hc3 => ?_) (fun hc3 => ?_)
    · refine JT_iconst (v := 0) dX4_isOnAny_72 ic_0 ?_
      exact hj1 _ (by rw [if_pos hc2, if_pos hc3])
    · refine JT_iconst (v := 1) dX4_isOnAny_68 ic_1 ?_
      refine JT_goto (tgt := 73) dX4_isOnAny_69 (by decide) ?_
      exact hj1 _ (by rw [if_pos hc2, if_neg hc3])
set_option maxRecDepth 1000000 in
theorem bX4_isOnAny {L0 P0 : Nat} (hL0 : (L0, P0) ∈ LX) (a1 : Int32) (a2 : Int32) {s : SM} {Q : Int32 → SM → Prop} (h : vp_in a1 60 ∧ (((gI s (L0 + 9) (a1).toNatClampNeg) = (-1 : Int32) → BI MX4_isOnAny 1 27 [(0, .ref L0), (1, .int a1), (2, .int a2)] s Q) ∧ (¬ (gI s (L0 + 9) (a1).toNatClampNeg) = (-1 : Int32) → vp_in a1 60 ∧ (((vX11_isIn s (gI s (L0 + 9) (a1).toNatClampNeg) a2) = 0 → BI MX4_isOnAny 1 27 [(0, .ref L0), (1, .int a1), (2, .int a2)] s Q) ∧ (¬ (vX11_isIn s (gI s (L0 + 9) (a1).toNatClampNeg) a2) = 0 → vp_in a1 60 ∧ (((gI s (L0 + 10) (a1).toNatClampNeg) = (-1 : Int32) → BI MX4_isOnAny 1 56 [(0, .ref L0), (1, .int a1), (2, .int a2), (3, .int (1 : Int32))] s Q) ∧ (¬ (gI s (L0 + 10) (a1).toNatClampNeg) = (-1 : Int32) → vp_in a1 60 ∧ (((vX11_isIn s (gI s (L0 + 10) (a1).toNatClampNeg) a2) = 0 → BI MX4_isOnAny 1 56 [(0, .ref L0), (1, .int a1), (2, .int a2), (3, .int (1 : Int32))] s Q) ∧ (¬ (vX11_isIn s (gI s (L0 + 10) (a1).toNatClampNeg) a2) = 0 → Q (if (1 : Int32) = 0 then (if (1 : Int32) = 0 then (0 : Int32) else (1 : Int32)) else (1 : Int32)) s))))))))) : KI MX4_isOnAny 1 [.ref L0, .int a1, .int a2] s Q := by
  show BI MX4_isOnAny 1 0 [(0, .ref L0), (1, .int a1), (2, .int a2)] s Q
  refine JT_aload_n (q := 0) dX4_isOnAny_0 rfl rfl ?_
  refine JS_getR (x := (L0 + 9)) dX4_isOnAny_1 flX4_36 (lxB hL0) (lx2 hL0) (lxN hL0) (Or.inr ⟨_, ct_4_11⟩) (lxR11 hL0) ?_
  refine JT_iload_n (q := 1) dX4_isOnAny_4 rfl rfl ?_
  obtain ⟨o1, h⟩ := h
  refine JS_iald dX4_isOnAny_5 (lxB9 hL0) (lx2k hL0 _) (lxNk hL0 (Nat.le_of_ble_eq_true rfl)) o1 ?_
  refine JT_iconst (v := -1) dX4_isOnAny_6 ic_m1 ?_
  refine JT_icmp_eq (tgt := 27) dX4_isOnAny_7 (by decide) (fun hc13 => ?_) (fun hc13 => ?_)
  · have h := h.1 hc13
    exact JT_sub [0, 1, 2] rfl h
  · have h := h.2 hc13
    refine JT_aload_n (q := 0) dX4_isOnAny_10 rfl rfl ?_
    refine JS_getR (x := (L0 + 9)) dX4_isOnAny_11 flX4_36 (lxB hL0) (lx2 hL0) (lxN hL0) (Or.inr ⟨_, ct_4_11⟩) (lxR11 hL0) ?_
    refine JT_iload_n (q := 1) dX4_isOnAny_14 rfl rfl ?_
    obtain ⟨o2, h⟩ := h
    refine JS_iald dX4_isOnAny_15 (lxB9 hL0) (lx2k hL0 _) (lxNk hL0 (Nat.le_of_ble_eq_true rfl)) o2 ?_
    refine JT_iload_n (q := 2) dX4_isOnAny_16 rfl rfl ?_
    refine JS_callSNI (M' := MX11_isIn) (d' := 0) (As := [.int (gI s (L0 + 9) (a1).toNatClampNeg), .int a2]) (rest := []) (P := (fun zv9 wm9 => (vX11_isIn s (gI s (L0 + 9) (a1).toNatClampNeg) a2) = zv9 ∧ s = wm9)) dX4_isOnAny_17 cvX4_74 okX11_isIn rfl (Nat.le_of_ble_eq_true rfl) (Nat.le_of_ble_eq_true rfl) (Nat.le_of_ble_eq_true rfl) (pX11_isIn  ((gI s (L0 + 9) (a1).toNatClampNeg)) (a2)  ⟨rfl, rfl⟩) (fun zv9 wm9 hq9 => ?_)
    obtain ⟨rfl, rfl⟩ := hq9
    refine JT_if_eq (tgt := 27) dX4_isOnAny_20 (by decide) (fun hc11 => ?_) (fun hc11 => ?_)
    · have h := h.1 hc11
      exact JT_sub [0, 1, 2] rfl h
    · have h := h.2 hc11
      refine JT_iconst (v := 1) dX4_isOnAny_23 ic_1 ?_
      refine JT_goto (tgt := 28) dX4_isOnAny_24 (by decide) ?_
      refine JT_istore_n (lv' := [(3, .int (1 : Int32)), (0, .ref L0), (1, .int a1), (2, .int a2)]) dX4_isOnAny_28 rfl (Nat.le_of_ble_eq_true rfl) rfl ?_
      refine JT_aload_n (q := 1) dX4_isOnAny_29 rfl rfl ?_
      refine JS_getR (x := (L0 + 10)) dX4_isOnAny_30 flX4_39 (lxB hL0) (lx2 hL0) (lxN hL0) (Or.inr ⟨_, ct_4_12⟩) (lxR12 hL0) ?_
      refine JT_iload_n (q := 2) dX4_isOnAny_33 rfl rfl ?_
      obtain ⟨o3, h⟩ := h
      refine JS_iald dX4_isOnAny_34 (lxB10 hL0) (lx2k hL0 _) (lxNk hL0 (Nat.le_of_ble_eq_true rfl)) o3 ?_
      refine JT_iconst (v := -1) dX4_isOnAny_35 ic_m1 ?_
      refine JT_icmp_eq (tgt := 56) dX4_isOnAny_36 (by decide) (fun hc10 => ?_) (fun hc10 => ?_)
      · have h := h.1 hc10
        exact JT_sub [1, 2, 3, 0] rfl h
      · have h := h.2 hc10
        refine JT_aload_n (q := 1) dX4_isOnAny_39 rfl rfl ?_
        refine JS_getR (x := (L0 + 10)) dX4_isOnAny_40 flX4_39 (lxB hL0) (lx2 hL0) (lxN hL0) (Or.inr ⟨_, ct_4_12⟩) (lxR12 hL0) ?_
        refine JT_iload_n (q := 2) dX4_isOnAny_43 rfl rfl ?_
        obtain ⟨o4, h⟩ := h
        refine JS_iald dX4_isOnAny_44 (lxB10 hL0) (lx2k hL0 _) (lxNk hL0 (Nat.le_of_ble_eq_true rfl)) o4 ?_
        refine JT_iload_n (q := 3) dX4_isOnAny_45 rfl rfl ?_
        refine JS_callSNI (M' := MX11_isIn) (d' := 0) (As := [.int (gI s (L0 + 10) (a1).toNatClampNeg), .int a2]) (rest := []) (P := (fun zv9 wm9 => (vX11_isIn s (gI s (L0 + 10) (a1).toNatClampNeg) a2) = zv9 ∧ s = wm9)) dX4_isOnAny_46 cvX4_74 okX11_isIn rfl (Nat.le_of_ble_eq_true rfl) (Nat.le_of_ble_eq_true rfl) (Nat.le_of_ble_eq_true rfl) (pX11_isIn  ((gI s (L0 + 10) (a1).toNatClampNeg)) (a2)  ⟨rfl, rfl⟩) (fun zv9 wm9 hq9 => ?_)
        obtain ⟨rfl, rfl⟩ := hq9
        refine JT_if_eq (tgt := 56) dX4_isOnAny_49 (by decide) (fun hc8 => ?_) (fun hc8 => ?_)
        · have h := h.1 hc8
          exact JT_sub [1, 2, 3, 0] rfl h
        · have h := h.2 hc8
          refine JT_iconst (v := 1) dX4_isOnAny_52 ic_1 ?_
          refine JT_goto (tgt := 57) dX4_isOnAny_53 (by decide) ?_
          refine JT_istore (lv' := [(4, .int (1 : Int32)), (3, .int (1 : Int32)), (0, .ref L0), (1, .int a1), (2, .int a2)]) dX4_isOnAny_57 (Nat.le_of_ble_eq_true rfl) rfl ?_
          refine JT_iload_n (q := 1) dX4_isOnAny_59 rfl rfl ?_
          have hj5 : ∀ v : Int32, v = (if (1 : Int32) = 0 then (if (1 : Int32) = 0 then (0 : Int32) else (1 : Int32)) else (1 : Int32)) → JT MX4_isOnAny 1 0 0 73 [(4, .int (1 : Int32)), (3, .int (1 : Int32)), (0, .ref L0), (1, .int a1), (2, .int a2)] [.int v] (std s) (KQ Q) := by
            intro v hv
            subst hv
            exact JS_iret dX4_isOnAny_73 rfl (n01 (i01 (i01 (Or.inl rfl) (Or.inr rfl)) (Or.inr rfl))) h
          refine JT_if_ne (tgt := 68) dX4_isOnAny_60 (by decide) (fun hc6 => ?_) (fun hc6 => ?_)
          · refine JT_iconst (v := 1) dX4_isOnAny_68 ic_1 ?_
            refine JT_goto (tgt := 73) dX4_isOnAny_69 (by decide) ?_
            exact hj5 _ (by rw [if_neg hc6])
          · refine JT_iload (q := 0) dX4_isOnAny_63 rfl ?_
            refine JT_if_eq (tgt := 72) dX4_isOnAny_65 (by decide) (fun hc7 => ?_) (fun hc7 => ?_)
            · refine JT_iconst (v := 0) dX4_isOnAny_72 ic_0 ?_
              exact hj5 _ (by rw [if_pos hc6, if_pos hc7])
            · refine JT_iconst (v := 1) dX4_isOnAny_68 ic_1 ?_
              refine JT_goto (tgt := 73) dX4_isOnAny_69 (by decide) ?_
              exact hj5 _ (by rw [if_pos hc6, if_neg hc7])
set_option maxRecDepth 1000000 in
theorem gX4_isOnAny {L0 P0 : Nat} (hL0 : (L0, P0) ∈ LX) : ∀ n : Nat, (∀ (a1 : Int32) (a2 : Int32) (s : SM) (Q : Int32 → SM → Prop), ((qX4_isOnAny n).1 s L0 P0 a1 a2) → Q ((lX4_isOnAny n).1 s L0 P0 a1 a2) s → BI MX4_isOnAny 1 27 [(0, .ref L0), (1, .int a1), (2, .int a2)] s Q) ∧ (∀ (a1 : Int32) (a2 : Int32) (a3 : Int32) (s : SM) (Q : Int32 → SM → Prop), ((qX4_isOnAny n).2 s L0 P0 a1 a2 a3) → Q ((lX4_isOnAny n).2 s L0 P0 a1 a2 a3) s → BI MX4_isOnAny 1 56 [(0, .ref L0), (1, .int a1), (2, .int a2), (3, .int a3)] s Q) := by
  intro n
  induction n with
  | zero => exact ⟨fun _ _ _ _ hq _ => absurd hq id, fun _ _ _ _ _ hq _ => absurd hq id⟩
  | succ n ih =>
    refine ⟨?_, ?_⟩
    · intro a1 a2 s Q hr h
      replace hr : uX4_isOnAny_27 (qX4_isOnAny n) s L0 P0 a1 a2 := hr
      replace h : Q (tX4_isOnAny_27 (lX4_isOnAny n) s L0 P0 a1 a2) s := h
      unfold uX4_isOnAny_27 at hr
      unfold tX4_isOnAny_27 at h
      refine bX4_isOnAny_27 hL0 a1 a2 ?_
      refine ⟨hr.1, ?_⟩
      replace hr := hr.2
      refine ⟨fun c => ?_, fun c => ?_⟩
      · replace hr := hr.1 c
        replace h := qlp c h
        first | exact ih.2 a1 a2 (0 : Int32) _ Q hr h | contradiction
      · replace hr := hr.2 c
        replace h := qln c h
        refine ⟨hr.1, ?_⟩
        replace hr := hr.2
        refine ⟨fun c => ?_, fun c => ?_⟩
        · replace hr := hr c
          replace h := qlp c h
          first | exact ih.2 a1 a2 (0 : Int32) _ Q hr h | contradiction
        · replace h := qln c h
          first | exact h | contradiction
    · intro a1 a2 a3 s Q hr h
      replace hr : uX4_isOnAny_56 (qX4_isOnAny n) s L0 P0 a1 a2 a3 := hr
      replace h : Q (tX4_isOnAny_56 (lX4_isOnAny n) s L0 P0 a1 a2 a3) s := h
      unfold uX4_isOnAny_56 at hr
      unfold tX4_isOnAny_56 at h
      refine bX4_isOnAny_56 hL0 a1 a2 a3 ?_
      first | exact h | contradiction
set_option maxRecDepth 1000000 in
theorem pX4_isOnAny {L0 P0 : Nat} (hL0 : (L0, P0) ∈ LX) (a1 : Int32) (a2 : Int32) {s : SM} {Q : Int32 → SM → Prop} (hr : rX4_isOnAny s L0 P0 a1 a2) (h : Q (vX4_isOnAny s L0 P0 a1 a2) s) : KI MX4_isOnAny 1 [.ref L0, .int a1, .int a2] s Q := by
  replace h : Q (fX4_isOnAny s L0 P0 a1 a2) s := h
  unfold rX4_isOnAny at hr
  unfold fX4_isOnAny at h
  refine bX4_isOnAny hL0 a1 a2 ?_
  refine ⟨hr.1, ?_⟩
  replace hr := hr.2
  refine ⟨fun c => ?_, fun c => ?_⟩
  · replace hr := hr.1 c
    replace h := qlp c h
    first | exact (gX4_isOnAny hL0 FU).1 a1 a2 _ Q hr h | contradiction
  · replace hr := hr.2 c
    replace h := qln c h
    refine ⟨hr.1, ?_⟩
    replace hr := hr.2
    refine ⟨fun c => ?_, fun c => ?_⟩
    · replace hr := hr.1 c
      replace h := qlp c h
      first | exact (gX4_isOnAny hL0 FU).1 a1 a2 _ Q hr h | contradiction
    · replace hr := hr.2 c
      replace h := qln c h
      refine ⟨hr.1, ?_⟩
      replace hr := hr.2
      refine ⟨fun c => ?_, fun c => ?_⟩
      · replace hr := hr.1 c
        replace h := qlp c h
        first | exact (gX4_isOnAny hL0 FU).2 a1 a2 (1 : Int32) _ Q hr h | contradiction
      · replace hr := hr.2 c
        replace h := qln c h
        refine ⟨hr.1, ?_⟩
        replace hr := hr.2
        refine ⟨fun c => ?_, fun c => ?_⟩
        · replace hr := hr c
          replace h := qlp c h
          first | exact (gX4_isOnAny hL0 FU).2 a1 a2 (1 : Int32) _ Q hr h | contradiction
        · replace h := qln c h
          first | exact h | contradiction
set_option maxRecDepth 1000000 in
theorem bX4_isOpen {L0 P0 : Nat} (hL0 : (L0, P0) ∈ LX) (a1 : Int32) {s : SM} {Q : Int32 → SM → Prop} (h : (((vX4_hasDeal s L0 P0 a1) = 0 → Q (0 : Int32) s) ∧ (¬ (vX4_hasDeal s L0 P0 a1) = 0 → vp_in a1 60 ∧ Q (if (gI s (L0 + 6) (a1).toNatClampNeg) = 0 then (1 : Int32) else (0 : Int32)) s))) : KI MX4_isOpen 1 [.ref L0, .int a1] s Q := by
  show BI MX4_isOpen 1 0 [(0, .ref L0), (1, .int a1)] s Q
  refine JT_aload_n (q := 0) dX4_isOpen_0 rfl rfl ?_
  refine JT_iload_n (q := 1) dX4_isOpen_1 rfl rfl ?_
  refine JS_callVI (M' := MX4_hasDeal) (d' := 0) (As := [.int a1]) (rest := []) (P := (fun zv9 wm9 => (vX4_hasDeal s L0 P0 a1) = zv9 ∧ s = wm9)) dX4_isOpen_2 cvX4_70 okX4_hasDeal rfl (Nat.le_of_ble_eq_true rfl) (lxB hL0) (lx2 hL0) (lxN hL0) hci_4 (Nat.le_of_ble_eq_true rfl) (Nat.le_of_ble_eq_true rfl) (pX4_hasDeal hL0 (a1)  ⟨rfl, rfl⟩) (fun zv9 wm9 hq9 => ?_)
  obtain ⟨rfl, rfl⟩ := hq9
  refine JT_if_eq (tgt := 21) dX4_isOpen_5 (by decide) (fun hc4 => ?_) (fun hc4 => ?_)
  · have h := h.1 hc4
    refine JT_iconst (v := 0) dX4_isOpen_21 ic_0 ?_
    exact JS_iret dX4_isOpen_22 rfl (n01 (Or.inl rfl)) h
  · have h := h.2 hc4
    refine JT_aload_n (q := 0) dX4_isOpen_8 rfl rfl ?_
    refine JS_getR (x := (L0 + 6)) dX4_isOpen_9 flX4_27 (lxB hL0) (lx2 hL0) (lxN hL0) (Or.inr ⟨_, ct_4_5⟩) (lxR5 hL0) ?_
    refine JT_iload_n (q := 1) dX4_isOpen_12 rfl rfl ?_
    obtain ⟨o1, h⟩ := h
    refine JS_iald dX4_isOpen_13 (lxB6 hL0) (lx2k hL0 _) (lxNk hL0 (Nat.le_of_ble_eq_true rfl)) o1 ?_
    have hj2 : ∀ v : Int32, v = (if (gI s (L0 + 6) (a1).toNatClampNeg) = 0 then (1 : Int32) else (0 : Int32)) → JT MX4_isOpen 1 0 0 22 [(0, .ref L0), (1, .int a1)] [.int v] (std s) (KQ Q) := by
      intro v hv
      subst hv
      exact JS_iret dX4_isOpen_22 rfl (n01 (i01 (Or.inr rfl) (Or.inl rfl))) h
    refine JT_if_ne (tgt := 21) dX4_isOpen_14 (by decide) (fun hc3 => ?_) (fun hc3 => ?_)
    · refine JT_iconst (v := 0) dX4_isOpen_21 ic_0 ?_
      exact hj2 _ (by rw [if_neg hc3])
    · refine JT_iconst (v := 1) dX4_isOpen_17 ic_1 ?_
      refine JT_goto (tgt := 22) dX4_isOpen_18 (by decide) ?_
      exact hj2 _ (by rw [if_pos hc3])
set_option maxRecDepth 1000000 in
theorem zX4_isOpen (s : SM) (L0 P0 : Nat) (a1 : Int32) : vX4_isOpen s L0 P0 a1 = 0 ∨ vX4_isOpen s L0 P0 a1 = 1 := (i01 (Or.inl rfl) (i01 (Or.inr rfl) (Or.inl rfl)))
set_option maxRecDepth 1000000 in
theorem pX4_isOpen {L0 P0 : Nat} (hL0 : (L0, P0) ∈ LX) (a1 : Int32) {s : SM} {Q : Int32 → SM → Prop} (hr : rX4_isOpen s L0 P0 a1) (h : Q (vX4_isOpen s L0 P0 a1) s) : KI MX4_isOpen 1 [.ref L0, .int a1] s Q := by
  refine bX4_isOpen hL0 a1 ?_
  unfold rX4_isOpen at hr
  unfold vX4_isOpen at h
  refine ⟨fun c => ?_, fun c => ?_⟩
  · replace h := qlp c h
    first | exact h | contradiction
  · replace hr := hr c
    replace h := qln c h
    refine ⟨hr, ?_⟩
    first | exact h | contradiction
set_option maxRecDepth 1000000 in
theorem bX4_isScarred {L0 P0 : Nat} (hL0 : (L0, P0) ∈ LX) (a1 : Int32) (a2 : Int32) {s : SM} {Q : Int32 → SM → Prop} (h : vp_in a1 60 ∧ Q (vX11_isIn s a2 (gI s (L0 + 11) (a1).toNatClampNeg)) s) : KI MX4_isScarred 1 [.ref L0, .int a1, .int a2] s Q := by
  show BI MX4_isScarred 1 0 [(0, .ref L0), (1, .int a1), (2, .int a2)] s Q
  refine JT_iload_n (q := 2) dX4_isScarred_0 rfl rfl ?_
  refine JT_aload_n (q := 0) dX4_isScarred_1 rfl rfl ?_
  refine JS_getR (x := (L0 + 11)) dX4_isScarred_2 flX4_42 (lxB hL0) (lx2 hL0) (lxN hL0) (Or.inr ⟨_, ct_4_13⟩) (lxR13 hL0) ?_
  refine JT_iload_n (q := 1) dX4_isScarred_5 rfl rfl ?_
  obtain ⟨o1, h⟩ := h
  refine JS_iald dX4_isScarred_6 (lxB11 hL0) (lx2k hL0 _) (lxNk hL0 (Nat.le_of_ble_eq_true rfl)) o1 ?_
  refine JS_callSNI (M' := MX11_isIn) (d' := 0) (As := [.int a2, .int (gI s (L0 + 11) (a1).toNatClampNeg)]) (rest := []) (P := (fun zv9 wm9 => (vX11_isIn s a2 (gI s (L0 + 11) (a1).toNatClampNeg)) = zv9 ∧ s = wm9)) dX4_isScarred_7 cvX4_74 okX11_isIn rfl (Nat.le_of_ble_eq_true rfl) (Nat.le_of_ble_eq_true rfl) (Nat.le_of_ble_eq_true rfl) (pX11_isIn  (a2) ((gI s (L0 + 11) (a1).toNatClampNeg))  ⟨rfl, rfl⟩) (fun zv9 wm9 hq9 => ?_)
  obtain ⟨rfl, rfl⟩ := hq9
  exact JS_iret dX4_isScarred_10 rfl (n01 (zX11_isIn s a2 (gI s (L0 + 11) (a1).toNatClampNeg))) h
set_option maxRecDepth 1000000 in
theorem zX4_isScarred (s : SM) (L0 P0 : Nat) (a1 : Int32) (a2 : Int32) : vX4_isScarred s L0 P0 a1 a2 = 0 ∨ vX4_isScarred s L0 P0 a1 a2 = 1 := (zX11_isIn s a2 (gI s (L0 + 11) (a1).toNatClampNeg))
set_option maxRecDepth 1000000 in
theorem pX4_isScarred {L0 P0 : Nat} (hL0 : (L0, P0) ∈ LX) (a1 : Int32) (a2 : Int32) {s : SM} {Q : Int32 → SM → Prop} (hr : rX4_isScarred s L0 P0 a1 a2) (h : Q (vX4_isScarred s L0 P0 a1 a2) s) : KI MX4_isScarred 1 [.ref L0, .int a1, .int a2] s Q := by
  refine bX4_isScarred hL0 a1 a2 ?_
  unfold rX4_isScarred at hr
  unfold vX4_isScarred at h
  refine ⟨hr, ?_⟩
  first | exact h | contradiction
set_option maxRecDepth 1000000 in
theorem bX4_leastLeft_4 {L0 P0 : Nat} (hL0 : (L0, P0) ∈ LX) (a1 : Int32) (a2 : Int32) (a3 : Int32) {s : SM} {Q : Int32 → SM → Prop} (h : (((gI s P0 6) ≤ a3 → Q a2 s) ∧ (¬ (gI s P0 6) ≤ a3 → (((vX4_lives s L0 P0 a3) = 0 → BI MX4_leastLeft 1 4 [(0, .ref L0), (1, .int a1), (2, .int a2), (3, .int (a3 + 1))] s Q) ∧ (¬ (vX4_lives s L0 P0 a3) = 0 → ((¬ (vX11_isIn s a3 a1) = 0 → BI MX4_leastLeft 1 4 [(0, .ref L0), (1, .int a1), (2, .int a2), (3, .int (a3 + 1))] s Q) ∧ ((vX11_isIn s a3 a1) = 0 → ((a2 = (-1 : Int32) → BI MX4_leastLeft 1 4 [(0, .ref L0), (1, .int a1), (2, .int a3), (3, .int (a3 + 1))] s Q) ∧ (¬ a2 = (-1 : Int32) → vp_in a3 9 ∧ vp_in a2 9 ∧ (((gI s (L0 + 7) (a2).toNatClampNeg) ≤ (gI s (L0 + 7) (a3).toNatClampNeg) → BI MX4_leastLeft 1 4 [(0, .ref L0), (1, .int a1), (2, .int a2), (3, .int (a3 + 1))] s Q) ∧ (¬ (gI s (L0 + 7) (a2).toNatClampNeg) ≤ (gI s (L0 + 7) (a3).toNatClampNeg) → BI MX4_leastLeft 1 4 [(0, .ref L0), (1, .int a1), (2, .int a3), (3, .int (a3 + 1))] s Q))))))))))) : BI MX4_leastLeft 1 4 [(0, .ref L0), (1, .int a1), (2, .int a2), (3, .int a3)] s Q := by
  refine JT_iload_n (q := 3) dX4_leastLeft_4 rfl rfl ?_
  refine JT_aload_n (q := 0) dX4_leastLeft_5 rfl rfl ?_
  refine JS_getR (x := P0) dX4_leastLeft_6 flX4_45 (lxB hL0) (lx2 hL0) (lxN hL0) (Or.inl ⟨_, ct_4_8⟩) (lxR8 hL0) ?_
  refine JS_getI dX4_leastLeft_9 flX4_106 (pxB (lxP hL0)) (px2 (lxP hL0)) (pxN (lxP hL0)) (Or.inl ct_6_6) ?_
  refine JT_icmp_ge (tgt := 59) dX4_leastLeft_12 (by decide) (fun hc9 => ?_) (fun hc9 => ?_)
  · have h := h.1 hc9
    refine JT_iload_n (q := 2) dX4_leastLeft_59 rfl rfl ?_
    exact JS_iret dX4_leastLeft_60 rfl rfl h
  · have h := h.2 hc9
    refine JT_aload_n (q := 0) dX4_leastLeft_15 rfl rfl ?_
    refine JT_iload_n (q := 3) dX4_leastLeft_16 rfl rfl ?_
    refine JS_callVI (M' := MX4_lives) (d' := 0) (As := [.int a3]) (rest := []) (P := (fun zv9 wm9 => (vX4_lives s L0 P0 a3) = zv9 ∧ s = wm9)) dX4_leastLeft_17 cvX4_85 okX4_lives rfl (Nat.le_of_ble_eq_true rfl) (lxB hL0) (lx2 hL0) (lxN hL0) hci_4 (Nat.le_of_ble_eq_true rfl) (Nat.le_of_ble_eq_true rfl) (pX4_lives hL0 (a3)  ⟨rfl, rfl⟩) (fun zv9 wm9 hq9 => ?_)
    obtain ⟨rfl, rfl⟩ := hq9
    refine JT_if_eq (tgt := 53) dX4_leastLeft_20 (by decide) (fun hc7 => ?_) (fun hc7 => ?_)
    · have h := h.1 hc7
      refine JT_iinc (q := 3) (v := (a3 + 1)) (lv' := [(3, .int (a3 + 1)), (0, .ref L0), (1, .int a1), (2, .int a2)]) dX4_leastLeft_53 rfl (by rfl) (Nat.le_of_ble_eq_true rfl) rfl ?_
      refine JT_goto (tgt := 4) dX4_leastLeft_56 (by decide) ?_
      exact JT_sub [1, 2, 3, 0] rfl h
    · have h := h.2 hc7
      refine JT_iload_n (q := 3) dX4_leastLeft_23 rfl rfl ?_
      refine JT_iload_n (q := 1) dX4_leastLeft_24 rfl rfl ?_
      refine JS_callSNI (M' := MX11_isIn) (d' := 0) (As := [.int a3, .int a1]) (rest := []) (P := (fun zv9 wm9 => (vX11_isIn s a3 a1) = zv9 ∧ s = wm9)) dX4_leastLeft_25 cvX4_74 okX11_isIn rfl (Nat.le_of_ble_eq_true rfl) (Nat.le_of_ble_eq_true rfl) (Nat.le_of_ble_eq_true rfl) (pX11_isIn  (a3) (a1)  ⟨rfl, rfl⟩) (fun zv9 wm9 hq9 => ?_)
      obtain ⟨rfl, rfl⟩ := hq9
      refine JT_if_ne (tgt := 53) dX4_leastLeft_28 (by decide) (fun hc5 => ?_) (fun hc5 => ?_)
      · have h := h.1 hc5
        refine JT_iinc (q := 3) (v := (a3 + 1)) (lv' := [(3, .int (a3 + 1)), (0, .ref L0), (1, .int a1), (2, .int a2)]) dX4_leastLeft_53 rfl (by rfl) (Nat.le_of_ble_eq_true rfl) rfl ?_
        refine JT_goto (tgt := 4) dX4_leastLeft_56 (by decide) ?_
        exact JT_sub [1, 2, 3, 0] rfl h
      · have h := h.2 hc5
        refine JT_iload_n (q := 2) dX4_leastLeft_31 rfl rfl ?_
        refine JT_iconst (v := -1) dX4_leastLeft_32 ic_m1 ?_
        refine JT_icmp_eq (tgt := 51) dX4_leastLeft_33 (by decide) (fun hc4 => ?_) (fun hc4 => ?_)
        · have h := h.1 hc4
          refine JT_iload_n (q := 3) dX4_leastLeft_51 rfl rfl ?_
          refine JT_istore_n (lv' := [(2, .int a3), (0, .ref L0), (1, .int a1), (3, .int a3)]) dX4_leastLeft_52 rfl (Nat.le_of_ble_eq_true rfl) rfl ?_
          refine JT_iinc (q := 3) (v := (a3 + 1)) (lv' := [(3, .int (a3 + 1)), (2, .int a3), (0, .ref L0), (1, .int a1)]) dX4_leastLeft_53 rfl (by rfl) (Nat.le_of_ble_eq_true rfl) rfl ?_
          refine JT_goto (tgt := 4) dX4_leastLeft_56 (by decide) ?_
          exact JT_sub [2, 3, 1, 0] rfl h
        · have h := h.2 hc4
          refine JT_aload_n (q := 0) dX4_leastLeft_36 rfl rfl ?_
          refine JS_getR (x := (L0 + 7)) dX4_leastLeft_37 flX4_30 (lxB hL0) (lx2 hL0) (lxN hL0) (Or.inr ⟨_, ct_4_6⟩) (lxR6 hL0) ?_
          refine JT_iload_n (q := 3) dX4_leastLeft_40 rfl rfl ?_
          obtain ⟨o1, h⟩ := h
          refine JS_iald dX4_leastLeft_41 (lxB7 hL0) (lx2k hL0 _) (lxNk hL0 (Nat.le_of_ble_eq_true rfl)) o1 ?_
          refine JT_aload_n (q := 0) dX4_leastLeft_42 rfl rfl ?_
          refine JS_getR (x := (L0 + 7)) dX4_leastLeft_43 flX4_30 (lxB hL0) (lx2 hL0) (lxN hL0) (Or.inr ⟨_, ct_4_6⟩) (lxR6 hL0) ?_
          refine JT_iload_n (q := 2) dX4_leastLeft_46 rfl rfl ?_
          obtain ⟨o2, h⟩ := h
          refine JS_iald dX4_leastLeft_47 (lxB7 hL0) (lx2k hL0 _) (lxNk hL0 (Nat.le_of_ble_eq_true rfl)) o2 ?_
          refine JT_icmp_ge (tgt := 53) dX4_leastLeft_48 (by decide) (fun hc3 => ?_) (fun hc3 => ?_)
          · have h := h.1 hc3
            refine JT_iinc (q := 3) (v := (a3 + 1)) (lv' := [(3, .int (a3 + 1)), (0, .ref L0), (1, .int a1), (2, .int a2)]) dX4_leastLeft_53 rfl (by rfl) (Nat.le_of_ble_eq_true rfl) rfl ?_
            refine JT_goto (tgt := 4) dX4_leastLeft_56 (by decide) ?_
            exact JT_sub [1, 2, 3, 0] rfl h
          · have h := h.2 hc3
            refine JT_iload_n (q := 3) dX4_leastLeft_51 rfl rfl ?_
            refine JT_istore_n (lv' := [(2, .int a3), (0, .ref L0), (1, .int a1), (3, .int a3)]) dX4_leastLeft_52 rfl (Nat.le_of_ble_eq_true rfl) rfl ?_
            refine JT_iinc (q := 3) (v := (a3 + 1)) (lv' := [(3, .int (a3 + 1)), (2, .int a3), (0, .ref L0), (1, .int a1)]) dX4_leastLeft_53 rfl (by rfl) (Nat.le_of_ble_eq_true rfl) rfl ?_
            refine JT_goto (tgt := 4) dX4_leastLeft_56 (by decide) ?_
            exact JT_sub [2, 3, 1, 0] rfl h
set_option maxRecDepth 1000000 in
theorem bX4_leastLeft {L0 P0 : Nat} (hL0 : (L0, P0) ∈ LX) (a1 : Int32) {s : SM} {Q : Int32 → SM → Prop} (h : BI MX4_leastLeft 1 4 [(0, .ref L0), (1, .int a1), (2, .int (-1 : Int32)), (3, .int (0 : Int32))] s Q) : KI MX4_leastLeft 1 [.ref L0, .int a1] s Q := by
  show BI MX4_leastLeft 1 0 [(0, .ref L0), (1, .int a1)] s Q
  refine JT_iconst (v := -1) dX4_leastLeft_0 ic_m1 ?_
  refine JT_istore_n (lv' := [(2, .int (-1 : Int32)), (0, .ref L0), (1, .int a1)]) dX4_leastLeft_1 rfl (Nat.le_of_ble_eq_true rfl) rfl ?_
  refine JT_iconst (v := 0) dX4_leastLeft_2 ic_0 ?_
  refine JT_istore_n (lv' := [(3, .int (0 : Int32)), (2, .int (-1 : Int32)), (0, .ref L0), (1, .int a1)]) dX4_leastLeft_3 rfl (Nat.le_of_ble_eq_true rfl) rfl ?_
  exact JT_sub [2, 3, 1, 0] rfl h
set_option maxRecDepth 1000000 in
theorem gX4_leastLeft {L0 P0 : Nat} (hL0 : (L0, P0) ∈ LX) : ∀ n : Nat, (∀ (a1 : Int32) (a2 : Int32) (a3 : Int32) (s : SM) (Q : Int32 → SM → Prop), ((qX4_leastLeft n) s L0 P0 a1 a2 a3) → Q ((lX4_leastLeft n) s L0 P0 a1 a2 a3) s → BI MX4_leastLeft 1 4 [(0, .ref L0), (1, .int a1), (2, .int a2), (3, .int a3)] s Q) := by
  intro n
  induction n with
  | zero => exact fun _ _ _ _ _ hq _ => absurd hq id
  | succ n ih =>
    intro a1 a2 a3 s Q hr h
    replace hr : uX4_leastLeft_4 (qX4_leastLeft n) s L0 P0 a1 a2 a3 := hr
    replace h : Q (tX4_leastLeft_4 (lX4_leastLeft n) s L0 P0 a1 a2 a3) s := h
    unfold uX4_leastLeft_4 at hr
    unfold tX4_leastLeft_4 at h
    refine bX4_leastLeft_4 hL0 a1 a2 a3 ?_
    refine ⟨fun c => ?_, fun c => ?_⟩
    · replace h := qlp c h
      first | exact h | contradiction
    · replace hr := hr c
      replace h := qln c h
      refine ⟨fun c => ?_, fun c => ?_⟩
      · replace hr := hr.1 c
        replace h := qlp c h
        first | exact ih a1 a2 (a3 + 1) _ Q hr h | contradiction
      · replace hr := hr.2 c
        replace h := qln c h
        refine ⟨fun c => ?_, fun c => ?_⟩
        · replace hr := hr.1 c
          replace h := qln c h
          first | exact ih a1 a2 (a3 + 1) _ Q hr h | contradiction
        · replace hr := hr.2 c
          replace h := qlp c h
          refine ⟨fun c => ?_, fun c => ?_⟩
          · replace hr := hr.1 c
            replace h := qlp c h
            first | exact ih a1 a3 (a3 + 1) _ Q hr h | contradiction
          · replace hr := hr.2 c
            replace h := qln c h
            refine ⟨hr.1, ?_⟩
            replace hr := hr.2
            refine ⟨hr.1, ?_⟩
            replace hr := hr.2
            refine ⟨fun c => ?_, fun c => ?_⟩
            · replace hr := hr.1 c
              replace h := qlp c h
              first | exact ih a1 a2 (a3 + 1) _ Q hr h | contradiction
            · replace hr := hr.2 c
              replace h := qln c h
              first | exact ih a1 a3 (a3 + 1) _ Q hr h | contradiction
set_option maxRecDepth 1000000 in
theorem pX4_leastLeft {L0 P0 : Nat} (hL0 : (L0, P0) ∈ LX) (a1 : Int32) {s : SM} {Q : Int32 → SM → Prop} (hr : rX4_leastLeft s L0 P0 a1) (h : Q (vX4_leastLeft s L0 P0 a1) s) : KI MX4_leastLeft 1 [.ref L0, .int a1] s Q := by
  replace h : Q (fX4_leastLeft s L0 P0 a1) s := h
  unfold rX4_leastLeft at hr
  unfold fX4_leastLeft at h
  refine bX4_leastLeft hL0 a1 ?_
  first | exact (gX4_leastLeft hL0 FU) a1 (-1 : Int32) (0 : Int32) _ Q hr h | contradiction
set_option maxRecDepth 1000000 in
theorem bX4_leftOfLiving_4 {L0 P0 : Nat} (hL0 : (L0, P0) ∈ LX) (a1 : Int32) (a2 : Int32) {s : SM} {Q : Int32 → SM → Prop} (h : (((gI s P0 6) ≤ a2 → Q a1 s) ∧ (¬ (gI s P0 6) ≤ a2 → (((vX4_lives s L0 P0 a2) = 0 → BI MX4_leftOfLiving 1 4 [(0, .ref L0), (1, .int (a1 + (0 : Int32))), (2, .int (a2 + 1))] s Q) ∧ (¬ (vX4_lives s L0 P0 a2) = 0 → vp_in a2 9 ∧ BI MX4_leftOfLiving 1 4 [(0, .ref L0), (1, .int (a1 + (gI s (L0 + 7) (a2).toNatClampNeg))), (2, .int (a2 + 1))] s Q))))) : BI MX4_leftOfLiving 1 4 [(0, .ref L0), (1, .int a1), (2, .int a2)] s Q := by
  refine JT_iload_n (q := 2) dX4_leftOfLiving_4 rfl rfl ?_
  refine JT_aload_n (q := 0) dX4_leftOfLiving_5 rfl rfl ?_
  refine JS_getR (x := P0) dX4_leftOfLiving_6 flX4_45 (lxB hL0) (lx2 hL0) (lxN hL0) (Or.inl ⟨_, ct_4_8⟩) (lxR8 hL0) ?_
  refine JS_getI dX4_leftOfLiving_9 flX4_106 (pxB (lxP hL0)) (px2 (lxP hL0)) (pxN (lxP hL0)) (Or.inl ct_6_6) ?_
  refine JT_icmp_ge (tgt := 42) dX4_leftOfLiving_12 (by decide) (fun hc4 => ?_) (fun hc4 => ?_)
  · have h := h.1 hc4
    refine JT_iload_n (q := 1) dX4_leftOfLiving_42 rfl rfl ?_
    exact JS_iret dX4_leftOfLiving_43 rfl rfl h
  · have h := h.2 hc4
    refine JT_iload_n (q := 1) dX4_leftOfLiving_15 rfl rfl ?_
    refine JT_aload_n (q := 0) dX4_leftOfLiving_16 rfl rfl ?_
    refine JT_iload_n (q := 2) dX4_leftOfLiving_17 rfl rfl ?_
    refine JS_callVI (M' := MX4_lives) (d' := 0) (As := [.int a2]) (rest := [.int a1]) (P := (fun zv9 wm9 => (vX4_lives s L0 P0 a2) = zv9 ∧ s = wm9)) dX4_leftOfLiving_18 cvX4_85 okX4_lives rfl (Nat.le_of_ble_eq_true rfl) (lxB hL0) (lx2 hL0) (lxN hL0) hci_4 (Nat.le_of_ble_eq_true rfl) (Nat.le_of_ble_eq_true rfl) (pX4_lives hL0 (a2)  ⟨rfl, rfl⟩) (fun zv9 wm9 hq9 => ?_)
    obtain ⟨rfl, rfl⟩ := hq9
    refine JT_if_eq (tgt := 33) dX4_leftOfLiving_21 (by decide) (fun hc2 => ?_) (fun hc2 => ?_)
    · have h := h.1 hc2
      refine JT_iconst (v := 0) dX4_leftOfLiving_33 ic_0 ?_
      refine JT_iadd dX4_leftOfLiving_34 ?_
      refine JT_istore_n (lv' := [(1, .int (a1 + (0 : Int32))), (0, .ref L0), (2, .int a2)]) dX4_leftOfLiving_35 rfl (Nat.le_of_ble_eq_true rfl) rfl ?_
      refine JT_iinc (q := 2) (v := (a2 + 1)) (lv' := [(2, .int (a2 + 1)), (1, .int (a1 + (0 : Int32))), (0, .ref L0)]) dX4_leftOfLiving_36 rfl (by rfl) (Nat.le_of_ble_eq_true rfl) rfl ?_
      refine JT_goto (tgt := 4) dX4_leftOfLiving_39 (by decide) ?_
      exact JT_sub [2, 1, 0] rfl h
    · have h := h.2 hc2
      refine JT_aload_n (q := 0) dX4_leftOfLiving_24 rfl rfl ?_
      refine JS_getR (x := (L0 + 7)) dX4_leftOfLiving_25 flX4_30 (lxB hL0) (lx2 hL0) (lxN hL0) (Or.inr ⟨_, ct_4_6⟩) (lxR6 hL0) ?_
      refine JT_iload_n (q := 2) dX4_leftOfLiving_28 rfl rfl ?_
      obtain ⟨o1, h⟩ := h
      refine JS_iald dX4_leftOfLiving_29 (lxB7 hL0) (lx2k hL0 _) (lxNk hL0 (Nat.le_of_ble_eq_true rfl)) o1 ?_
      refine JT_goto (tgt := 34) dX4_leftOfLiving_30 (by decide) ?_
      refine JT_iadd dX4_leftOfLiving_34 ?_
      refine JT_istore_n (lv' := [(1, .int (a1 + (gI s (L0 + 7) (a2).toNatClampNeg))), (0, .ref L0), (2, .int a2)]) dX4_leftOfLiving_35 rfl (Nat.le_of_ble_eq_true rfl) rfl ?_
      refine JT_iinc (q := 2) (v := (a2 + 1)) (lv' := [(2, .int (a2 + 1)), (1, .int (a1 + (gI s (L0 + 7) (a2).toNatClampNeg))), (0, .ref L0)]) dX4_leftOfLiving_36 rfl (by rfl) (Nat.le_of_ble_eq_true rfl) rfl ?_
      refine JT_goto (tgt := 4) dX4_leftOfLiving_39 (by decide) ?_
      exact JT_sub [2, 1, 0] rfl h
set_option maxRecDepth 1000000 in
theorem bX4_leftOfLiving {L0 P0 : Nat} (hL0 : (L0, P0) ∈ LX) {s : SM} {Q : Int32 → SM → Prop} (h : BI MX4_leftOfLiving 1 4 [(0, .ref L0), (1, .int (0 : Int32)), (2, .int (0 : Int32))] s Q) : KI MX4_leftOfLiving 1 [.ref L0] s Q := by
  show BI MX4_leftOfLiving 1 0 [(0, .ref L0)] s Q
  refine JT_iconst (v := 0) dX4_leftOfLiving_0 ic_0 ?_
  refine JT_istore_n (lv' := [(1, .int (0 : Int32)), (0, .ref L0)]) dX4_leftOfLiving_1 rfl (Nat.le_of_ble_eq_true rfl) rfl ?_
  refine JT_iconst (v := 0) dX4_leftOfLiving_2 ic_0 ?_
  refine JT_istore_n (lv' := [(2, .int (0 : Int32)), (1, .int (0 : Int32)), (0, .ref L0)]) dX4_leftOfLiving_3 rfl (Nat.le_of_ble_eq_true rfl) rfl ?_
  exact JT_sub [2, 1, 0] rfl h
set_option maxRecDepth 1000000 in
theorem gX4_leftOfLiving {L0 P0 : Nat} (hL0 : (L0, P0) ∈ LX) : ∀ n : Nat, (∀ (a1 : Int32) (a2 : Int32) (s : SM) (Q : Int32 → SM → Prop), ((qX4_leftOfLiving n) s L0 P0 a1 a2) → Q ((lX4_leftOfLiving n) s L0 P0 a1 a2) s → BI MX4_leftOfLiving 1 4 [(0, .ref L0), (1, .int a1), (2, .int a2)] s Q) := by
  intro n
  induction n with
  | zero => exact fun _ _ _ _ hq _ => absurd hq id
  | succ n ih =>
    intro a1 a2 s Q hr h
    replace hr : uX4_leftOfLiving_4 (qX4_leftOfLiving n) s L0 P0 a1 a2 := hr
    replace h : Q (tX4_leftOfLiving_4 (lX4_leftOfLiving n) s L0 P0 a1 a2) s := h
    unfold uX4_leftOfLiving_4 at hr
    unfold tX4_leftOfLiving_4 at h
    refine bX4_leftOfLiving_4 hL0 a1 a2 ?_
    refine ⟨fun c => ?_, fun c => ?_⟩
    · replace h := qlp c h
      first | exact h | contradiction
    · replace hr := hr c
      replace h := qln c h
      refine ⟨fun c => ?_, fun c => ?_⟩
      · replace hr := hr.1 c
        replace h := qlp c h
        first | exact ih (a1 + (0 : Int32)) (a2 + 1) _ Q hr h | contradiction
      · replace hr := hr.2 c
        replace h := qln c h
        refine ⟨hr.1, ?_⟩
        replace hr := hr.2
        first | exact ih (a1 + (gI s (L0 + 7) (a2).toNatClampNeg)) (a2 + 1) _ Q hr h | contradiction
set_option maxRecDepth 1000000 in
theorem pX4_leftOfLiving {L0 P0 : Nat} (hL0 : (L0, P0) ∈ LX) {s : SM} {Q : Int32 → SM → Prop} (hr : rX4_leftOfLiving s L0 P0) (h : Q (vX4_leftOfLiving s L0 P0) s) : KI MX4_leftOfLiving 1 [.ref L0] s Q := by
  replace h : Q (fX4_leftOfLiving s L0 P0) s := h
  unfold rX4_leftOfLiving at hr
  unfold fX4_leftOfLiving at h
  refine bX4_leftOfLiving hL0 ?_
  first | exact (gX4_leftOfLiving hL0 FU) (0 : Int32) (0 : Int32) _ Q hr h | contradiction
set_option maxRecDepth 1000000 in
theorem bX4_unscarredBearer {L0 P0 : Nat} (hL0 : (L0, P0) ∈ LX) (a1 : Int32) (a2 : Int32) {s : SM} {Q : Int32 → SM → Prop} (h : vp_in a1 60 ∧ ((¬ (((gI s (L0 + 11) (a1).toNatClampNeg) >>> (a2 &&& 31)) &&& (1 : Int32)) = (1 : Int32) → rX4_bearer s L0 P0 a1 a2 ∧ Q (vX4_bearer s L0 P0 a1 a2) s) ∧ ((((gI s (L0 + 11) (a1).toNatClampNeg) >>> (a2 &&& 31)) &&& (1 : Int32)) = (1 : Int32) → Q (-1 : Int32) s))) : KI MX4_unscarredBearer 1 [.ref L0, .int a1, .int a2] s Q := by
  show BI MX4_unscarredBearer 1 0 [(0, .ref L0), (1, .int a1), (2, .int a2)] s Q
  refine JT_aload_n (q := 0) dX4_unscarredBearer_0 rfl rfl ?_
  refine JS_getR (x := (L0 + 11)) dX4_unscarredBearer_1 flX4_42 (lxB hL0) (lx2 hL0) (lxN hL0) (Or.inr ⟨_, ct_4_13⟩) (lxR13 hL0) ?_
  refine JT_iload_n (q := 1) dX4_unscarredBearer_4 rfl rfl ?_
  obtain ⟨o1, h⟩ := h
  refine JS_iald dX4_unscarredBearer_5 (lxB11 hL0) (lx2k hL0 _) (lxNk hL0 (Nat.le_of_ble_eq_true rfl)) o1 ?_
  refine JT_iload_n (q := 2) dX4_unscarredBearer_6 rfl rfl ?_
  refine JT_ishr dX4_unscarredBearer_7 ?_
  refine JT_iconst (v := 1) dX4_unscarredBearer_8 ic_1 ?_
  refine JT_iand dX4_unscarredBearer_9 ?_
  refine JT_iconst (v := 1) dX4_unscarredBearer_10 ic_1 ?_
  refine JT_icmp_ne (tgt := 18) dX4_unscarredBearer_11 (by decide) (fun hc3 => ?_) (fun hc3 => ?_)
  · have h := h.1 hc3
    refine JT_aload_n (q := 0) dX4_unscarredBearer_18 rfl rfl ?_
    refine JT_iload_n (q := 1) dX4_unscarredBearer_19 rfl rfl ?_
    refine JT_iload_n (q := 2) dX4_unscarredBearer_20 rfl rfl ?_
    obtain ⟨o2, h⟩ := h
    refine JS_callVI (M' := MX4_bearer) (d' := 0) (As := [.int a1, .int a2]) (rest := []) (P := (fun zv9 wm9 => (vX4_bearer s L0 P0 a1 a2) = zv9 ∧ s = wm9)) dX4_unscarredBearer_21 cvX4_78 okX4_bearer rfl (Nat.le_of_ble_eq_true rfl) (lxB hL0) (lx2 hL0) (lxN hL0) hci_4 (Nat.le_of_ble_eq_true rfl) (Nat.le_of_ble_eq_true rfl) (pX4_bearer hL0 (a1) (a2) o2 ⟨rfl, rfl⟩) (fun zv9 wm9 hq9 => ?_)
    obtain ⟨rfl, rfl⟩ := hq9
    exact JS_iret dX4_unscarredBearer_24 rfl rfl h
  · have h := h.2 hc3
    refine JT_iconst (v := -1) dX4_unscarredBearer_14 ic_m1 ?_
    refine JT_goto (tgt := 24) dX4_unscarredBearer_15 (by decide) ?_
    exact JS_iret dX4_unscarredBearer_24 rfl rfl h
set_option maxRecDepth 1000000 in
theorem pX4_unscarredBearer {L0 P0 : Nat} (hL0 : (L0, P0) ∈ LX) (a1 : Int32) (a2 : Int32) {s : SM} {Q : Int32 → SM → Prop} (hr : rX4_unscarredBearer s L0 P0 a1 a2) (h : Q (vX4_unscarredBearer s L0 P0 a1 a2) s) : KI MX4_unscarredBearer 1 [.ref L0, .int a1, .int a2] s Q := by
  refine bX4_unscarredBearer hL0 a1 a2 ?_
  unfold rX4_unscarredBearer at hr
  unfold vX4_unscarredBearer at h
  refine ⟨hr.1, ?_⟩
  replace hr := hr.2
  refine ⟨fun c => ?_, fun c => ?_⟩
  · replace hr := hr c
    replace h := qln c h
    refine ⟨hr, ?_⟩
    first | exact h | contradiction
  · replace h := qlp c h
    first | exact h | contradiction
set_option maxRecDepth 1000000 in
theorem bX4_valueOf {L0 P0 : Nat} (hL0 : (L0, P0) ∈ LX) (a1 : Int32) {s : SM} {Q : Int32 → SM → Prop} (h : vp_in a1 60 ∧ vp_in a1 60 ∧ rX6_valueOf s P0 (gI s (L0 + 4) (a1).toNatClampNeg) (gI s (L0 + 3) (a1).toNatClampNeg) ∧ Q (vX6_valueOf s P0 (gI s (L0 + 4) (a1).toNatClampNeg) (gI s (L0 + 3) (a1).toNatClampNeg)) s) : KI MX4_valueOf 1 [.ref L0, .int a1] s Q := by
  show BI MX4_valueOf 1 0 [(0, .ref L0), (1, .int a1)] s Q
  refine JT_aload_n (q := 0) dX4_valueOf_0 rfl rfl ?_
  refine JS_getR (x := P0) dX4_valueOf_1 flX4_45 (lxB hL0) (lx2 hL0) (lxN hL0) (Or.inl ⟨_, ct_4_8⟩) (lxR8 hL0) ?_
  refine JT_aload_n (q := 0) dX4_valueOf_4 rfl rfl ?_
  refine JS_getR (x := (L0 + 4)) dX4_valueOf_5 flX4_21 (lxB hL0) (lx2 hL0) (lxN hL0) (Or.inr ⟨_, ct_4_3⟩) (lxR3 hL0) ?_
  refine JT_iload_n (q := 1) dX4_valueOf_8 rfl rfl ?_
  obtain ⟨o1, h⟩ := h
  refine JS_iald dX4_valueOf_9 (lxB4 hL0) (lx2k hL0 _) (lxNk hL0 (Nat.le_of_ble_eq_true rfl)) o1 ?_
  refine JT_aload_n (q := 0) dX4_valueOf_10 rfl rfl ?_
  refine JS_getR (x := (L0 + 3)) dX4_valueOf_11 flX4_18 (lxB hL0) (lx2 hL0) (lxN hL0) (Or.inr ⟨_, ct_4_2⟩) (lxR2 hL0) ?_
  refine JT_iload_n (q := 1) dX4_valueOf_14 rfl rfl ?_
  obtain ⟨o2, h⟩ := h
  refine JS_iald dX4_valueOf_15 (lxB3 hL0) (lx2k hL0 _) (lxNk hL0 (Nat.le_of_ble_eq_true rfl)) o2 ?_
  obtain ⟨o3, h⟩ := h
  refine JS_callVI (M' := MX6_valueOf) (d' := 0) (As := [.int (gI s (L0 + 4) (a1).toNatClampNeg), .int (gI s (L0 + 3) (a1).toNatClampNeg)]) (rest := []) (P := (fun zv9 wm9 => (vX6_valueOf s P0 (gI s (L0 + 4) (a1).toNatClampNeg) (gI s (L0 + 3) (a1).toNatClampNeg)) = zv9 ∧ s = wm9)) dX4_valueOf_16 cvX4_100 okX6_valueOf rfl (Nat.le_of_ble_eq_true rfl) (pxB (lxP hL0)) (px2 (lxP hL0)) (pxN (lxP hL0)) hci_6 (Nat.le_of_ble_eq_true rfl) (Nat.le_of_ble_eq_true rfl) (pX6_valueOf (lxP hL0) ((gI s (L0 + 4) (a1).toNatClampNeg)) ((gI s (L0 + 3) (a1).toNatClampNeg)) o3 ⟨rfl, rfl⟩) (fun zv9 wm9 hq9 => ?_)
  obtain ⟨rfl, rfl⟩ := hq9
  exact JS_iret dX4_valueOf_19 rfl rfl h
set_option maxRecDepth 1000000 in
theorem pX4_valueOf {L0 P0 : Nat} (hL0 : (L0, P0) ∈ LX) (a1 : Int32) {s : SM} {Q : Int32 → SM → Prop} (hr : rX4_valueOf s L0 P0 a1) (h : Q (vX4_valueOf s L0 P0 a1) s) : KI MX4_valueOf 1 [.ref L0, .int a1] s Q := by
  refine bX4_valueOf hL0 a1 ?_
  unfold rX4_valueOf at hr
  unfold vX4_valueOf at h
  refine ⟨hr.1, ?_⟩
  replace hr := hr.2
  refine ⟨hr.1, ?_⟩
  replace hr := hr.2
  refine ⟨hr, ?_⟩
  first | exact h | contradiction
set_option maxRecDepth 1000000 in
theorem bX5_keepTold  {s : SM} {Q : SM → Prop} (h : (∀ s1, s1 = (cI s 231 (va_cpy (gI s 230) (gI s 231) ((0 : Int32)).toNatClampNeg ((0 : Int32)).toNatClampNeg ((6 : Int32)).toNatClampNeg)) → Q s1)) : KV MX5_keepTold 1 [.ref 225] s Q := by
  show BV MX5_keepTold 1 0 [(0, .ref 225)] s Q
  refine JT_aload_n (q := 0) dX5_keepTold_0 rfl rfl ?_
  refine JS_getR (x := 230) dX5_keepTold_1 flX5_24 BS_225 (Nat.le_of_ble_eq_true rfl) (Nat.le_of_ble_eq_true rfl) (Or.inr ⟨_, ct_5_6⟩) RF_225_6 ?_
  refine JT_iconst (v := 0) dX5_keepTold_4 ic_0 ?_
  refine JT_aload_n (q := 0) dX5_keepTold_5 rfl rfl ?_
  refine JS_getR (x := 231) dX5_keepTold_6 flX5_27 BS_225 (Nat.le_of_ble_eq_true rfl) (Nat.le_of_ble_eq_true rfl) (Or.inr ⟨_, ct_5_7⟩) RF_225_7 ?_
  refine JT_iconst (v := 0) dX5_keepTold_9 ic_0 ?_
  refine JT_bipush (v := 6) dX5_keepTold_10 bp_6 ?_
  refine JS_copyI (d2 := 0) (na := 6) (nb := 6) dX5_keepTold_12 mlX5_65 BS_231 (Nat.le_of_ble_eq_true rfl) (Nat.le_of_ble_eq_true rfl) BS_230 (Nat.le_of_ble_eq_true rfl) (Nat.le_of_ble_eq_true rfl) (by decide) (by decide) (by decide) (by decide) (by decide) (Nat.le_of_ble_eq_true rfl) rfl ?_
  obtain ⟨s1, hs1⟩ : ∃ z, z = (cI s 231 (va_cpy (gI s 230) (gI s 231) ((0 : Int32)).toNatClampNeg ((0 : Int32)).toNatClampNeg ((6 : Int32)).toNatClampNeg)) := ⟨_, rfl⟩
  replace h := h s1 hs1
  rw [← hs1]
  exact JS_vret dX5_keepTold_15 rfl h
set_option maxRecDepth 1000000 in
theorem pX5_keepTold  {s : SM} {Q : SM → Prop} (h : Q (mX5_keepTold s )) : KV MX5_keepTold 1 [.ref 225] s Q := by
  refine bX5_keepTold  ?_
  unfold mX5_keepTold at h
  intro s1 e9
  try rw [← e9] at h
  try dsimp only at h
  first | exact h | contradiction
set_option maxRecDepth 1000000 in
theorem bX6_copyFrom {p0 : Nat} (hp0 : p0 ∈ PX) {p1 : Nat} (hp1 : p1 ∈ PX) {s : SM} {Q : SM → Prop} (h : (∀ s1, s1 = (cL s (p0 + 1) (va_cpy (gL s (p1 + 1)) (gL s (p0 + 1)) ((0 : Int32)).toNatClampNeg ((0 : Int32)).toNatClampNeg ((9 : Int32)).toNatClampNeg)) → (∀ s2, s2 = (cI s1 (p0 + 2) (va_cpy (gI s1 (p1 + 2)) (gI s1 (p0 + 2)) ((0 : Int32)).toNatClampNeg ((0 : Int32)).toNatClampNeg ((9 : Int32)).toNatClampNeg)) → (∀ s3, s3 = (cI s2 (p0 + 3) (va_cpy (gI s2 (p1 + 3)) (gI s2 (p0 + 3)) ((0 : Int32)).toNatClampNeg ((0 : Int32)).toNatClampNeg ((9 : Int32)).toNatClampNeg)) → (∀ s4, s4 = (cL s3 (p0 + 4) (va_cpy (gL s3 (p1 + 4)) (gL s3 (p0 + 4)) ((0 : Int32)).toNatClampNeg ((0 : Int32)).toNatClampNeg ((6 : Int32)).toNatClampNeg)) → (∀ s5, s5 = (cI s4 (p0 + 5) (va_cpy (gI s4 (p1 + 5)) (gI s4 (p0 + 5)) ((0 : Int32)).toNatClampNeg ((0 : Int32)).toNatClampNeg ((6 : Int32)).toNatClampNeg)) → (∀ s6, s6 = (cI s5 (p0 + 6) (va_cpy (gI s5 (p1 + 6)) (gI s5 (p0 + 6)) ((0 : Int32)).toNatClampNeg ((0 : Int32)).toNatClampNeg ((6 : Int32)).toNatClampNeg)) → (∀ s7, s7 = (pI (pI (pI s6 p0 6 (gI s6 p1 6)) p0 7 (gI (pI s6 p0 6 (gI s6 p1 6)) p1 7)) p0 8 (gI (pI (pI s6 p0 6 (gI s6 p1 6)) p0 7 (gI (pI s6 p0 6 (gI s6 p1 6)) p1 7)) p1 8)) → (∀ s8, s8 = (pI (pI (pI s7 p0 9 (gI s7 p1 9)) p0 10 (gI (pI s7 p0 9 (gI s7 p1 9)) p1 10)) p0 11 (gI (pI (pI s7 p0 9 (gI s7 p1 9)) p0 10 (gI (pI s7 p0 9 (gI s7 p1 9)) p1 10)) p1 11)) → Q s8))))))))) : KV MX6_copyFrom 1 [.ref p0, .ref p1] s Q := by
  show BV MX6_copyFrom 1 0 [(0, .ref p0), (1, .ref p1)] s Q
  refine JT_aload_n (q := 1) dX6_copyFrom_0 rfl rfl ?_
  refine JS_getR (x := (p1 + 1)) dX6_copyFrom_1 flX6_9 (pxB hp1) (px2 hp1) (pxN hp1) (Or.inr ⟨_, ct_6_0⟩) (pxR0 hp1) ?_
  refine JT_iconst (v := 0) dX6_copyFrom_4 ic_0 ?_
  refine JT_aload_n (q := 0) dX6_copyFrom_5 rfl rfl ?_
  refine JS_getR (x := (p0 + 1)) dX6_copyFrom_6 flX6_9 (pxB hp0) (px2 hp0) (pxN hp0) (Or.inr ⟨_, ct_6_0⟩) (pxR0 hp0) ?_
  refine JT_iconst (v := 0) dX6_copyFrom_9 ic_0 ?_
  refine JT_bipush (v := 9) dX6_copyFrom_10 bp_9 ?_
  refine JS_copyL (d2 := 0) (na := 9) (nb := 9) dX6_copyFrom_12 mlX6_54 (pxB1 hp0) (px2k hp0 _) (pxNk hp0 (Nat.le_of_ble_eq_true rfl)) (pxB1 hp1) (px2k hp1 _) (pxNk hp1 (Nat.le_of_ble_eq_true rfl)) (by decide) (by decide) (by decide) (by decide) (by decide) (Nat.le_of_ble_eq_true rfl) rfl ?_
  obtain ⟨s1, hs1⟩ : ∃ z, z = (cL s (p0 + 1) (va_cpy (gL s (p1 + 1)) (gL s (p0 + 1)) ((0 : Int32)).toNatClampNeg ((0 : Int32)).toNatClampNeg ((9 : Int32)).toNatClampNeg)) := ⟨_, rfl⟩
  replace h := h s1 hs1
  rw [← hs1]
  refine JT_aload_n (q := 1) dX6_copyFrom_15 rfl rfl ?_
  refine JS_getR (x := (p1 + 2)) dX6_copyFrom_16 flX6_15 (pxB hp1) (px2 hp1) (pxN hp1) (Or.inr ⟨_, ct_6_1⟩) (pxR1 hp1) ?_
  refine JT_iconst (v := 0) dX6_copyFrom_19 ic_0 ?_
  refine JT_aload_n (q := 0) dX6_copyFrom_20 rfl rfl ?_
  refine JS_getR (x := (p0 + 2)) dX6_copyFrom_21 flX6_15 (pxB hp0) (px2 hp0) (pxN hp0) (Or.inr ⟨_, ct_6_1⟩) (pxR1 hp0) ?_
  refine JT_iconst (v := 0) dX6_copyFrom_24 ic_0 ?_
  refine JT_bipush (v := 9) dX6_copyFrom_25 bp_9 ?_
  refine JS_copyI (d2 := 0) (na := 9) (nb := 9) dX6_copyFrom_27 mlX6_54 (pxB2 hp0) (px2k hp0 _) (pxNk hp0 (Nat.le_of_ble_eq_true rfl)) (pxB2 hp1) (px2k hp1 _) (pxNk hp1 (Nat.le_of_ble_eq_true rfl)) (by decide) (by decide) (by decide) (by decide) (by decide) (Nat.le_of_ble_eq_true rfl) rfl ?_
  obtain ⟨s2, hs2⟩ : ∃ z, z = (cI s1 (p0 + 2) (va_cpy (gI s1 (p1 + 2)) (gI s1 (p0 + 2)) ((0 : Int32)).toNatClampNeg ((0 : Int32)).toNatClampNeg ((9 : Int32)).toNatClampNeg)) := ⟨_, rfl⟩
  replace h := h s2 hs2
  rw [← hs2]
  refine JT_aload_n (q := 1) dX6_copyFrom_30 rfl rfl ?_
  refine JS_getR (x := (p1 + 3)) dX6_copyFrom_31 flX6_19 (pxB hp1) (px2 hp1) (pxN hp1) (Or.inr ⟨_, ct_6_2⟩) (pxR2 hp1) ?_
  refine JT_iconst (v := 0) dX6_copyFrom_34 ic_0 ?_
  refine JT_aload_n (q := 0) dX6_copyFrom_35 rfl rfl ?_
  refine JS_getR (x := (p0 + 3)) dX6_copyFrom_36 flX6_19 (pxB hp0) (px2 hp0) (pxN hp0) (Or.inr ⟨_, ct_6_2⟩) (pxR2 hp0) ?_
  refine JT_iconst (v := 0) dX6_copyFrom_39 ic_0 ?_
  refine JT_bipush (v := 9) dX6_copyFrom_40 bp_9 ?_
  refine JS_copyI (d2 := 0) (na := 9) (nb := 9) dX6_copyFrom_42 mlX6_54 (pxB3 hp0) (px2k hp0 _) (pxNk hp0 (Nat.le_of_ble_eq_true rfl)) (pxB3 hp1) (px2k hp1 _) (pxNk hp1 (Nat.le_of_ble_eq_true rfl)) (by decide) (by decide) (by decide) (by decide) (by decide) (Nat.le_of_ble_eq_true rfl) rfl ?_
  obtain ⟨s3, hs3⟩ : ∃ z, z = (cI s2 (p0 + 3) (va_cpy (gI s2 (p1 + 3)) (gI s2 (p0 + 3)) ((0 : Int32)).toNatClampNeg ((0 : Int32)).toNatClampNeg ((9 : Int32)).toNatClampNeg)) := ⟨_, rfl⟩
  replace h := h s3 hs3
  rw [← hs3]
  refine JT_aload_n (q := 1) dX6_copyFrom_45 rfl rfl ?_
  refine JS_getR (x := (p1 + 4)) dX6_copyFrom_46 flX6_22 (pxB hp1) (px2 hp1) (pxN hp1) (Or.inr ⟨_, ct_6_3⟩) (pxR3 hp1) ?_
  refine JT_iconst (v := 0) dX6_copyFrom_49 ic_0 ?_
  refine JT_aload_n (q := 0) dX6_copyFrom_50 rfl rfl ?_
  refine JS_getR (x := (p0 + 4)) dX6_copyFrom_51 flX6_22 (pxB hp0) (px2 hp0) (pxN hp0) (Or.inr ⟨_, ct_6_3⟩) (pxR3 hp0) ?_
  refine JT_iconst (v := 0) dX6_copyFrom_54 ic_0 ?_
  refine JT_bipush (v := 6) dX6_copyFrom_55 bp_6 ?_
  refine JS_copyL (d2 := 0) (na := 6) (nb := 6) dX6_copyFrom_57 mlX6_54 (pxB4 hp0) (px2k hp0 _) (pxNk hp0 (Nat.le_of_ble_eq_true rfl)) (pxB4 hp1) (px2k hp1 _) (pxNk hp1 (Nat.le_of_ble_eq_true rfl)) (by decide) (by decide) (by decide) (by decide) (by decide) (Nat.le_of_ble_eq_true rfl) rfl ?_
  obtain ⟨s4, hs4⟩ : ∃ z, z = (cL s3 (p0 + 4) (va_cpy (gL s3 (p1 + 4)) (gL s3 (p0 + 4)) ((0 : Int32)).toNatClampNeg ((0 : Int32)).toNatClampNeg ((6 : Int32)).toNatClampNeg)) := ⟨_, rfl⟩
  replace h := h s4 hs4
  rw [← hs4]
  refine JT_aload_n (q := 1) dX6_copyFrom_60 rfl rfl ?_
  refine JS_getR (x := (p1 + 5)) dX6_copyFrom_61 flX6_25 (pxB hp1) (px2 hp1) (pxN hp1) (Or.inr ⟨_, ct_6_4⟩) (pxR4 hp1) ?_
  refine JT_iconst (v := 0) dX6_copyFrom_64 ic_0 ?_
  refine JT_aload_n (q := 0) dX6_copyFrom_65 rfl rfl ?_
  refine JS_getR (x := (p0 + 5)) dX6_copyFrom_66 flX6_25 (pxB hp0) (px2 hp0) (pxN hp0) (Or.inr ⟨_, ct_6_4⟩) (pxR4 hp0) ?_
  refine JT_iconst (v := 0) dX6_copyFrom_69 ic_0 ?_
  refine JT_bipush (v := 6) dX6_copyFrom_70 bp_6 ?_
  refine JS_copyI (d2 := 0) (na := 6) (nb := 6) dX6_copyFrom_72 mlX6_54 (pxB5 hp0) (px2k hp0 _) (pxNk hp0 (Nat.le_of_ble_eq_true rfl)) (pxB5 hp1) (px2k hp1 _) (pxNk hp1 (Nat.le_of_ble_eq_true rfl)) (by decide) (by decide) (by decide) (by decide) (by decide) (Nat.le_of_ble_eq_true rfl) rfl ?_
  obtain ⟨s5, hs5⟩ : ∃ z, z = (cI s4 (p0 + 5) (va_cpy (gI s4 (p1 + 5)) (gI s4 (p0 + 5)) ((0 : Int32)).toNatClampNeg ((0 : Int32)).toNatClampNeg ((6 : Int32)).toNatClampNeg)) := ⟨_, rfl⟩
  replace h := h s5 hs5
  rw [← hs5]
  refine JT_aload_n (q := 1) dX6_copyFrom_75 rfl rfl ?_
  refine JS_getR (x := (p1 + 6)) dX6_copyFrom_76 flX6_28 (pxB hp1) (px2 hp1) (pxN hp1) (Or.inr ⟨_, ct_6_5⟩) (pxR5 hp1) ?_
  refine JT_iconst (v := 0) dX6_copyFrom_79 ic_0 ?_
  refine JT_aload_n (q := 0) dX6_copyFrom_80 rfl rfl ?_
  refine JS_getR (x := (p0 + 6)) dX6_copyFrom_81 flX6_28 (pxB hp0) (px2 hp0) (pxN hp0) (Or.inr ⟨_, ct_6_5⟩) (pxR5 hp0) ?_
  refine JT_iconst (v := 0) dX6_copyFrom_84 ic_0 ?_
  refine JT_bipush (v := 6) dX6_copyFrom_85 bp_6 ?_
  refine JS_copyI (d2 := 0) (na := 6) (nb := 6) dX6_copyFrom_87 mlX6_54 (pxB6 hp0) (px2k hp0 _) (pxNk hp0 (Nat.le_of_ble_eq_true rfl)) (pxB6 hp1) (px2k hp1 _) (pxNk hp1 (Nat.le_of_ble_eq_true rfl)) (by decide) (by decide) (by decide) (by decide) (by decide) (Nat.le_of_ble_eq_true rfl) rfl ?_
  obtain ⟨s6, hs6⟩ : ∃ z, z = (cI s5 (p0 + 6) (va_cpy (gI s5 (p1 + 6)) (gI s5 (p0 + 6)) ((0 : Int32)).toNatClampNeg ((0 : Int32)).toNatClampNeg ((6 : Int32)).toNatClampNeg)) := ⟨_, rfl⟩
  replace h := h s6 hs6
  rw [← hs6]
  refine JT_aload_n (q := 0) dX6_copyFrom_90 rfl rfl ?_
  refine JT_aload_n (q := 1) dX6_copyFrom_91 rfl rfl ?_
  refine JS_getI dX6_copyFrom_92 flX6_35 (pxB hp1) (px2 hp1) (pxN hp1) (Or.inl ct_6_6) ?_
  refine JS_putI dX6_copyFrom_95 flX6_35 (pxB hp0) (px2 hp0) (pxN hp0) ct_6_6 ?_
  refine JT_aload_n (q := 0) dX6_copyFrom_98 rfl rfl ?_
  refine JT_aload_n (q := 1) dX6_copyFrom_99 rfl rfl ?_
  refine JS_getI dX6_copyFrom_100 flX6_38 (pxB hp1) (px2 hp1) (pxN hp1) (Or.inl ct_6_7) ?_
  refine JS_putI dX6_copyFrom_103 flX6_38 (pxB hp0) (px2 hp0) (pxN hp0) ct_6_7 ?_
  refine JT_aload_n (q := 0) dX6_copyFrom_106 rfl rfl ?_
  refine JT_aload_n (q := 1) dX6_copyFrom_107 rfl rfl ?_
  refine JS_getI dX6_copyFrom_108 flX6_31 (pxB hp1) (px2 hp1) (pxN hp1) (Or.inl ct_6_8) ?_
  refine JS_putI dX6_copyFrom_111 flX6_31 (pxB hp0) (px2 hp0) (pxN hp0) ct_6_8 ?_
  obtain ⟨s7, hs7⟩ : ∃ z, z = (pI (pI (pI s6 p0 6 (gI s6 p1 6)) p0 7 (gI (pI s6 p0 6 (gI s6 p1 6)) p1 7)) p0 8 (gI (pI (pI s6 p0 6 (gI s6 p1 6)) p0 7 (gI (pI s6 p0 6 (gI s6 p1 6)) p1 7)) p1 8)) := ⟨_, rfl⟩
  replace h := h s7 hs7
  rw [← hs7]
  refine JT_aload_n (q := 0) dX6_copyFrom_114 rfl rfl ?_
  refine JT_aload_n (q := 1) dX6_copyFrom_115 rfl rfl ?_
  refine JS_getI dX6_copyFrom_116 flX6_41 (pxB hp1) (px2 hp1) (pxN hp1) (Or.inl ct_6_9) ?_
  refine JS_putI dX6_copyFrom_119 flX6_41 (pxB hp0) (px2 hp0) (pxN hp0) ct_6_9 ?_
  refine JT_aload_n (q := 0) dX6_copyFrom_122 rfl rfl ?_
  refine JT_aload_n (q := 1) dX6_copyFrom_123 rfl rfl ?_
  refine JS_getI dX6_copyFrom_124 flX6_44 (pxB hp1) (px2 hp1) (pxN hp1) (Or.inl ct_6_10) ?_
  refine JS_putI dX6_copyFrom_127 flX6_44 (pxB hp0) (px2 hp0) (pxN hp0) ct_6_10 ?_
  refine JT_aload_n (q := 0) dX6_copyFrom_130 rfl rfl ?_
  refine JT_aload_n (q := 1) dX6_copyFrom_131 rfl rfl ?_
  refine JS_getI dX6_copyFrom_132 flX6_60 (pxB hp1) (px2 hp1) (pxN hp1) (Or.inl ct_6_11) ?_
  refine JS_putI dX6_copyFrom_135 flX6_60 (pxB hp0) (px2 hp0) (pxN hp0) ct_6_11 ?_
  obtain ⟨s8, hs8⟩ : ∃ z, z = (pI (pI (pI s7 p0 9 (gI s7 p1 9)) p0 10 (gI (pI s7 p0 9 (gI s7 p1 9)) p1 10)) p0 11 (gI (pI (pI s7 p0 9 (gI s7 p1 9)) p0 10 (gI (pI s7 p0 9 (gI s7 p1 9)) p1 10)) p1 11)) := ⟨_, rfl⟩
  replace h := h s8 hs8
  rw [← hs8]
  exact JS_vret dX6_copyFrom_138 rfl h
set_option maxRecDepth 1000000 in
theorem pX6_copyFrom {p0 : Nat} (hp0 : p0 ∈ PX) {p1 : Nat} (hp1 : p1 ∈ PX) {s : SM} {Q : SM → Prop} (h : Q (mX6_copyFrom s p0 p1)) : KV MX6_copyFrom 1 [.ref p0, .ref p1] s Q := by
  refine bX6_copyFrom hp0 hp1 ?_
  unfold mX6_copyFrom at h
  intro s1 e9
  try rw [← e9] at h
  try dsimp only at h
  intro s2 e9
  try rw [← e9] at h
  try dsimp only at h
  intro s3 e9
  try rw [← e9] at h
  try dsimp only at h
  intro s4 e9
  try rw [← e9] at h
  try dsimp only at h
  intro s5 e9
  try rw [← e9] at h
  try dsimp only at h
  intro s6 e9
  try rw [← e9] at h
  try dsimp only at h
  intro s7 e9
  try rw [← e9] at h
  try dsimp only at h
  intro s8 e9
  try rw [← e9] at h
  try dsimp only at h
  first | exact h | contradiction
set_option maxRecDepth 1000000 in
theorem bX6_dotOn {p0 : Nat} (hp0 : p0 ∈ PX) (a1 : Int32) {s : SM} {Q : Int32 → SM → Prop} (h : vp_in a1 6 ∧ Q (if (gI s (p0 + 5) (a1).toNatClampNeg) < (gI s p0 9) then (gI s (p0 + 5) (a1).toNatClampNeg) else (gI s p0 9)) s) : KI MX6_dotOn 1 [.ref p0, .int a1] s Q := by
  show BI MX6_dotOn 1 0 [(0, .ref p0), (1, .int a1)] s Q
  refine JT_aload_n (q := 0) dX6_dotOn_0 rfl rfl ?_
  refine JS_getI dX6_dotOn_1 flX6_41 (pxB hp0) (px2 hp0) (pxN hp0) (Or.inl ct_6_9) ?_
  refine JT_aload_n (q := 0) dX6_dotOn_4 rfl rfl ?_
  refine JS_getR (x := (p0 + 5)) dX6_dotOn_5 flX6_25 (pxB hp0) (px2 hp0) (pxN hp0) (Or.inr ⟨_, ct_6_4⟩) (pxR4 hp0) ?_
  refine JT_iload_n (q := 1) dX6_dotOn_8 rfl rfl ?_
  obtain ⟨o1, h⟩ := h
  refine JS_iald dX6_dotOn_9 (pxB5 hp0) (px2k hp0 _) (pxNk hp0 (Nat.le_of_ble_eq_true rfl)) o1 ?_
  refine JT_mmin (d2 := 0) dX6_dotOn_10 mlX6_70 (Nat.le_of_ble_eq_true rfl) rfl ?_
  exact JS_iret dX6_dotOn_13 rfl rfl h
set_option maxRecDepth 1000000 in
theorem pX6_dotOn {p0 : Nat} (hp0 : p0 ∈ PX) (a1 : Int32) {s : SM} {Q : Int32 → SM → Prop} (hr : rX6_dotOn s p0 a1) (h : Q (vX6_dotOn s p0 a1) s) : KI MX6_dotOn 1 [.ref p0, .int a1] s Q := by
  refine bX6_dotOn hp0 a1 ?_
  unfold rX6_dotOn at hr
  unfold vX6_dotOn at h
  refine ⟨hr, ?_⟩
  first | exact h | contradiction
set_option maxRecDepth 1000000 in
theorem bX6_hasDealers {p0 : Nat} (hp0 : p0 ∈ PX) (a1 : Int32) (a2 : Int32) (a3 : Int32) {s : SM} {Q : Int32 → SM → Prop} (h : (((vX6_hasBody s p0 a1) = 0 → Q (0 : Int32) s) ∧ (¬ (vX6_hasBody s p0 a1) = 0 → (((vX6_hasBody s p0 a2) = 0 → Q (0 : Int32) s) ∧ (¬ (vX6_hasBody s p0 a2) = 0 → Q (if (vX6_hasKind s p0 a3) = 0 then (0 : Int32) else (1 : Int32)) s))))) : KI MX6_hasDealers 1 [.ref p0, .int a1, .int a2, .int a3] s Q := by
  show BI MX6_hasDealers 1 0 [(0, .ref p0), (1, .int a1), (2, .int a2), (3, .int a3)] s Q
  refine JT_aload_n (q := 0) dX6_hasDealers_0 rfl rfl ?_
  refine JT_iload_n (q := 1) dX6_hasDealers_1 rfl rfl ?_
  refine JS_callVI (M' := MX6_hasBody) (d' := 0) (As := [.int a1]) (rest := []) (P := (fun zv9 wm9 => (vX6_hasBody s p0 a1) = zv9 ∧ s = wm9)) dX6_hasDealers_2 cvX6_63 okX6_hasBody rfl (Nat.le_of_ble_eq_true rfl) (pxB hp0) (px2 hp0) (pxN hp0) hci_6 (Nat.le_of_ble_eq_true rfl) (Nat.le_of_ble_eq_true rfl) (pX6_hasBody hp0 (a1)  ⟨rfl, rfl⟩) (fun zv9 wm9 hq9 => ?_)
  obtain ⟨rfl, rfl⟩ := hq9
  refine JT_if_eq (tgt := 28) dX6_hasDealers_5 (by decide) (fun hc6 => ?_) (fun hc6 => ?_)
  · have h := h.1 hc6
    refine JT_iconst (v := 0) dX6_hasDealers_28 ic_0 ?_
    exact JS_iret dX6_hasDealers_29 rfl (n01 (Or.inl rfl)) h
  · have h := h.2 hc6
    refine JT_aload_n (q := 0) dX6_hasDealers_8 rfl rfl ?_
    refine JT_iload_n (q := 2) dX6_hasDealers_9 rfl rfl ?_
    refine JS_callVI (M' := MX6_hasBody) (d' := 0) (As := [.int a2]) (rest := []) (P := (fun zv9 wm9 => (vX6_hasBody s p0 a2) = zv9 ∧ s = wm9)) dX6_hasDealers_10 cvX6_63 okX6_hasBody rfl (Nat.le_of_ble_eq_true rfl) (pxB hp0) (px2 hp0) (pxN hp0) hci_6 (Nat.le_of_ble_eq_true rfl) (Nat.le_of_ble_eq_true rfl) (pX6_hasBody hp0 (a2)  ⟨rfl, rfl⟩) (fun zv9 wm9 hq9 => ?_)
    obtain ⟨rfl, rfl⟩ := hq9
    refine JT_if_eq (tgt := 28) dX6_hasDealers_13 (by decide) (fun hc4 => ?_) (fun hc4 => ?_)
    · have h := h.1 hc4
      refine JT_iconst (v := 0) dX6_hasDealers_28 ic_0 ?_
      exact JS_iret dX6_hasDealers_29 rfl (n01 (Or.inl rfl)) h
    · have h := h.2 hc4
      refine JT_aload_n (q := 0) dX6_hasDealers_16 rfl rfl ?_
      refine JT_iload_n (q := 3) dX6_hasDealers_17 rfl rfl ?_
      refine JS_callVI (M' := MX6_hasKind) (d' := 0) (As := [.int a3]) (rest := []) (P := (fun zv9 wm9 => (vX6_hasKind s p0 a3) = zv9 ∧ s = wm9)) dX6_hasDealers_18 cvX6_67 okX6_hasKind rfl (Nat.le_of_ble_eq_true rfl) (pxB hp0) (px2 hp0) (pxN hp0) hci_6 (Nat.le_of_ble_eq_true rfl) (Nat.le_of_ble_eq_true rfl) (pX6_hasKind hp0 (a3)  ⟨rfl, rfl⟩) (fun zv9 wm9 hq9 => ?_)
      obtain ⟨rfl, rfl⟩ := hq9
      have hj1 : ∀ v : Int32, v = (if (vX6_hasKind s p0 a3) = 0 then (0 : Int32) else (1 : Int32)) → JT MX6_hasDealers 1 0 0 29 [(0, .ref p0), (1, .int a1), (2, .int a2), (3, .int a3)] [.int v] (std s) (KQ Q) := by
        intro v hv
        subst hv
        exact JS_iret dX6_hasDealers_29 rfl (n01 (i01 (Or.inl rfl) (Or.inr rfl))) h
      refine JT_if_eq (tgt := 28) dX6_hasDealers_21 (by decide) (fun hc2 => ?_) (fun hc2 => ?_)
      · refine JT_iconst (v := 0) dX6_hasDealers_28 ic_0 ?_
        exact hj1 _ (by rw [if_pos hc2])
      · refine JT_iconst (v := 1) dX6_hasDealers_24 ic_1 ?_
        refine JT_goto (tgt := 29) dX6_hasDealers_25 (by decide) ?_
        exact hj1 _ (by rw [if_neg hc2])
set_option maxRecDepth 1000000 in
theorem zX6_hasDealers (s : SM) (p0 : Nat) (a1 : Int32) (a2 : Int32) (a3 : Int32) : vX6_hasDealers s p0 a1 a2 a3 = 0 ∨ vX6_hasDealers s p0 a1 a2 a3 = 1 := (i01 (Or.inl rfl) (i01 (Or.inl rfl) (i01 (Or.inl rfl) (Or.inr rfl))))
set_option maxRecDepth 1000000 in
theorem pX6_hasDealers {p0 : Nat} (hp0 : p0 ∈ PX) (a1 : Int32) (a2 : Int32) (a3 : Int32) {s : SM} {Q : Int32 → SM → Prop} (h : Q (vX6_hasDealers s p0 a1 a2 a3) s) : KI MX6_hasDealers 1 [.ref p0, .int a1, .int a2, .int a3] s Q := by
  refine bX6_hasDealers hp0 a1 a2 a3 ?_
  unfold vX6_hasDealers at h
  refine ⟨fun c => ?_, fun c => ?_⟩
  · replace h := qlp c h
    first | exact h | contradiction
  · replace h := qln c h
    refine ⟨fun c => ?_, fun c => ?_⟩
    · replace h := qlp c h
      first | exact h | contradiction
    · replace h := qln c h
      first | exact h | contradiction
set_option maxRecDepth 1000000 in
theorem bX6_sortTold  {s : SM} {Q : Int32 → SM → Prop} (h : (((vX9_says s (28270047624193380 : Int64)) = 0 → (((vX9_says s (114767640814948 : Int64)) = 0 → (((vX9_says s (439721161573 : Int64)) = 0 → Q (if (vX9_says s (457135713908 : Int64)) = 0 then (0 : Int32) else (4 : Int32)) s) ∧ (¬ (vX9_says s (439721161573 : Int64)) = 0 → Q (3 : Int32) s))) ∧ (¬ (vX9_says s (114767640814948 : Int64)) = 0 → Q (2 : Int32) s))) ∧ (¬ (vX9_says s (28270047624193380 : Int64)) = 0 → Q (1 : Int32) s))) : KI MX6_sortTold 1 [.ref 3] s Q := by
  show BI MX6_sortTold 1 0 [(0, .ref 3)] s Q
  refine JT_aload_n (q := 0) dX6_sortTold_0 rfl rfl ?_
  refine JT_ldc2 dX6_sortTold_1 kwX6_155 ?_
  refine JS_callVI (M' := MX9_says) (d' := 0) (As := [.long (28270047624193380 : Int64)]) (rest := []) (P := (fun zv9 wm9 => (vX9_says s (28270047624193380 : Int64)) = zv9 ∧ s = wm9)) dX6_sortTold_4 cvX6_100 okX9_says rfl (Nat.le_of_ble_eq_true rfl) BS_3 (Nat.le_of_ble_eq_true rfl) (Nat.le_of_ble_eq_true rfl) hci_9 (Nat.le_of_ble_eq_true rfl) (Nat.le_of_ble_eq_true rfl) (pX9_says  ((28270047624193380 : Int64))  ⟨rfl, rfl⟩) (fun zv9 wm9 hq9 => ?_)
  obtain ⟨rfl, rfl⟩ := hq9
  refine JT_if_eq (tgt := 12) dX6_sortTold_7 (by decide) (fun hc8 => ?_) (fun hc8 => ?_)
  · have h := h.1 hc8
    refine JT_aload_n (q := 0) dX6_sortTold_12 rfl rfl ?_
    refine JT_ldc2 dX6_sortTold_13 kwX6_157 ?_
    refine JS_callVI (M' := MX9_says) (d' := 0) (As := [.long (114767640814948 : Int64)]) (rest := []) (P := (fun zv9 wm9 => (vX9_says s (114767640814948 : Int64)) = zv9 ∧ s = wm9)) dX6_sortTold_16 cvX6_100 okX9_says rfl (Nat.le_of_ble_eq_true rfl) BS_3 (Nat.le_of_ble_eq_true rfl) (Nat.le_of_ble_eq_true rfl) hci_9 (Nat.le_of_ble_eq_true rfl) (Nat.le_of_ble_eq_true rfl) (pX9_says  ((114767640814948 : Int64))  ⟨rfl, rfl⟩) (fun zv9 wm9 hq9 => ?_)
    obtain ⟨rfl, rfl⟩ := hq9
    refine JT_if_eq (tgt := 24) dX6_sortTold_19 (by decide) (fun hc6 => ?_) (fun hc6 => ?_)
    · have h := h.1 hc6
      refine JT_aload_n (q := 0) dX6_sortTold_24 rfl rfl ?_
      refine JT_ldc2 dX6_sortTold_25 kwX6_159 ?_
      refine JS_callVI (M' := MX9_says) (d' := 0) (As := [.long (439721161573 : Int64)]) (rest := []) (P := (fun zv9 wm9 => (vX9_says s (439721161573 : Int64)) = zv9 ∧ s = wm9)) dX6_sortTold_28 cvX6_100 okX9_says rfl (Nat.le_of_ble_eq_true rfl) BS_3 (Nat.le_of_ble_eq_true rfl) (Nat.le_of_ble_eq_true rfl) hci_9 (Nat.le_of_ble_eq_true rfl) (Nat.le_of_ble_eq_true rfl) (pX9_says  ((439721161573 : Int64))  ⟨rfl, rfl⟩) (fun zv9 wm9 hq9 => ?_)
      obtain ⟨rfl, rfl⟩ := hq9
      refine JT_if_eq (tgt := 36) dX6_sortTold_31 (by decide) (fun hc4 => ?_) (fun hc4 => ?_)
      · have h := h.1 hc4
        refine JT_aload_n (q := 0) dX6_sortTold_36 rfl rfl ?_
        refine JT_ldc2 dX6_sortTold_37 kwX6_161 ?_
        refine JS_callVI (M' := MX9_says) (d' := 0) (As := [.long (457135713908 : Int64)]) (rest := []) (P := (fun zv9 wm9 => (vX9_says s (457135713908 : Int64)) = zv9 ∧ s = wm9)) dX6_sortTold_40 cvX6_100 okX9_says rfl (Nat.le_of_ble_eq_true rfl) BS_3 (Nat.le_of_ble_eq_true rfl) (Nat.le_of_ble_eq_true rfl) hci_9 (Nat.le_of_ble_eq_true rfl) (Nat.le_of_ble_eq_true rfl) (pX9_says  ((457135713908 : Int64))  ⟨rfl, rfl⟩) (fun zv9 wm9 hq9 => ?_)
        obtain ⟨rfl, rfl⟩ := hq9
        have hj1 : ∀ v : Int32, v = (if (vX9_says s (457135713908 : Int64)) = 0 then (0 : Int32) else (4 : Int32)) → JT MX6_sortTold 1 0 0 51 [(0, .ref 3)] [.int v] (std s) (KQ Q) := by
          intro v hv
          subst hv
          exact JS_iret dX6_sortTold_51 rfl rfl h
        refine JT_if_eq (tgt := 50) dX6_sortTold_43 (by decide) (fun hc2 => ?_) (fun hc2 => ?_)
        · refine JT_iconst (v := 0) dX6_sortTold_50 ic_0 ?_
          exact hj1 _ (by rw [if_pos hc2])
        · refine JT_iconst (v := 4) dX6_sortTold_46 ic_4 ?_
          refine JT_goto (tgt := 51) dX6_sortTold_47 (by decide) ?_
          exact hj1 _ (by rw [if_neg hc2])
      · have h := h.2 hc4
        refine JT_iconst (v := 3) dX6_sortTold_34 ic_3 ?_
        exact JS_iret dX6_sortTold_35 rfl rfl h
    · have h := h.2 hc6
      refine JT_iconst (v := 2) dX6_sortTold_22 ic_2 ?_
      exact JS_iret dX6_sortTold_23 rfl rfl h
  · have h := h.2 hc8
    refine JT_iconst (v := 1) dX6_sortTold_10 ic_1 ?_
    exact JS_iret dX6_sortTold_11 rfl rfl h
set_option maxRecDepth 1000000 in
theorem pX6_sortTold  {s : SM} {Q : Int32 → SM → Prop} (h : Q (vX6_sortTold s ) s) : KI MX6_sortTold 1 [.ref 3] s Q := by
  refine bX6_sortTold  ?_
  unfold vX6_sortTold at h
  refine ⟨fun c => ?_, fun c => ?_⟩
  · replace h := qlp c h
    refine ⟨fun c => ?_, fun c => ?_⟩
    · replace h := qlp c h
      refine ⟨fun c => ?_, fun c => ?_⟩
      · replace h := qlp c h
        first | exact h | contradiction
      · replace h := qln c h
        first | exact h | contradiction
    · replace h := qln c h
      first | exact h | contradiction
  · replace h := qln c h
    first | exact h | contradiction
set_option maxRecDepth 1000000 in
theorem bX7_offer (a1 : Int32) (a2 : Int32) (a3 : Int32) {s : SM} {Q : SM → Prop} (h : (((vX7_isBetter s a1 a3) = 0 → Q s) ∧ (¬ (vX7_isBetter s a1 a3) = 0 → (∀ s1, s1 = (cI s 219 (va_cpy (gI s 220) (gI s 219) ((0 : Int32)).toNatClampNeg ((0 : Int32)).toNatClampNeg ((5 : Int32)).toNatClampNeg)) → Q (pI (pI (pI s1 218 1 a1) 218 3 a2) 218 2 a3))))) : KV MX7_offer 1 [.ref 218, .int a1, .int a2, .int a3] s Q := by
  show BV MX7_offer 1 0 [(0, .ref 218), (1, .int a1), (2, .int a2), (3, .int a3)] s Q
  refine JT_aload_n (q := 0) dX7_offer_0 rfl rfl ?_
  refine JT_iload_n (q := 1) dX7_offer_1 rfl rfl ?_
  refine JT_iload_n (q := 3) dX7_offer_2 rfl rfl ?_
  refine JS_callVI (M' := MX7_isBetter) (d' := 0) (As := [.int a1, .int a3]) (rest := []) (P := (fun zv9 wm9 => (vX7_isBetter s a1 a3) = zv9 ∧ s = wm9)) dX7_offer_3 cvX7_111 okX7_isBetter rfl (Nat.le_of_ble_eq_true rfl) BS_218 (Nat.le_of_ble_eq_true rfl) (Nat.le_of_ble_eq_true rfl) hci_7 (Nat.le_of_ble_eq_true rfl) (Nat.le_of_ble_eq_true rfl) (pX7_isBetter  (a1) (a3)  ⟨rfl, rfl⟩) (fun zv9 wm9 hq9 => ?_)
  obtain ⟨rfl, rfl⟩ := hq9
  refine JT_if_eq (tgt := 38) dX7_offer_6 (by decide) (fun hc2 => ?_) (fun hc2 => ?_)
  · have h := h.1 hc2
    exact JS_vret dX7_offer_38 rfl h
  · have h := h.2 hc2
    refine JT_aload_n (q := 0) dX7_offer_9 rfl rfl ?_
    refine JS_getR (x := 220) dX7_offer_10 flX7_15 BS_218 (Nat.le_of_ble_eq_true rfl) (Nat.le_of_ble_eq_true rfl) (Or.inr ⟨_, ct_7_5⟩) RF_218_5 ?_
    refine JT_iconst (v := 0) dX7_offer_13 ic_0 ?_
    refine JT_aload_n (q := 0) dX7_offer_14 rfl rfl ?_
    refine JS_getR (x := 219) dX7_offer_15 flX7_9 BS_218 (Nat.le_of_ble_eq_true rfl) (Nat.le_of_ble_eq_true rfl) (Or.inr ⟨_, ct_7_0⟩) RF_218_0 ?_
    refine JT_iconst (v := 0) dX7_offer_18 ic_0 ?_
    refine JT_iconst (v := 5) dX7_offer_19 ic_5 ?_
    refine JS_copyI (d2 := 0) (na := 5) (nb := 5) dX7_offer_20 mlX7_34 BS_219 (Nat.le_of_ble_eq_true rfl) (Nat.le_of_ble_eq_true rfl) BS_220 (Nat.le_of_ble_eq_true rfl) (Nat.le_of_ble_eq_true rfl) (by decide) (by decide) (by decide) (by decide) (by decide) (Nat.le_of_ble_eq_true rfl) rfl ?_
    obtain ⟨s1, hs1⟩ : ∃ z, z = (cI s 219 (va_cpy (gI s 220) (gI s 219) ((0 : Int32)).toNatClampNeg ((0 : Int32)).toNatClampNeg ((5 : Int32)).toNatClampNeg)) := ⟨_, rfl⟩
    replace h := h s1 hs1
    rw [← hs1]
    refine JT_aload_n (q := 0) dX7_offer_23 rfl rfl ?_
    refine JT_iload_n (q := 1) dX7_offer_24 rfl rfl ?_
    refine JS_putI dX7_offer_25 flX7_61 BS_218 (Nat.le_of_ble_eq_true rfl) (Nat.le_of_ble_eq_true rfl) ct_7_1 ?_
    refine JT_aload_n (q := 0) dX7_offer_28 rfl rfl ?_
    refine JT_iload_n (q := 2) dX7_offer_29 rfl rfl ?_
    refine JS_putI dX7_offer_30 flX7_82 BS_218 (Nat.le_of_ble_eq_true rfl) (Nat.le_of_ble_eq_true rfl) ct_7_3 ?_
    refine JT_aload_n (q := 0) dX7_offer_33 rfl rfl ?_
    refine JT_iload_n (q := 3) dX7_offer_34 rfl rfl ?_
    refine JS_putI dX7_offer_35 flX7_79 BS_218 (Nat.le_of_ble_eq_true rfl) (Nat.le_of_ble_eq_true rfl) ct_7_2 ?_
    exact JS_vret dX7_offer_38 rfl h
set_option maxRecDepth 1000000 in
theorem pX7_offer (a1 : Int32) (a2 : Int32) (a3 : Int32) {s : SM} {Q : SM → Prop} (h : Q (mX7_offer s a1 a2 a3)) : KV MX7_offer 1 [.ref 218, .int a1, .int a2, .int a3] s Q := by
  refine bX7_offer a1 a2 a3 ?_
  unfold mX7_offer at h
  refine ⟨fun c => ?_, fun c => ?_⟩
  · replace h := q1p c h
    first | exact h | contradiction
  · replace h := q1n c h
    intro s1 e9
    try rw [← e9] at h
    try dsimp only at h
    first | exact h | contradiction
set_option maxRecDepth 1000000 in
theorem bX9_isAllRead  {s : SM} {Q : Int32 → SM → Prop} (h : (((gI s 3 1) ≤ (600 : Int32) → Q (1 : Int32) s) ∧ (¬ (gI s 3 1) ≤ (600 : Int32) → Q (if (vX9_refuse s (1 : Int32)) = 0 then (0 : Int32) else (1 : Int32)) (mX9_refuse s (1 : Int32))))) : KI MX9_isAllRead 1 [.ref 3] s Q := by
  show BI MX9_isAllRead 1 0 [(0, .ref 3)] s Q
  refine JT_aload_n (q := 0) dX9_isAllRead_0 rfl rfl ?_
  refine JS_getI dX9_isAllRead_1 flX9_15 BS_3 (Nat.le_of_ble_eq_true rfl) (Nat.le_of_ble_eq_true rfl) (Or.inl ct_9_1) ?_
  refine JT_sipush (v := 600) dX9_isAllRead_4 sp_600 ?_
  refine JT_icmp_le (tgt := 18) dX9_isAllRead_7 (by decide) (fun hc4 => ?_) (fun hc4 => ?_)
  · have h := h.1 hc4
    refine JT_iconst (v := 1) dX9_isAllRead_18 ic_1 ?_
    refine JT_goto (tgt := 23) dX9_isAllRead_19 (by decide) ?_
    exact JS_iret dX9_isAllRead_23 rfl (n01 (Or.inr rfl)) h
  · have h := h.2 hc4
    refine JT_aload_n (q := 0) dX9_isAllRead_10 rfl rfl ?_
    refine JT_iconst (v := 1) dX9_isAllRead_11 ic_1 ?_
    refine JS_callVI (M' := MX9_refuse) (d' := 0) (As := [.int (1 : Int32)]) (rest := []) (P := (fun zv9 wm9 => (vX9_refuse s (1 : Int32)) = zv9 ∧ (mX9_refuse s (1 : Int32)) = wm9)) dX9_isAllRead_12 cvX9_63 okX9_refuse rfl (Nat.le_of_ble_eq_true rfl) BS_3 (Nat.le_of_ble_eq_true rfl) (Nat.le_of_ble_eq_true rfl) hci_9 (Nat.le_of_ble_eq_true rfl) (Nat.le_of_ble_eq_true rfl) (pX9_refuse  ((1 : Int32))  ⟨rfl, rfl⟩) (fun zv9 wm9 hq9 => ?_)
    obtain ⟨rfl, rfl⟩ := hq9
    have hj1 : ∀ v : Int32, v = (if (vX9_refuse s (1 : Int32)) = 0 then (0 : Int32) else (1 : Int32)) → JT MX9_isAllRead 1 0 0 23 [(0, .ref 3)] [.int v] (std (mX9_refuse s (1 : Int32))) (KQ Q) := by
      intro v hv
      subst hv
      exact JS_iret dX9_isAllRead_23 rfl (n01 (i01 (Or.inl rfl) (Or.inr rfl))) h
    refine JT_if_eq (tgt := 22) dX9_isAllRead_15 (by decide) (fun hc2 => ?_) (fun hc2 => ?_)
    · refine JT_iconst (v := 0) dX9_isAllRead_22 ic_0 ?_
      exact hj1 _ (by rw [if_pos hc2])
    · refine JT_iconst (v := 1) dX9_isAllRead_18 ic_1 ?_
      refine JT_goto (tgt := 23) dX9_isAllRead_19 (by decide) ?_
      exact hj1 _ (by rw [if_neg hc2])
set_option maxRecDepth 1000000 in
theorem zX9_isAllRead (s : SM)  : vX9_isAllRead s  = 0 ∨ vX9_isAllRead s  = 1 := (i01 (Or.inr rfl) (i01 (Or.inl rfl) (Or.inr rfl)))
set_option maxRecDepth 1000000 in
theorem pX9_isAllRead  {s : SM} {Q : Int32 → SM → Prop} (h : Q (vX9_isAllRead s ) (mX9_isAllRead s )) : KI MX9_isAllRead 1 [.ref 3] s Q := by
  refine bX9_isAllRead  ?_
  unfold vX9_isAllRead mX9_isAllRead at h
  refine ⟨fun c => ?_, fun c => ?_⟩
  · replace h := q2p c h
    first | exact h | contradiction
  · replace h := q2n c h
    first | exact h | contradiction
set_option maxRecDepth 1000000 in
theorem bX9_isStop  {s : SM} {Q : Int32 → SM → Prop} (h : (((gI s 3 9) = (3 : Int32) → Q (1 : Int32) s) ∧ (¬ (gI s 3 9) = (3 : Int32) → Q (if (vX9_refuse s (1 : Int32)) = 0 then (0 : Int32) else (1 : Int32)) (mX9_refuse s (1 : Int32))))) : KI MX9_isStop 1 [.ref 3] s Q := by
  show BI MX9_isStop 1 0 [(0, .ref 3)] s Q
  refine JT_aload_n (q := 0) dX9_isStop_0 rfl rfl ?_
  refine JS_getI dX9_isStop_1 flX9_44 BS_3 (Nat.le_of_ble_eq_true rfl) (Nat.le_of_ble_eq_true rfl) (Or.inl ct_9_9) ?_
  refine JT_iconst (v := 3) dX9_isStop_4 ic_3 ?_
  refine JT_icmp_eq (tgt := 16) dX9_isStop_5 (by decide) (fun hc4 => ?_) (fun hc4 => ?_)
  · have h := h.1 hc4
    refine JT_iconst (v := 1) dX9_isStop_16 ic_1 ?_
    refine JT_goto (tgt := 21) dX9_isStop_17 (by decide) ?_
    exact JS_iret dX9_isStop_21 rfl (n01 (Or.inr rfl)) h
  · have h := h.2 hc4
    refine JT_aload_n (q := 0) dX9_isStop_8 rfl rfl ?_
    refine JT_iconst (v := 1) dX9_isStop_9 ic_1 ?_
    refine JS_callVI (M' := MX9_refuse) (d' := 0) (As := [.int (1 : Int32)]) (rest := []) (P := (fun zv9 wm9 => (vX9_refuse s (1 : Int32)) = zv9 ∧ (mX9_refuse s (1 : Int32)) = wm9)) dX9_isStop_10 cvX9_63 okX9_refuse rfl (Nat.le_of_ble_eq_true rfl) BS_3 (Nat.le_of_ble_eq_true rfl) (Nat.le_of_ble_eq_true rfl) hci_9 (Nat.le_of_ble_eq_true rfl) (Nat.le_of_ble_eq_true rfl) (pX9_refuse  ((1 : Int32))  ⟨rfl, rfl⟩) (fun zv9 wm9 hq9 => ?_)
    obtain ⟨rfl, rfl⟩ := hq9
    have hj1 : ∀ v : Int32, v = (if (vX9_refuse s (1 : Int32)) = 0 then (0 : Int32) else (1 : Int32)) → JT MX9_isStop 1 0 0 21 [(0, .ref 3)] [.int v] (std (mX9_refuse s (1 : Int32))) (KQ Q) := by
      intro v hv
      subst hv
      exact JS_iret dX9_isStop_21 rfl (n01 (i01 (Or.inl rfl) (Or.inr rfl))) h
    refine JT_if_eq (tgt := 20) dX9_isStop_13 (by decide) (fun hc2 => ?_) (fun hc2 => ?_)
    · refine JT_iconst (v := 0) dX9_isStop_20 ic_0 ?_
      exact hj1 _ (by rw [if_pos hc2])
    · refine JT_iconst (v := 1) dX9_isStop_16 ic_1 ?_
      refine JT_goto (tgt := 21) dX9_isStop_17 (by decide) ?_
      exact hj1 _ (by rw [if_neg hc2])
set_option maxRecDepth 1000000 in
theorem zX9_isStop (s : SM)  : vX9_isStop s  = 0 ∨ vX9_isStop s  = 1 := (i01 (Or.inr rfl) (i01 (Or.inl rfl) (Or.inr rfl)))
set_option maxRecDepth 1000000 in
theorem pX9_isStop  {s : SM} {Q : Int32 → SM → Prop} (h : Q (vX9_isStop s ) (mX9_isStop s )) : KI MX9_isStop 1 [.ref 3] s Q := by
  refine bX9_isStop  ?_
  unfold vX9_isStop mX9_isStop at h
  refine ⟨fun c => ?_, fun c => ?_⟩
  · replace h := q2p c h
    first | exact h | contradiction
  · replace h := q2n c h
    first | exact h | contradiction
set_option maxRecDepth 1000000 in
theorem bX9_readRun_14 (a1 : Int32) (a2 : Int32) {s : SM} {Q : SM → Prop} (h : (((gI s 3 1) ≤ (gI s 3 7) → BV MX9_readRun 1 138 [(0, .ref 3), (1, .int a1), (2, .int a2)] s Q) ∧ (¬ (gI s 3 1) ≤ (gI s 3 7) → rX9_byteOr s (gI s 3 7) (0 : Int32) ∧ ((¬ (vX9_isLetter s (vX9_byteOr s (gI s 3 7) (0 : Int32))) = 0 → BV MX9_readRun 1 55 [(0, .ref 3), (1, .int a1), (2, .int a2)] s Q) ∧ ((vX9_isLetter s (vX9_byteOr s (gI s 3 7) (0 : Int32))) = 0 → rX9_byteOr s (gI s 3 7) (0 : Int32) ∧ (((vX9_isDigit s (vX9_byteOr s (gI s 3 7) (0 : Int32))) = 0 → BV MX9_readRun 1 138 [(0, .ref 3), (1, .int a1), (2, .int a2)] s Q) ∧ (¬ (vX9_isDigit s (vX9_byteOr s (gI s 3 7) (0 : Int32))) = 0 → BV MX9_readRun 1 55 [(0, .ref 3), (1, .int a1), (2, .int a2)] s Q))))))) : BV MX9_readRun 1 14 [(0, .ref 3), (1, .int a1), (2, .int a2)] s Q := by
  refine JT_aload_n (q := 0) dX9_readRun_14 rfl rfl ?_
  refine JS_getI dX9_readRun_15 flX9_19 BS_3 (Nat.le_of_ble_eq_true rfl) (Nat.le_of_ble_eq_true rfl) (Or.inl ct_9_7) ?_
  refine JT_aload_n (q := 0) dX9_readRun_18 rfl rfl ?_
  refine JS_getI dX9_readRun_19 flX9_15 BS_3 (Nat.le_of_ble_eq_true rfl) (Nat.le_of_ble_eq_true rfl) (Or.inl ct_9_1) ?_
  refine JT_icmp_ge (tgt := 138) dX9_readRun_22 (by decide) (fun hc7 => ?_) (fun hc7 => ?_)
  · have h := h.1 hc7
    exact JT_sub [0, 1, 2] rfl h
  · have h := h.2 hc7
    refine JT_aload_n (q := 0) dX9_readRun_25 rfl rfl ?_
    refine JT_aload_n (q := 0) dX9_readRun_26 rfl rfl ?_
    refine JS_getI dX9_readRun_27 flX9_19 BS_3 (Nat.le_of_ble_eq_true rfl) (Nat.le_of_ble_eq_true rfl) (Or.inl ct_9_7) ?_
    refine JT_iconst (v := 0) dX9_readRun_30 ic_0 ?_
    obtain ⟨o6, h⟩ := h
    refine JS_callVI (M' := MX9_byteOr) (d' := 0) (As := [.int (gI s 3 7), .int (0 : Int32)]) (rest := []) (P := (fun zv9 wm9 => (vX9_byteOr s (gI s 3 7) (0 : Int32)) = zv9 ∧ s = wm9)) dX9_readRun_31 cvX9_31 okX9_byteOr rfl (Nat.le_of_ble_eq_true rfl) BS_3 (Nat.le_of_ble_eq_true rfl) (Nat.le_of_ble_eq_true rfl) hci_9 (Nat.le_of_ble_eq_true rfl) (Nat.le_of_ble_eq_true rfl) (pX9_byteOr  ((gI s 3 7)) ((0 : Int32)) o6 ⟨rfl, rfl⟩) (fun zv9 wm9 hq9 => ?_)
    obtain ⟨rfl, rfl⟩ := hq9
    refine JS_callSI (M' := MX9_isLetter) (d' := 0) (As := [.int (vX9_byteOr s (gI s 3 7) (0 : Int32))]) (rest := []) (P := (fun zv9 wm9 => (vX9_isLetter s (vX9_byteOr s (gI s 3 7) (0 : Int32))) = zv9 ∧ s = wm9)) dX9_readRun_34 cvX9_47 okX9_isLetter rfl (Nat.le_of_ble_eq_true rfl) (Nat.le_of_ble_eq_true rfl) (Nat.le_of_ble_eq_true rfl) (pX9_isLetter  ((vX9_byteOr s (gI s 3 7) (0 : Int32)))  ⟨rfl, rfl⟩) (fun zv9 wm9 hq9 => ?_)
    obtain ⟨rfl, rfl⟩ := hq9
    refine JT_if_ne (tgt := 55) dX9_readRun_37 (by decide) (fun hc4 => ?_) (fun hc4 => ?_)
    · have h := h.1 hc4
      exact JT_sub [0, 1, 2] rfl h
    · have h := h.2 hc4
      refine JT_aload_n (q := 0) dX9_readRun_40 rfl rfl ?_
      refine JT_aload_n (q := 0) dX9_readRun_41 rfl rfl ?_
      refine JS_getI dX9_readRun_42 flX9_19 BS_3 (Nat.le_of_ble_eq_true rfl) (Nat.le_of_ble_eq_true rfl) (Or.inl ct_9_7) ?_
      refine JT_iconst (v := 0) dX9_readRun_45 ic_0 ?_
      obtain ⟨o3, h⟩ := h
      refine JS_callVI (M' := MX9_byteOr) (d' := 0) (As := [.int (gI s 3 7), .int (0 : Int32)]) (rest := []) (P := (fun zv9 wm9 => (vX9_byteOr s (gI s 3 7) (0 : Int32)) = zv9 ∧ s = wm9)) dX9_readRun_46 cvX9_31 okX9_byteOr rfl (Nat.le_of_ble_eq_true rfl) BS_3 (Nat.le_of_ble_eq_true rfl) (Nat.le_of_ble_eq_true rfl) hci_9 (Nat.le_of_ble_eq_true rfl) (Nat.le_of_ble_eq_true rfl) (pX9_byteOr  ((gI s 3 7)) ((0 : Int32)) o3 ⟨rfl, rfl⟩) (fun zv9 wm9 hq9 => ?_)
      obtain ⟨rfl, rfl⟩ := hq9
      refine JS_callSI (M' := MX9_isDigit) (d' := 0) (As := [.int (vX9_byteOr s (gI s 3 7) (0 : Int32))]) (rest := []) (P := (fun zv9 wm9 => (vX9_isDigit s (vX9_byteOr s (gI s 3 7) (0 : Int32))) = zv9 ∧ s = wm9)) dX9_readRun_49 cvX9_50 okX9_isDigit rfl (Nat.le_of_ble_eq_true rfl) (Nat.le_of_ble_eq_true rfl) (Nat.le_of_ble_eq_true rfl) (pX9_isDigit  ((vX9_byteOr s (gI s 3 7) (0 : Int32)))  ⟨rfl, rfl⟩) (fun zv9 wm9 hq9 => ?_)
      obtain ⟨rfl, rfl⟩ := hq9
      refine JT_if_eq (tgt := 138) dX9_readRun_52 (by decide) (fun hc1 => ?_) (fun hc1 => ?_)
      · have h := h.1 hc1
        exact JT_sub [0, 1, 2] rfl h
      · have h := h.2 hc1
        exact JT_sub [0, 1, 2] rfl h
set_option maxRecDepth 1000000 in
theorem bX9_readRun_55 (a1 : Int32) (a2 : Int32) {s : SM} {Q : SM → Prop} (h : rX9_byteOr s (gI s 3 7) (0 : Int32) ∧ (∀ s1, s1 = (pI (pL s 3 4 (((gL s 3 4) <<< (((8 : Int32)).toInt64 &&& 63)) ||| ((vX9_byteOr s (gI s 3 7) (0 : Int32))).toInt64)) 3 5 (((gI (pL s 3 4 (((gL s 3 4) <<< (((8 : Int32)).toInt64 &&& 63)) ||| ((vX9_byteOr s (gI s 3 7) (0 : Int32))).toInt64)) 3 5) * (10 : Int32)) + ((vX9_byteOr s (gI s 3 7) (0 : Int32)) - (48 : Int32)))) → BV MX9_readRun 1 14 [(0, .ref 3), (1, .int (a1 + (if (vX9_isLetter s (vX9_byteOr s (gI s 3 7) (0 : Int32))) = 0 then (0 : Int32) else (1 : Int32)))), (2, .int (a2 + (if (vX9_isDigit s (vX9_byteOr s (gI s 3 7) (0 : Int32))) = 0 then (0 : Int32) else (1 : Int32))))] (pI s1 3 7 ((gI s1 3 7) + (1 : Int32))) Q)) : BV MX9_readRun 1 55 [(0, .ref 3), (1, .int a1), (2, .int a2)] s Q := by
  refine JT_aload_n (q := 0) dX9_readRun_55 rfl rfl ?_
  refine JT_aload_n (q := 0) dX9_readRun_56 rfl rfl ?_
  refine JS_getI dX9_readRun_57 flX9_19 BS_3 (Nat.le_of_ble_eq_true rfl) (Nat.le_of_ble_eq_true rfl) (Or.inl ct_9_7) ?_
  refine JT_iconst (v := 0) dX9_readRun_60 ic_0 ?_
  obtain ⟨o8, h⟩ := h
  refine JS_callVI (M' := MX9_byteOr) (d' := 0) (As := [.int (gI s 3 7), .int (0 : Int32)]) (rest := []) (P := (fun zv9 wm9 => (vX9_byteOr s (gI s 3 7) (0 : Int32)) = zv9 ∧ s = wm9)) dX9_readRun_61 cvX9_31 okX9_byteOr rfl (Nat.le_of_ble_eq_true rfl) BS_3 (Nat.le_of_ble_eq_true rfl) (Nat.le_of_ble_eq_true rfl) hci_9 (Nat.le_of_ble_eq_true rfl) (Nat.le_of_ble_eq_true rfl) (pX9_byteOr  ((gI s 3 7)) ((0 : Int32)) o8 ⟨rfl, rfl⟩) (fun zv9 wm9 hq9 => ?_)
  obtain ⟨rfl, rfl⟩ := hq9
  refine JT_istore_n (lv' := [(3, .int (vX9_byteOr s (gI s 3 7) (0 : Int32))), (0, .ref 3), (1, .int a1), (2, .int a2)]) dX9_readRun_64 rfl (Nat.le_of_ble_eq_true rfl) rfl ?_
  refine JT_iload_n (q := 2) dX9_readRun_65 rfl rfl ?_
  refine JT_iload_n (q := 0) dX9_readRun_66 rfl rfl ?_
  refine JS_callSI (M' := MX9_isLetter) (d' := 0) (As := [.int (vX9_byteOr s (gI s 3 7) (0 : Int32))]) (rest := [.int a1]) (P := (fun zv9 wm9 => (vX9_isLetter s (vX9_byteOr s (gI s 3 7) (0 : Int32))) = zv9 ∧ s = wm9)) dX9_readRun_67 cvX9_47 okX9_isLetter rfl (Nat.le_of_ble_eq_true rfl) (Nat.le_of_ble_eq_true rfl) (Nat.le_of_ble_eq_true rfl) (pX9_isLetter  ((vX9_byteOr s (gI s 3 7) (0 : Int32)))  ⟨rfl, rfl⟩) (fun zv9 wm9 hq9 => ?_)
  obtain ⟨rfl, rfl⟩ := hq9
  have hj5 : ∀ v : Int32, v = (if (vX9_isLetter s (vX9_byteOr s (gI s 3 7) (0 : Int32))) = 0 then (0 : Int32) else (1 : Int32)) → JT MX9_readRun 1 0 0 78 [(3, .int (vX9_byteOr s (gI s 3 7) (0 : Int32))), (0, .ref 3), (1, .int a1), (2, .int a2)] [.int v, .int a1] (std s) (KQv Q) := by
    intro v hv
    subst hv
    refine JT_iadd dX9_readRun_78 ?_
    refine JT_istore_n (lv' := [(1, .int (a1 + (if (vX9_isLetter s (vX9_byteOr s (gI s 3 7) (0 : Int32))) = 0 then (0 : Int32) else (1 : Int32)))), (3, .int (vX9_byteOr s (gI s 3 7) (0 : Int32))), (0, .ref 3), (2, .int a2)]) dX9_readRun_79 rfl (Nat.le_of_ble_eq_true rfl) rfl ?_
    refine JT_iload_n (q := 3) dX9_readRun_80 rfl rfl ?_
    refine JT_iload_n (q := 1) dX9_readRun_81 rfl rfl ?_
    refine JS_callSI (M' := MX9_isDigit) (d' := 0) (As := [.int (vX9_byteOr s (gI s 3 7) (0 : Int32))]) (rest := [.int a2]) (P := (fun zv9 wm9 => (vX9_isDigit s (vX9_byteOr s (gI s 3 7) (0 : Int32))) = zv9 ∧ s = wm9)) dX9_readRun_82 cvX9_50 okX9_isDigit rfl (Nat.le_of_ble_eq_true rfl) (Nat.le_of_ble_eq_true rfl) (Nat.le_of_ble_eq_true rfl) (pX9_isDigit  ((vX9_byteOr s (gI s 3 7) (0 : Int32)))  ⟨rfl, rfl⟩) (fun zv9 wm9 hq9 => ?_)
    obtain ⟨rfl, rfl⟩ := hq9
    have hj2 : ∀ v : Int32, v = (if (vX9_isDigit s (vX9_byteOr s (gI s 3 7) (0 : Int32))) = 0 then (0 : Int32) else (1 : Int32)) → JT MX9_readRun 1 0 0 93 [(1, .int (a1 + (if (vX9_isLetter s (vX9_byteOr s (gI s 3 7) (0 : Int32))) = 0 then (0 : Int32) else (1 : Int32)))), (3, .int (vX9_byteOr s (gI s 3 7) (0 : Int32))), (0, .ref 3), (2, .int a2)] [.int v, .int a2] (std s) (KQv Q) := by
      intro v hv
      subst hv
      refine JT_iadd dX9_readRun_93 ?_
      refine JT_istore_n (lv' := [(2, .int (a2 + (if (vX9_isDigit s (vX9_byteOr s (gI s 3 7) (0 : Int32))) = 0 then (0 : Int32) else (1 : Int32)))), (1, .int (a1 + (if (vX9_isLetter s (vX9_byteOr s (gI s 3 7) (0 : Int32))) = 0 then (0 : Int32) else (1 : Int32)))), (3, .int (vX9_byteOr s (gI s 3 7) (0 : Int32))), (0, .ref 3)]) dX9_readRun_94 rfl (Nat.le_of_ble_eq_true rfl) rfl ?_
      refine JT_aload_n (q := 3) dX9_readRun_95 rfl rfl ?_
      refine JT_aload_n (q := 3) dX9_readRun_96 rfl rfl ?_
      refine JS_getL dX9_readRun_97 flX9_56 BS_3 (Nat.le_of_ble_eq_true rfl) (Nat.le_of_ble_eq_true rfl) ct_9_4 ?_
      refine JT_bipush (v := 8) dX9_readRun_100 bp_8 ?_
      refine JT_lshl dX9_readRun_102 ?_
      refine JT_iload_n (q := 2) dX9_readRun_103 rfl rfl ?_
      refine JT_i2l dX9_readRun_104 ?_
      refine JT_lor dX9_readRun_105 ?_
      refine JS_putL dX9_readRun_106 flX9_56 BS_3 (Nat.le_of_ble_eq_true rfl) (Nat.le_of_ble_eq_true rfl) ct_9_4 ?_
      refine JT_aload_n (q := 3) dX9_readRun_109 rfl rfl ?_
      refine JT_aload_n (q := 3) dX9_readRun_110 rfl rfl ?_
      refine JS_getI dX9_readRun_111 flX9_60 BS_3 (Nat.le_of_ble_eq_true rfl) (Nat.le_of_ble_eq_true rfl) (Or.inl ct_9_5) ?_
      refine JT_bipush (v := 10) dX9_readRun_114 bp_10 ?_
      refine JT_imul dX9_readRun_116 ?_
      refine JT_iload_n (q := 2) dX9_readRun_117 rfl rfl ?_
      refine JT_bipush (v := 48) dX9_readRun_118 bp_48 ?_
      refine JT_isub dX9_readRun_120 ?_
      refine JT_iadd dX9_readRun_121 ?_
      refine JS_putI dX9_readRun_122 flX9_60 BS_3 (Nat.le_of_ble_eq_true rfl) (Nat.le_of_ble_eq_true rfl) ct_9_5 ?_
      obtain ⟨s1, hs1⟩ : ∃ z, z = (pI (pL s 3 4 (((gL s 3 4) <<< (((8 : Int32)).toInt64 &&& 63)) ||| ((vX9_byteOr s (gI s 3 7) (0 : Int32))).toInt64)) 3 5 (((gI (pL s 3 4 (((gL s 3 4) <<< (((8 : Int32)).toInt64 &&& 63)) ||| ((vX9_byteOr s (gI s 3 7) (0 : Int32))).toInt64)) 3 5) * (10 : Int32)) + ((vX9_byteOr s (gI s 3 7) (0 : Int32)) - (48 : Int32)))) := ⟨_, rfl⟩
      replace h := h s1 hs1
      rw [← hs1]
      refine JT_aload_n (q := 3) dX9_readRun_125 rfl rfl ?_
      refine JT_dup dX9_readRun_126 rfl ?_
      refine JS_getI dX9_readRun_127 flX9_19 BS_3 (Nat.le_of_ble_eq_true rfl) (Nat.le_of_ble_eq_true rfl) (Or.inl ct_9_7) ?_
      refine JT_iconst (v := 1) dX9_readRun_130 ic_1 ?_
      refine JT_iadd dX9_readRun_131 ?_
      refine JS_putI dX9_readRun_132 flX9_19 BS_3 (Nat.le_of_ble_eq_true rfl) (Nat.le_of_ble_eq_true rfl) ct_9_7 ?_
      refine JT_goto (tgt := 14) dX9_readRun_135 (by decide) ?_
      exact JT_sub [3, 1, 0] rfl h
    refine JT_if_eq (tgt := 92) dX9_readRun_85 (by decide) (fun hc3 => ?_) (fun hc3 => ?_)
    · refine JT_iconst (v := 0) dX9_readRun_92 ic_0 ?_
      exact hj2 _ (by rw [if_pos hc3])
    · refine JT_iconst (v := 1) dX9_readRun_88 ic_1 ?_
      refine JT_goto (tgt := 93) dX9_readRun_89 (by decide) ?_
      exact hj2 _ (by rw [if_neg hc3])
  refine JT_if_eq (tgt := 77) dX9_readRun_70 (by decide) (fun hc6 => ?_) (fun hc6 => ?_)
  · refine JT_iconst (v := 0) dX9_readRun_77 ic_0 ?_
    exact hj5 _ (by rw [if_pos hc6])
  · refine JT_iconst (v := 1) dX9_readRun_73 ic_1 ?_
    refine JT_goto (tgt := 78) dX9_readRun_74 (by decide) ?_
    exact hj5 _ (by rw [if_neg hc6])
set_option maxRecDepth 1000000 in
theorem bX9_readRun_138 (a1 : Int32) (a2 : Int32) {s : SM} {Q : SM → Prop} (h : ((¬ a2 = 0 → BV MX9_readRun 1 158 [(0, .ref 3), (1, .int a1), (2, .int a2)] (pI s 3 9 (4 : Int32)) Q) ∧ (a2 = 0 → (((7 : Int32) < a1 → BV MX9_readRun 1 158 [(0, .ref 3), (1, .int a1), (2, .int a2)] (pI s 3 9 (4 : Int32)) Q) ∧ (¬ (7 : Int32) < a1 → BV MX9_readRun 1 158 [(0, .ref 3), (1, .int a1), (2, .int a2)] (pI (pI s 3 9 (4 : Int32)) 3 9 (1 : Int32)) Q))))) : BV MX9_readRun 1 138 [(0, .ref 3), (1, .int a1), (2, .int a2)] s Q := by
  refine JT_aload_n (q := 0) dX9_readRun_138 rfl rfl ?_
  refine JT_iconst (v := 4) dX9_readRun_139 ic_4 ?_
  refine JS_putI dX9_readRun_140 flX9_44 BS_3 (Nat.le_of_ble_eq_true rfl) (Nat.le_of_ble_eq_true rfl) ct_9_9 ?_
  refine JT_iload_n (q := 2) dX9_readRun_143 rfl rfl ?_
  refine JT_if_ne (tgt := 158) dX9_readRun_144 (by decide) (fun hc2 => ?_) (fun hc2 => ?_)
  · have h := h.1 hc2
    exact JT_sub [0, 1, 2] rfl h
  · have h := h.2 hc2
    refine JT_iload_n (q := 1) dX9_readRun_147 rfl rfl ?_
    refine JT_bipush (v := 7) dX9_readRun_148 bp_7 ?_
    refine JT_icmp_gt (tgt := 158) dX9_readRun_150 (by decide) (fun hc1 => ?_) (fun hc1 => ?_)
    · have h := h.1 hc1
      exact JT_sub [0, 1, 2] rfl h
    · have h := h.2 hc1
      refine JT_aload_n (q := 0) dX9_readRun_153 rfl rfl ?_
      refine JT_iconst (v := 1) dX9_readRun_154 ic_1 ?_
      refine JS_putI dX9_readRun_155 flX9_44 BS_3 (Nat.le_of_ble_eq_true rfl) (Nat.le_of_ble_eq_true rfl) ct_9_9 ?_
      exact JT_sub [0, 1, 2] rfl h
set_option maxRecDepth 1000000 in
theorem bX9_readRun_158 (a1 : Int32) (a2 : Int32) {s : SM} {Q : SM → Prop} (h : ((¬ a1 = 0 → Q s) ∧ (a1 = 0 → (((2 : Int32) < a2 → Q s) ∧ (¬ (2 : Int32) < a2 → Q (pI s 3 9 (2 : Int32))))))) : BV MX9_readRun 1 158 [(0, .ref 3), (1, .int a1), (2, .int a2)] s Q := by
  refine JT_iload_n (q := 1) dX9_readRun_158 rfl rfl ?_
  refine JT_if_ne (tgt := 172) dX9_readRun_159 (by decide) (fun hc2 => ?_) (fun hc2 => ?_)
  · have h := h.1 hc2
    exact JS_vret dX9_readRun_172 rfl h
  · have h := h.2 hc2
    refine JT_iload_n (q := 2) dX9_readRun_162 rfl rfl ?_
    refine JT_iconst (v := 2) dX9_readRun_163 ic_2 ?_
    refine JT_icmp_gt (tgt := 172) dX9_readRun_164 (by decide) (fun hc1 => ?_) (fun hc1 => ?_)
    · have h := h.1 hc1
      exact JS_vret dX9_readRun_172 rfl h
    · have h := h.2 hc1
      refine JT_aload_n (q := 0) dX9_readRun_167 rfl rfl ?_
      refine JT_iconst (v := 2) dX9_readRun_168 ic_2 ?_
      refine JS_putI dX9_readRun_169 flX9_44 BS_3 (Nat.le_of_ble_eq_true rfl) (Nat.le_of_ble_eq_true rfl) ct_9_9 ?_
      exact JS_vret dX9_readRun_172 rfl h
set_option maxRecDepth 1000000 in
theorem bX9_readRun  {s : SM} {Q : SM → Prop} (h : BV MX9_readRun 1 14 [(0, .ref 3), (1, .int (0 : Int32)), (2, .int (0 : Int32))] (pI (pL s 3 4 (0 : Int64)) 3 5 (0 : Int32)) Q) : KV MX9_readRun 1 [.ref 3] s Q := by
  show BV MX9_readRun 1 0 [(0, .ref 3)] s Q
  refine JT_iconst (v := 0) dX9_readRun_0 ic_0 ?_
  refine JT_istore_n (lv' := [(1, .int (0 : Int32)), (0, .ref 3)]) dX9_readRun_1 rfl (Nat.le_of_ble_eq_true rfl) rfl ?_
  refine JT_iconst (v := 0) dX9_readRun_2 ic_0 ?_
  refine JT_istore_n (lv' := [(2, .int (0 : Int32)), (1, .int (0 : Int32)), (0, .ref 3)]) dX9_readRun_3 rfl (Nat.le_of_ble_eq_true rfl) rfl ?_
  refine JT_aload_n (q := 2) dX9_readRun_4 rfl rfl ?_
  refine JT_lconst (v := 0) dX9_readRun_5 (by decide) ?_
  refine JS_putL dX9_readRun_6 flX9_56 BS_3 (Nat.le_of_ble_eq_true rfl) (Nat.le_of_ble_eq_true rfl) ct_9_4 ?_
  refine JT_aload_n (q := 2) dX9_readRun_9 rfl rfl ?_
  refine JT_iconst (v := 0) dX9_readRun_10 ic_0 ?_
  refine JS_putI dX9_readRun_11 flX9_60 BS_3 (Nat.le_of_ble_eq_true rfl) (Nat.le_of_ble_eq_true rfl) ct_9_5 ?_
  exact JT_sub [2, 1, 0] rfl h
set_option maxRecDepth 1000000 in
theorem gX9_readRun  : ∀ n : Nat, (∀ (a1 : Int32) (a2 : Int32) (s : SM) (Q : SM → Prop), ((qX9_readRun n).1 s a1 a2) → Q ((lX9_readRun n).1 s a1 a2) → BV MX9_readRun 1 14 [(0, .ref 3), (1, .int a1), (2, .int a2)] s Q) ∧ (∀ (a1 : Int32) (a2 : Int32) (s : SM) (Q : SM → Prop), ((qX9_readRun n).2.1 s a1 a2) → Q ((lX9_readRun n).2.1 s a1 a2) → BV MX9_readRun 1 55 [(0, .ref 3), (1, .int a1), (2, .int a2)] s Q) ∧ (∀ (a1 : Int32) (a2 : Int32) (s : SM) (Q : SM → Prop), ((qX9_readRun n).2.2.1 s a1 a2) → Q ((lX9_readRun n).2.2.1 s a1 a2) → BV MX9_readRun 1 138 [(0, .ref 3), (1, .int a1), (2, .int a2)] s Q) ∧ (∀ (a1 : Int32) (a2 : Int32) (s : SM) (Q : SM → Prop), ((qX9_readRun n).2.2.2 s a1 a2) → Q ((lX9_readRun n).2.2.2 s a1 a2) → BV MX9_readRun 1 158 [(0, .ref 3), (1, .int a1), (2, .int a2)] s Q) := by
  intro n
  induction n with
  | zero => exact ⟨fun _ _ _ _ hq _ => absurd hq id, fun _ _ _ _ hq _ => absurd hq id, fun _ _ _ _ hq _ => absurd hq id, fun _ _ _ _ hq _ => absurd hq id⟩
  | succ n ih =>
    refine ⟨?_, ?_, ?_, ?_⟩
    · intro a1 a2 s Q hr h
      replace hr : uX9_readRun_14 (qX9_readRun n) s a1 a2 := hr
      replace h : Q (tX9_readRun_14 (lX9_readRun n) s a1 a2) := h
      unfold uX9_readRun_14 at hr
      unfold tX9_readRun_14 at h
      refine bX9_readRun_14 a1 a2 ?_
      refine ⟨fun c => ?_, fun c => ?_⟩
      · replace hr := hr.1 c
        replace h := q1p c h
        first | exact ih.2.2.1 a1 a2 _ Q hr h | contradiction
      · replace hr := hr.2 c
        replace h := q1n c h
        refine ⟨hr.1, ?_⟩
        replace hr := hr.2
        refine ⟨fun c => ?_, fun c => ?_⟩
        · replace hr := hr.1 c
          replace h := q1n c h
          first | exact ih.2.1 a1 a2 _ Q hr h | contradiction
        · replace hr := hr.2 c
          replace h := q1p c h
          refine ⟨hr.1, ?_⟩
          replace hr := hr.2
          refine ⟨fun c => ?_, fun c => ?_⟩
          · replace hr := hr.1 c
            replace h := q1p c h
            first | exact ih.2.2.1 a1 a2 _ Q hr h | contradiction
          · replace hr := hr.2 c
            replace h := q1n c h
            first | exact ih.2.1 a1 a2 _ Q hr h | contradiction
    · intro a1 a2 s Q hr h
      replace hr : uX9_readRun_55 (qX9_readRun n) s a1 a2 := hr
      replace h : Q (tX9_readRun_55 (lX9_readRun n) s a1 a2) := h
      unfold uX9_readRun_55 at hr
      unfold tX9_readRun_55 at h
      refine bX9_readRun_55 a1 a2 ?_
      refine ⟨hr.1, ?_⟩
      replace hr := hr.2
      intro s1 e9
      replace hr := hr s1 e9
      try rw [← e9] at h
      try dsimp only at h
      first | exact ih.1 (a1 + (if (vX9_isLetter s (vX9_byteOr s (gI s 3 7) (0 : Int32))) = 0 then (0 : Int32) else (1 : Int32))) (a2 + (if (vX9_isDigit s (vX9_byteOr s (gI s 3 7) (0 : Int32))) = 0 then (0 : Int32) else (1 : Int32))) _ Q hr h | contradiction
    · intro a1 a2 s Q hr h
      replace hr : uX9_readRun_138 (qX9_readRun n) s a1 a2 := hr
      replace h : Q (tX9_readRun_138 (lX9_readRun n) s a1 a2) := h
      unfold uX9_readRun_138 at hr
      unfold tX9_readRun_138 at h
      refine bX9_readRun_138 a1 a2 ?_
      refine ⟨fun c => ?_, fun c => ?_⟩
      · replace hr := hr.1 c
        replace h := q1n c h
        first | exact ih.2.2.2 a1 a2 _ Q hr h | contradiction
      · replace hr := hr.2 c
        replace h := q1p c h
        refine ⟨fun c => ?_, fun c => ?_⟩
        · replace hr := hr.1 c
          replace h := q1p c h
          first | exact ih.2.2.2 a1 a2 _ Q hr h | contradiction
        · replace hr := hr.2 c
          replace h := q1n c h
          first | exact ih.2.2.2 a1 a2 _ Q hr h | contradiction
    · intro a1 a2 s Q hr h
      replace hr : uX9_readRun_158 (qX9_readRun n) s a1 a2 := hr
      replace h : Q (tX9_readRun_158 (lX9_readRun n) s a1 a2) := h
      unfold uX9_readRun_158 at hr
      unfold tX9_readRun_158 at h
      refine bX9_readRun_158 a1 a2 ?_
      refine ⟨fun c => ?_, fun c => ?_⟩
      · replace h := q1n c h
        first | exact h | contradiction
      · replace h := q1p c h
        refine ⟨fun c => ?_, fun c => ?_⟩
        · replace h := q1p c h
          first | exact h | contradiction
        · replace h := q1n c h
          first | exact h | contradiction
set_option maxRecDepth 1000000 in
theorem pX9_readRun  {s : SM} {Q : SM → Prop} (hr : rX9_readRun s ) (h : Q (mX9_readRun s )) : KV MX9_readRun 1 [.ref 3] s Q := by
  replace h : Q (fX9_readRun s ) := h
  unfold rX9_readRun at hr
  unfold fX9_readRun at h
  refine bX9_readRun  ?_
  first | exact (gX9_readRun  FU).1 (0 : Int32) (0 : Int32) _ Q hr h | contradiction
set_option maxRecDepth 1000000 in
theorem bX11_addMark_118 (a1 : Int32) (a2 : Int32) (a3 : Int32) {s : SM} {Q : SM → Prop} (h : rX10_add s (32 : Int32) ∧ vp_in a1 60 ∧ vp_in (gI (mX10_add s (32 : Int32)) 35 (a1).toNatClampNeg) 6 ∧ rX10_addName (mX10_add s (32 : Int32)) (gL (mX10_add s (32 : Int32)) 9 ((gI (mX10_add s (32 : Int32)) 35 (a1).toNatClampNeg)).toNatClampNeg) ∧ (∀ s3, s3 = (mX10_addName (mX10_add s (32 : Int32)) (gL (mX10_add s (32 : Int32)) 9 ((gI (mX10_add s (32 : Int32)) 35 (a1).toNatClampNeg)).toNatClampNeg)) → vp_in a1 60 ∧ ((¬ (gI s3 37 (a1).toNatClampNeg) = (1 : Int32) → BV MX11_addMark 2 173 [(0, .ref 2), (1, .int a1), (2, .int a2), (3, .int a3)] s3 Q) ∧ ((gI s3 37 (a1).toNatClampNeg) = (1 : Int32) → rX10_add s3 (120 : Int32) ∧ BV MX11_addMark 2 173 [(0, .ref 2), (1, .int a1), (2, .int a2), (3, .int a3)] (mX10_add s3 (120 : Int32)) Q)))) : BV MX11_addMark 2 118 [(0, .ref 2), (1, .int a1), (2, .int a2), (3, .int a3)] s Q := by
  refine JT_aload_n (q := 0) dX11_addMark_118 rfl rfl ?_
  refine JS_getR (x := 244) dX11_addMark_119 flX11_93 BS_2 (Nat.le_of_ble_eq_true rfl) (Nat.le_of_ble_eq_true rfl) (Or.inl ⟨_, ct_11_13⟩) RF_2_13 ?_
  refine JT_bipush (v := 32) dX11_addMark_122 bp_32 ?_
  obtain ⟨o8, h⟩ := h
  refine JS_callVV (M' := MX10_add) (d' := 0) (As := [.int (32 : Int32)]) (rest := []) (P := (fun wm9 => (mX10_add s (32 : Int32)) = wm9)) dX11_addMark_124 cvX11_275 okX10_add rfl (Nat.le_of_ble_eq_true rfl) BS_244 (Nat.le_of_ble_eq_true rfl) (Nat.le_of_ble_eq_true rfl) hci_10 (Nat.le_of_ble_eq_true rfl) (Nat.le_of_ble_eq_true rfl) (pX10_add  ((32 : Int32)) o8 rfl) (fun wm9 hq9 => ?_)
  subst hq9
  refine JT_aload_n (q := 0) dX11_addMark_127 rfl rfl ?_
  refine JS_getR (x := 244) dX11_addMark_128 flX11_93 BS_2 (Nat.le_of_ble_eq_true rfl) (Nat.le_of_ble_eq_true rfl) (Or.inl ⟨_, ct_11_13⟩) RF_2_13 ?_
  refine JT_aload_n (q := 0) dX11_addMark_131 rfl rfl ?_
  refine JS_getR (x := 5) dX11_addMark_132 flX11_19 BS_2 (Nat.le_of_ble_eq_true rfl) (Nat.le_of_ble_eq_true rfl) (Or.inl ⟨_, ct_11_1⟩) RF_2_1 ?_
  refine JS_getR (x := 9) dX11_addMark_135 flX11_290 BS_5 (Nat.le_of_ble_eq_true rfl) (Nat.le_of_ble_eq_true rfl) (Or.inr ⟨_, ct_6_3⟩) RF_5_3 ?_
  refine JT_aload_n (q := 0) dX11_addMark_138 rfl rfl ?_
  refine JS_getR (x := 31) dX11_addMark_139 flX11_41 BS_2 (Nat.le_of_ble_eq_true rfl) (Nat.le_of_ble_eq_true rfl) (Or.inl ⟨_, ct_11_5⟩) RF_2_5 ?_
  refine JS_getR (x := 35) dX11_addMark_142 flX11_223 BS_31 (Nat.le_of_ble_eq_true rfl) (Nat.le_of_ble_eq_true rfl) (Or.inr ⟨_, ct_4_3⟩) RF_31_3 ?_
  refine JT_iload_n (q := 1) dX11_addMark_145 rfl rfl ?_
  obtain ⟨o1, h⟩ := h
  refine JS_iald dX11_addMark_146 BS_35 (Nat.le_of_ble_eq_true rfl) (Nat.le_of_ble_eq_true rfl) o1 ?_
  obtain ⟨o2, h⟩ := h
  refine JS_lald dX11_addMark_147 BS_9 (Nat.le_of_ble_eq_true rfl) (Nat.le_of_ble_eq_true rfl) o2 ?_
  obtain ⟨o7, h⟩ := h
  refine JS_callVV (M' := MX10_addName) (d' := 1) (As := [.long (gL (mX10_add s (32 : Int32)) 9 ((gI (mX10_add s (32 : Int32)) 35 (a1).toNatClampNeg)).toNatClampNeg)]) (rest := []) (P := (fun wm9 => (mX10_addName (mX10_add s (32 : Int32)) (gL (mX10_add s (32 : Int32)) 9 ((gI (mX10_add s (32 : Int32)) 35 (a1).toNatClampNeg)).toNatClampNeg)) = wm9)) dX11_addMark_148 cvX11_280 okX10_addName rfl (Nat.le_of_ble_eq_true rfl) BS_244 (Nat.le_of_ble_eq_true rfl) (Nat.le_of_ble_eq_true rfl) hci_10 (Nat.le_of_ble_eq_true rfl) (Nat.le_of_ble_eq_true rfl) (pX10_addName  ((gL (mX10_add s (32 : Int32)) 9 ((gI (mX10_add s (32 : Int32)) 35 (a1).toNatClampNeg)).toNatClampNeg)) o7 rfl) (fun wm9 hq9 => ?_)
  subst hq9
  obtain ⟨s3, hs3⟩ : ∃ z, z = (mX10_addName (mX10_add s (32 : Int32)) (gL (mX10_add s (32 : Int32)) 9 ((gI (mX10_add s (32 : Int32)) 35 (a1).toNatClampNeg)).toNatClampNeg)) := ⟨_, rfl⟩
  replace h := h s3 hs3
  rw [← hs3]
  refine JT_aload_n (q := 0) dX11_addMark_151 rfl rfl ?_
  refine JS_getR (x := 31) dX11_addMark_152 flX11_41 BS_2 (Nat.le_of_ble_eq_true rfl) (Nat.le_of_ble_eq_true rfl) (Or.inl ⟨_, ct_11_5⟩) RF_2_5 ?_
  refine JS_getR (x := 37) dX11_addMark_155 flX11_229 BS_31 (Nat.le_of_ble_eq_true rfl) (Nat.le_of_ble_eq_true rfl) (Or.inr ⟨_, ct_4_5⟩) RF_31_5 ?_
  refine JT_iload_n (q := 1) dX11_addMark_158 rfl rfl ?_
  obtain ⟨o4, h⟩ := h
  refine JS_iald dX11_addMark_159 BS_37 (Nat.le_of_ble_eq_true rfl) (Nat.le_of_ble_eq_true rfl) o4 ?_
  refine JT_iconst (v := 1) dX11_addMark_160 ic_1 ?_
  refine JT_icmp_ne (tgt := 173) dX11_addMark_161 (by decide) (fun hc6 => ?_) (fun hc6 => ?_)
  · have h := h.1 hc6
    exact JT_sub [0, 1, 2, 3] rfl h
  · have h := h.2 hc6
    refine JT_aload_n (q := 0) dX11_addMark_164 rfl rfl ?_
    refine JS_getR (x := 244) dX11_addMark_165 flX11_93 BS_2 (Nat.le_of_ble_eq_true rfl) (Nat.le_of_ble_eq_true rfl) (Or.inl ⟨_, ct_11_13⟩) RF_2_13 ?_
    refine JT_bipush (v := 120) dX11_addMark_168 bp_120 ?_
    obtain ⟨o5, h⟩ := h
    refine JS_callVV (M' := MX10_add) (d' := 0) (As := [.int (120 : Int32)]) (rest := []) (P := (fun wm9 => (mX10_add s3 (120 : Int32)) = wm9)) dX11_addMark_170 cvX11_275 okX10_add rfl (Nat.le_of_ble_eq_true rfl) BS_244 (Nat.le_of_ble_eq_true rfl) (Nat.le_of_ble_eq_true rfl) hci_10 (Nat.le_of_ble_eq_true rfl) (Nat.le_of_ble_eq_true rfl) (pX10_add  ((120 : Int32)) o5 rfl) (fun wm9 hq9 => ?_)
    subst hq9
    exact JT_sub [0, 1, 2, 3] rfl h
set_option maxRecDepth 1000000 in
theorem bX11_addMark_173 (a1 : Int32) (a2 : Int32) (a3 : Int32) {s : SM} {Q : SM → Prop} (h : vp_in a1 60 ∧ ((¬ (gI s 37 (a1).toNatClampNeg) = (2 : Int32) → rX10_add s (59 : Int32) ∧ Q (mX10_add s (59 : Int32))) ∧ ((gI s 37 (a1).toNatClampNeg) = (2 : Int32) → rX10_add s (111 : Int32) ∧ rX10_add (mX10_add s (111 : Int32)) (59 : Int32) ∧ Q (mX10_add (mX10_add s (111 : Int32)) (59 : Int32))))) : BV MX11_addMark 2 173 [(0, .ref 2), (1, .int a1), (2, .int a2), (3, .int a3)] s Q := by
  refine JT_aload_n (q := 0) dX11_addMark_173 rfl rfl ?_
  refine JS_getR (x := 31) dX11_addMark_174 flX11_41 BS_2 (Nat.le_of_ble_eq_true rfl) (Nat.le_of_ble_eq_true rfl) (Or.inl ⟨_, ct_11_5⟩) RF_2_5 ?_
  refine JS_getR (x := 37) dX11_addMark_177 flX11_229 BS_31 (Nat.le_of_ble_eq_true rfl) (Nat.le_of_ble_eq_true rfl) (Or.inr ⟨_, ct_4_5⟩) RF_31_5 ?_
  refine JT_iload_n (q := 1) dX11_addMark_180 rfl rfl ?_
  obtain ⟨o1, h⟩ := h
  refine JS_iald dX11_addMark_181 BS_37 (Nat.le_of_ble_eq_true rfl) (Nat.le_of_ble_eq_true rfl) o1 ?_
  refine JT_iconst (v := 2) dX11_addMark_182 ic_2 ?_
  refine JT_icmp_ne (tgt := 195) dX11_addMark_183 (by decide) (fun hc5 => ?_) (fun hc5 => ?_)
  · have h := h.1 hc5
    refine JT_aload_n (q := 0) dX11_addMark_195 rfl rfl ?_
    refine JS_getR (x := 244) dX11_addMark_196 flX11_93 BS_2 (Nat.le_of_ble_eq_true rfl) (Nat.le_of_ble_eq_true rfl) (Or.inl ⟨_, ct_11_13⟩) RF_2_13 ?_
    refine JT_bipush (v := 59) dX11_addMark_199 bp_59 ?_
    obtain ⟨o2, h⟩ := h
    refine JS_callVV (M' := MX10_add) (d' := 0) (As := [.int (59 : Int32)]) (rest := []) (P := (fun wm9 => (mX10_add s (59 : Int32)) = wm9)) dX11_addMark_201 cvX11_275 okX10_add rfl (Nat.le_of_ble_eq_true rfl) BS_244 (Nat.le_of_ble_eq_true rfl) (Nat.le_of_ble_eq_true rfl) hci_10 (Nat.le_of_ble_eq_true rfl) (Nat.le_of_ble_eq_true rfl) (pX10_add  ((59 : Int32)) o2 rfl) (fun wm9 hq9 => ?_)
    subst hq9
    exact JS_vret dX11_addMark_204 rfl h
  · have h := h.2 hc5
    refine JT_aload_n (q := 0) dX11_addMark_186 rfl rfl ?_
    refine JS_getR (x := 244) dX11_addMark_187 flX11_93 BS_2 (Nat.le_of_ble_eq_true rfl) (Nat.le_of_ble_eq_true rfl) (Or.inl ⟨_, ct_11_13⟩) RF_2_13 ?_
    refine JT_bipush (v := 111) dX11_addMark_190 bp_111 ?_
    obtain ⟨o4, h⟩ := h
    refine JS_callVV (M' := MX10_add) (d' := 0) (As := [.int (111 : Int32)]) (rest := []) (P := (fun wm9 => (mX10_add s (111 : Int32)) = wm9)) dX11_addMark_192 cvX11_275 okX10_add rfl (Nat.le_of_ble_eq_true rfl) BS_244 (Nat.le_of_ble_eq_true rfl) (Nat.le_of_ble_eq_true rfl) hci_10 (Nat.le_of_ble_eq_true rfl) (Nat.le_of_ble_eq_true rfl) (pX10_add  ((111 : Int32)) o4 rfl) (fun wm9 hq9 => ?_)
    subst hq9
    refine JT_aload_n (q := 0) dX11_addMark_195 rfl rfl ?_
    refine JS_getR (x := 244) dX11_addMark_196 flX11_93 BS_2 (Nat.le_of_ble_eq_true rfl) (Nat.le_of_ble_eq_true rfl) (Or.inl ⟨_, ct_11_13⟩) RF_2_13 ?_
    refine JT_bipush (v := 59) dX11_addMark_199 bp_59 ?_
    obtain ⟨o3, h⟩ := h
    refine JS_callVV (M' := MX10_add) (d' := 0) (As := [.int (59 : Int32)]) (rest := []) (P := (fun wm9 => (mX10_add (mX10_add s (111 : Int32)) (59 : Int32)) = wm9)) dX11_addMark_201 cvX11_275 okX10_add rfl (Nat.le_of_ble_eq_true rfl) BS_244 (Nat.le_of_ble_eq_true rfl) (Nat.le_of_ble_eq_true rfl) hci_10 (Nat.le_of_ble_eq_true rfl) (Nat.le_of_ble_eq_true rfl) (pX10_add  ((59 : Int32)) o3 rfl) (fun wm9 hq9 => ?_)
    subst hq9
    exact JS_vret dX11_addMark_204 rfl h
set_option maxRecDepth 1000000 in
theorem bX11_addMark (a1 : Int32) (a2 : Int32) {s : SM} {Q : SM → Prop} (h : ((¬ a2 = 0 → vp_in a1 60 ∧ rX10_add s (if a2 = 0 then (43 : Int32) else (45 : Int32)) ∧ rX10_add (mX10_add s (if a2 = 0 then (43 : Int32) else (45 : Int32))) (32 : Int32) ∧ vp_in (gI s 32 (a1).toNatClampNeg) 9 ∧ rX10_addName (mX10_add (mX10_add s (if a2 = 0 then (43 : Int32) else (45 : Int32))) (32 : Int32)) (gL (mX10_add (mX10_add s (if a2 = 0 then (43 : Int32) else (45 : Int32))) (32 : Int32)) 6 ((gI s 32 (a1).toNatClampNeg)).toNatClampNeg) ∧ (∀ s3, s3 = (mX10_addName (mX10_add (mX10_add s (if a2 = 0 then (43 : Int32) else (45 : Int32))) (32 : Int32)) (gL (mX10_add (mX10_add s (if a2 = 0 then (43 : Int32) else (45 : Int32))) (32 : Int32)) 6 ((gI s 32 (a1).toNatClampNeg)).toNatClampNeg)) → rX10_add s3 (32 : Int32) ∧ rX4_isScarred (mX10_add s3 (32 : Int32)) 31 5 a1 a2 ∧ (((vX4_isScarred (mX10_add s3 (32 : Int32)) 31 5 a1 a2) = 0 → vp_in a1 60 ∧ rX10_addNumber (mX10_add s3 (32 : Int32)) (gI (mX10_add s3 (32 : Int32)) 34 (a1).toNatClampNeg) ∧ BV MX11_addMark 2 118 [(0, .ref 2), (1, .int a1), (2, .int a2), (3, .int (gI s 32 (a1).toNatClampNeg))] (mX10_addNumber (mX10_add s3 (32 : Int32)) (gI (mX10_add s3 (32 : Int32)) 34 (a1).toNatClampNeg)) Q) ∧ (¬ (vX4_isScarred (mX10_add s3 (32 : Int32)) 31 5 a1 a2) = 0 → rX10_add (mX10_add s3 (32 : Int32)) (63 : Int32) ∧ BV MX11_addMark 2 118 [(0, .ref 2), (1, .int a1), (2, .int a2), (3, .int (gI s 32 (a1).toNatClampNeg))] (mX10_add (mX10_add s3 (32 : Int32)) (63 : Int32)) Q)))) ∧ (a2 = 0 → vp_in a1 60 ∧ rX10_add s (if a2 = 0 then (43 : Int32) else (45 : Int32)) ∧ rX10_add (mX10_add s (if a2 = 0 then (43 : Int32) else (45 : Int32))) (32 : Int32) ∧ vp_in (gI s 33 (a1).toNatClampNeg) 9 ∧ rX10_addName (mX10_add (mX10_add s (if a2 = 0 then (43 : Int32) else (45 : Int32))) (32 : Int32)) (gL (mX10_add (mX10_add s (if a2 = 0 then (43 : Int32) else (45 : Int32))) (32 : Int32)) 6 ((gI s 33 (a1).toNatClampNeg)).toNatClampNeg) ∧ (∀ s17, s17 = (mX10_addName (mX10_add (mX10_add s (if a2 = 0 then (43 : Int32) else (45 : Int32))) (32 : Int32)) (gL (mX10_add (mX10_add s (if a2 = 0 then (43 : Int32) else (45 : Int32))) (32 : Int32)) 6 ((gI s 33 (a1).toNatClampNeg)).toNatClampNeg)) → rX10_add s17 (32 : Int32) ∧ rX4_isScarred (mX10_add s17 (32 : Int32)) 31 5 a1 a2 ∧ (((vX4_isScarred (mX10_add s17 (32 : Int32)) 31 5 a1 a2) = 0 → vp_in a1 60 ∧ rX10_addNumber (mX10_add s17 (32 : Int32)) (gI (mX10_add s17 (32 : Int32)) 34 (a1).toNatClampNeg) ∧ BV MX11_addMark 2 118 [(0, .ref 2), (1, .int a1), (2, .int a2), (3, .int (gI s 33 (a1).toNatClampNeg))] (mX10_addNumber (mX10_add s17 (32 : Int32)) (gI (mX10_add s17 (32 : Int32)) 34 (a1).toNatClampNeg)) Q) ∧ (¬ (vX4_isScarred (mX10_add s17 (32 : Int32)) 31 5 a1 a2) = 0 → rX10_add (mX10_add s17 (32 : Int32)) (63 : Int32) ∧ BV MX11_addMark 2 118 [(0, .ref 2), (1, .int a1), (2, .int a2), (3, .int (gI s 33 (a1).toNatClampNeg))] (mX10_add (mX10_add s17 (32 : Int32)) (63 : Int32)) Q)))))) : KV MX11_addMark 2 [.ref 2, .int a1, .int a2] s Q := by
  show BV MX11_addMark 2 0 [(0, .ref 2), (1, .int a1), (2, .int a2)] s Q
  refine JT_iload_n (q := 2) dX11_addMark_0 rfl rfl ?_
  refine JT_if_ne (tgt := 16) dX11_addMark_1 (by decide) (fun hc29 => ?_) (fun hc29 => ?_)
  · have h := h.1 hc29
    refine JT_aload_n (q := 0) dX11_addMark_16 rfl rfl ?_
    refine JS_getR (x := 31) dX11_addMark_17 flX11_41 BS_2 (Nat.le_of_ble_eq_true rfl) (Nat.le_of_ble_eq_true rfl) (Or.inl ⟨_, ct_11_5⟩) RF_2_5 ?_
    refine JS_getR (x := 32) dX11_addMark_20 flX11_214 BS_31 (Nat.le_of_ble_eq_true rfl) (Nat.le_of_ble_eq_true rfl) (Or.inr ⟨_, ct_4_0⟩) RF_31_0 ?_
    refine JT_iload_n (q := 1) dX11_addMark_23 rfl rfl ?_
    obtain ⟨o1, h⟩ := h
    refine JS_iald dX11_addMark_24 BS_32 (Nat.le_of_ble_eq_true rfl) (Nat.le_of_ble_eq_true rfl) o1 ?_
    refine JT_istore_n (lv' := [(3, .int (gI s 32 (a1).toNatClampNeg)), (0, .ref 2), (1, .int a1), (2, .int a2)]) dX11_addMark_25 rfl (Nat.le_of_ble_eq_true rfl) rfl ?_
    refine JT_aload_n (q := 1) dX11_addMark_26 rfl rfl ?_
    refine JS_getR (x := 244) dX11_addMark_27 flX11_93 BS_2 (Nat.le_of_ble_eq_true rfl) (Nat.le_of_ble_eq_true rfl) (Or.inl ⟨_, ct_11_13⟩) RF_2_13 ?_
    refine JT_iload_n (q := 3) dX11_addMark_30 rfl rfl ?_
    have hj13 : ∀ v : Int32, v = (if a2 = 0 then (43 : Int32) else (45 : Int32)) → JT MX11_addMark 2 0 0 41 [(3, .int (gI s 32 (a1).toNatClampNeg)), (0, .ref 2), (1, .int a1), (2, .int a2)] [.int v, .ref 244] (std s) (KQv Q) := by
      intro v hv
      subst hv
      obtain ⟨o12, h⟩ := h
      refine JS_callVV (M' := MX10_add) (d' := 0) (As := [.int (if a2 = 0 then (43 : Int32) else (45 : Int32))]) (rest := []) (P := (fun wm9 => (mX10_add s (if a2 = 0 then (43 : Int32) else (45 : Int32))) = wm9)) dX11_addMark_41 cvX11_275 okX10_add rfl (Nat.le_of_ble_eq_true rfl) BS_244 (Nat.le_of_ble_eq_true rfl) (Nat.le_of_ble_eq_true rfl) hci_10 (Nat.le_of_ble_eq_true rfl) (Nat.le_of_ble_eq_true rfl) (pX10_add  ((if a2 = 0 then (43 : Int32) else (45 : Int32))) o12 rfl) (fun wm9 hq9 => ?_)
      subst hq9
      refine JT_aload_n (q := 1) dX11_addMark_44 rfl rfl ?_
      refine JS_getR (x := 244) dX11_addMark_45 flX11_93 BS_2 (Nat.le_of_ble_eq_true rfl) (Nat.le_of_ble_eq_true rfl) (Or.inl ⟨_, ct_11_13⟩) RF_2_13 ?_
      refine JT_bipush (v := 32) dX11_addMark_48 bp_32 ?_
      obtain ⟨o11, h⟩ := h
      refine JS_callVV (M' := MX10_add) (d' := 0) (As := [.int (32 : Int32)]) (rest := []) (P := (fun wm9 => (mX10_add (mX10_add s (if a2 = 0 then (43 : Int32) else (45 : Int32))) (32 : Int32)) = wm9)) dX11_addMark_50 cvX11_275 okX10_add rfl (Nat.le_of_ble_eq_true rfl) BS_244 (Nat.le_of_ble_eq_true rfl) (Nat.le_of_ble_eq_true rfl) hci_10 (Nat.le_of_ble_eq_true rfl) (Nat.le_of_ble_eq_true rfl) (pX10_add  ((32 : Int32)) o11 rfl) (fun wm9 hq9 => ?_)
      subst hq9
      refine JT_aload_n (q := 1) dX11_addMark_53 rfl rfl ?_
      refine JS_getR (x := 244) dX11_addMark_54 flX11_93 BS_2 (Nat.le_of_ble_eq_true rfl) (Nat.le_of_ble_eq_true rfl) (Or.inl ⟨_, ct_11_13⟩) RF_2_13 ?_
      refine JT_aload_n (q := 1) dX11_addMark_57 rfl rfl ?_
      refine JS_getR (x := 5) dX11_addMark_58 flX11_19 BS_2 (Nat.le_of_ble_eq_true rfl) (Nat.le_of_ble_eq_true rfl) (Or.inl ⟨_, ct_11_1⟩) RF_2_1 ?_
      refine JS_getR (x := 6) dX11_addMark_61 flX11_276 BS_5 (Nat.le_of_ble_eq_true rfl) (Nat.le_of_ble_eq_true rfl) (Or.inr ⟨_, ct_6_0⟩) RF_5_0 ?_
      refine JT_iload_n (q := 0) dX11_addMark_64 rfl rfl ?_
      obtain ⟨o2, h⟩ := h
      refine JS_lald dX11_addMark_65 BS_6 (Nat.le_of_ble_eq_true rfl) (Nat.le_of_ble_eq_true rfl) o2 ?_
      obtain ⟨o10, h⟩ := h
      refine JS_callVV (M' := MX10_addName) (d' := 1) (As := [.long (gL (mX10_add (mX10_add s (if a2 = 0 then (43 : Int32) else (45 : Int32))) (32 : Int32)) 6 ((gI s 32 (a1).toNatClampNeg)).toNatClampNeg)]) (rest := []) (P := (fun wm9 => (mX10_addName (mX10_add (mX10_add s (if a2 = 0 then (43 : Int32) else (45 : Int32))) (32 : Int32)) (gL (mX10_add (mX10_add s (if a2 = 0 then (43 : Int32) else (45 : Int32))) (32 : Int32)) 6 ((gI s 32 (a1).toNatClampNeg)).toNatClampNeg)) = wm9)) dX11_addMark_66 cvX11_280 okX10_addName rfl (Nat.le_of_ble_eq_true rfl) BS_244 (Nat.le_of_ble_eq_true rfl) (Nat.le_of_ble_eq_true rfl) hci_10 (Nat.le_of_ble_eq_true rfl) (Nat.le_of_ble_eq_true rfl) (pX10_addName  ((gL (mX10_add (mX10_add s (if a2 = 0 then (43 : Int32) else (45 : Int32))) (32 : Int32)) 6 ((gI s 32 (a1).toNatClampNeg)).toNatClampNeg)) o10 rfl) (fun wm9 hq9 => ?_)
      subst hq9
      obtain ⟨s3, hs3⟩ : ∃ z, z = (mX10_addName (mX10_add (mX10_add s (if a2 = 0 then (43 : Int32) else (45 : Int32))) (32 : Int32)) (gL (mX10_add (mX10_add s (if a2 = 0 then (43 : Int32) else (45 : Int32))) (32 : Int32)) 6 ((gI s 32 (a1).toNatClampNeg)).toNatClampNeg)) := ⟨_, rfl⟩
      replace h := h s3 hs3
      rw [← hs3]
      refine JT_aload_n (q := 1) dX11_addMark_69 rfl rfl ?_
      refine JS_getR (x := 244) dX11_addMark_70 flX11_93 BS_2 (Nat.le_of_ble_eq_true rfl) (Nat.le_of_ble_eq_true rfl) (Or.inl ⟨_, ct_11_13⟩) RF_2_13 ?_
      refine JT_bipush (v := 32) dX11_addMark_73 bp_32 ?_
      obtain ⟨o9, h⟩ := h
      refine JS_callVV (M' := MX10_add) (d' := 0) (As := [.int (32 : Int32)]) (rest := []) (P := (fun wm9 => (mX10_add s3 (32 : Int32)) = wm9)) dX11_addMark_75 cvX11_275 okX10_add rfl (Nat.le_of_ble_eq_true rfl) BS_244 (Nat.le_of_ble_eq_true rfl) (Nat.le_of_ble_eq_true rfl) hci_10 (Nat.le_of_ble_eq_true rfl) (Nat.le_of_ble_eq_true rfl) (pX10_add  ((32 : Int32)) o9 rfl) (fun wm9 hq9 => ?_)
      subst hq9
      refine JT_aload_n (q := 1) dX11_addMark_78 rfl rfl ?_
      refine JS_getR (x := 31) dX11_addMark_79 flX11_41 BS_2 (Nat.le_of_ble_eq_true rfl) (Nat.le_of_ble_eq_true rfl) (Or.inl ⟨_, ct_11_5⟩) RF_2_5 ?_
      refine JT_iload_n (q := 2) dX11_addMark_82 rfl rfl ?_
      refine JT_iload_n (q := 3) dX11_addMark_83 rfl rfl ?_
      obtain ⟨o8, h⟩ := h
      refine JS_callVI (M' := MX4_isScarred) (d' := 1) (As := [.int a1, .int a2]) (rest := []) (P := (fun zv9 wm9 => (vX4_isScarred (mX10_add s3 (32 : Int32)) 31 5 a1 a2) = zv9 ∧ (mX10_add s3 (32 : Int32)) = wm9)) dX11_addMark_84 cvX11_284 okX4_isScarred rfl (Nat.le_of_ble_eq_true rfl) BS_31 (Nat.le_of_ble_eq_true rfl) (Nat.le_of_ble_eq_true rfl) hci_4 (Nat.le_of_ble_eq_true rfl) (Nat.le_of_ble_eq_true rfl) (pX4_isScarred hL_31 (a1) (a2) o8 ⟨rfl, rfl⟩) (fun zv9 wm9 hq9 => ?_)
      obtain ⟨rfl, rfl⟩ := hq9
      refine JT_if_eq (tgt := 102) dX11_addMark_87 (by decide) (fun hc7 => ?_) (fun hc7 => ?_)
      · have h := h.1 hc7
        refine JT_aload_n (q := 1) dX11_addMark_102 rfl rfl ?_
        refine JS_getR (x := 244) dX11_addMark_103 flX11_93 BS_2 (Nat.le_of_ble_eq_true rfl) (Nat.le_of_ble_eq_true rfl) (Or.inl ⟨_, ct_11_13⟩) RF_2_13 ?_
        refine JT_aload_n (q := 1) dX11_addMark_106 rfl rfl ?_
        refine JS_getR (x := 31) dX11_addMark_107 flX11_41 BS_2 (Nat.le_of_ble_eq_true rfl) (Nat.le_of_ble_eq_true rfl) (Or.inl ⟨_, ct_11_5⟩) RF_2_5 ?_
        refine JS_getR (x := 34) dX11_addMark_110 flX11_220 BS_31 (Nat.le_of_ble_eq_true rfl) (Nat.le_of_ble_eq_true rfl) (Or.inr ⟨_, ct_4_2⟩) RF_31_2 ?_
        refine JT_iload_n (q := 2) dX11_addMark_113 rfl rfl ?_
        obtain ⟨o4, h⟩ := h
        refine JS_iald dX11_addMark_114 BS_34 (Nat.le_of_ble_eq_true rfl) (Nat.le_of_ble_eq_true rfl) o4 ?_
        obtain ⟨o5, h⟩ := h
        refine JS_callVV (M' := MX10_addNumber) (d' := 1) (As := [.int (gI (mX10_add s3 (32 : Int32)) 34 (a1).toNatClampNeg)]) (rest := []) (P := (fun wm9 => (mX10_addNumber (mX10_add s3 (32 : Int32)) (gI (mX10_add s3 (32 : Int32)) 34 (a1).toNatClampNeg)) = wm9)) dX11_addMark_115 cvX11_287 okX10_addNumber rfl (Nat.le_of_ble_eq_true rfl) BS_244 (Nat.le_of_ble_eq_true rfl) (Nat.le_of_ble_eq_true rfl) hci_10 (Nat.le_of_ble_eq_true rfl) (Nat.le_of_ble_eq_true rfl) (pX10_addNumber  ((gI (mX10_add s3 (32 : Int32)) 34 (a1).toNatClampNeg)) o5 rfl) (fun wm9 hq9 => ?_)
        subst hq9
        exact JT_sub [1, 2, 3, 0] rfl h
      · have h := h.2 hc7
        refine JT_aload_n (q := 1) dX11_addMark_90 rfl rfl ?_
        refine JS_getR (x := 244) dX11_addMark_91 flX11_93 BS_2 (Nat.le_of_ble_eq_true rfl) (Nat.le_of_ble_eq_true rfl) (Or.inl ⟨_, ct_11_13⟩) RF_2_13 ?_
        refine JT_bipush (v := 63) dX11_addMark_94 bp_63 ?_
        obtain ⟨o6, h⟩ := h
        refine JS_callVV (M' := MX10_add) (d' := 0) (As := [.int (63 : Int32)]) (rest := []) (P := (fun wm9 => (mX10_add (mX10_add s3 (32 : Int32)) (63 : Int32)) = wm9)) dX11_addMark_96 cvX11_275 okX10_add rfl (Nat.le_of_ble_eq_true rfl) BS_244 (Nat.le_of_ble_eq_true rfl) (Nat.le_of_ble_eq_true rfl) hci_10 (Nat.le_of_ble_eq_true rfl) (Nat.le_of_ble_eq_true rfl) (pX10_add  ((63 : Int32)) o6 rfl) (fun wm9 hq9 => ?_)
        subst hq9
        refine JT_goto (tgt := 118) dX11_addMark_99 (by decide) ?_
        exact JT_sub [1, 2, 3, 0] rfl h
    refine JT_if_ne (tgt := 39) dX11_addMark_31 (by decide) (fun hc14 => ?_) (fun hc14 => ?_)
    · refine JT_bipush (v := 45) dX11_addMark_39 bp_45 ?_
      exact hj13 _ (by rw [if_neg hc14])
    · refine JT_bipush (v := 43) dX11_addMark_34 bp_43 ?_
      refine JT_goto (tgt := 41) dX11_addMark_36 (by decide) ?_
      exact hj13 _ (by rw [if_pos hc14])
  · have h := h.2 hc29
    refine JT_aload_n (q := 0) dX11_addMark_4 rfl rfl ?_
    refine JS_getR (x := 31) dX11_addMark_5 flX11_41 BS_2 (Nat.le_of_ble_eq_true rfl) (Nat.le_of_ble_eq_true rfl) (Or.inl ⟨_, ct_11_5⟩) RF_2_5 ?_
    refine JS_getR (x := 33) dX11_addMark_8 flX11_217 BS_31 (Nat.le_of_ble_eq_true rfl) (Nat.le_of_ble_eq_true rfl) (Or.inr ⟨_, ct_4_1⟩) RF_31_1 ?_
    refine JT_iload_n (q := 1) dX11_addMark_11 rfl rfl ?_
    obtain ⟨o15, h⟩ := h
    refine JS_iald dX11_addMark_12 BS_33 (Nat.le_of_ble_eq_true rfl) (Nat.le_of_ble_eq_true rfl) o15 ?_
    refine JT_goto (tgt := 25) dX11_addMark_13 (by decide) ?_
    refine JT_istore_n (lv' := [(3, .int (gI s 33 (a1).toNatClampNeg)), (0, .ref 2), (1, .int a1), (2, .int a2)]) dX11_addMark_25 rfl (Nat.le_of_ble_eq_true rfl) rfl ?_
    refine JT_aload_n (q := 1) dX11_addMark_26 rfl rfl ?_
    refine JS_getR (x := 244) dX11_addMark_27 flX11_93 BS_2 (Nat.le_of_ble_eq_true rfl) (Nat.le_of_ble_eq_true rfl) (Or.inl ⟨_, ct_11_13⟩) RF_2_13 ?_
    refine JT_iload_n (q := 3) dX11_addMark_30 rfl rfl ?_
    have hj27 : ∀ v : Int32, v = (if a2 = 0 then (43 : Int32) else (45 : Int32)) → JT MX11_addMark 2 0 0 41 [(3, .int (gI s 33 (a1).toNatClampNeg)), (0, .ref 2), (1, .int a1), (2, .int a2)] [.int v, .ref 244] (std s) (KQv Q) := by
      intro v hv
      subst hv
      obtain ⟨o26, h⟩ := h
      refine JS_callVV (M' := MX10_add) (d' := 0) (As := [.int (if a2 = 0 then (43 : Int32) else (45 : Int32))]) (rest := []) (P := (fun wm9 => (mX10_add s (if a2 = 0 then (43 : Int32) else (45 : Int32))) = wm9)) dX11_addMark_41 cvX11_275 okX10_add rfl (Nat.le_of_ble_eq_true rfl) BS_244 (Nat.le_of_ble_eq_true rfl) (Nat.le_of_ble_eq_true rfl) hci_10 (Nat.le_of_ble_eq_true rfl) (Nat.le_of_ble_eq_true rfl) (pX10_add  ((if a2 = 0 then (43 : Int32) else (45 : Int32))) o26 rfl) (fun wm9 hq9 => ?_)
      subst hq9
      refine JT_aload_n (q := 1) dX11_addMark_44 rfl rfl ?_
      refine JS_getR (x := 244) dX11_addMark_45 flX11_93 BS_2 (Nat.le_of_ble_eq_true rfl) (Nat.le_of_ble_eq_true rfl) (Or.inl ⟨_, ct_11_13⟩) RF_2_13 ?_
      refine JT_bipush (v := 32) dX11_addMark_48 bp_32 ?_
      obtain ⟨o25, h⟩ := h
      refine JS_callVV (M' := MX10_add) (d' := 0) (As := [.int (32 : Int32)]) (rest := []) (P := (fun wm9 => (mX10_add (mX10_add s (if a2 = 0 then (43 : Int32) else (45 : Int32))) (32 : Int32)) = wm9)) dX11_addMark_50 cvX11_275 okX10_add rfl (Nat.le_of_ble_eq_true rfl) BS_244 (Nat.le_of_ble_eq_true rfl) (Nat.le_of_ble_eq_true rfl) hci_10 (Nat.le_of_ble_eq_true rfl) (Nat.le_of_ble_eq_true rfl) (pX10_add  ((32 : Int32)) o25 rfl) (fun wm9 hq9 => ?_)
      subst hq9
      refine JT_aload_n (q := 1) dX11_addMark_53 rfl rfl ?_
      refine JS_getR (x := 244) dX11_addMark_54 flX11_93 BS_2 (Nat.le_of_ble_eq_true rfl) (Nat.le_of_ble_eq_true rfl) (Or.inl ⟨_, ct_11_13⟩) RF_2_13 ?_
      refine JT_aload_n (q := 1) dX11_addMark_57 rfl rfl ?_
      refine JS_getR (x := 5) dX11_addMark_58 flX11_19 BS_2 (Nat.le_of_ble_eq_true rfl) (Nat.le_of_ble_eq_true rfl) (Or.inl ⟨_, ct_11_1⟩) RF_2_1 ?_
      refine JS_getR (x := 6) dX11_addMark_61 flX11_276 BS_5 (Nat.le_of_ble_eq_true rfl) (Nat.le_of_ble_eq_true rfl) (Or.inr ⟨_, ct_6_0⟩) RF_5_0 ?_
      refine JT_iload_n (q := 0) dX11_addMark_64 rfl rfl ?_
      obtain ⟨o16, h⟩ := h
      refine JS_lald dX11_addMark_65 BS_6 (Nat.le_of_ble_eq_true rfl) (Nat.le_of_ble_eq_true rfl) o16 ?_
      obtain ⟨o24, h⟩ := h
      refine JS_callVV (M' := MX10_addName) (d' := 1) (As := [.long (gL (mX10_add (mX10_add s (if a2 = 0 then (43 : Int32) else (45 : Int32))) (32 : Int32)) 6 ((gI s 33 (a1).toNatClampNeg)).toNatClampNeg)]) (rest := []) (P := (fun wm9 => (mX10_addName (mX10_add (mX10_add s (if a2 = 0 then (43 : Int32) else (45 : Int32))) (32 : Int32)) (gL (mX10_add (mX10_add s (if a2 = 0 then (43 : Int32) else (45 : Int32))) (32 : Int32)) 6 ((gI s 33 (a1).toNatClampNeg)).toNatClampNeg)) = wm9)) dX11_addMark_66 cvX11_280 okX10_addName rfl (Nat.le_of_ble_eq_true rfl) BS_244 (Nat.le_of_ble_eq_true rfl) (Nat.le_of_ble_eq_true rfl) hci_10 (Nat.le_of_ble_eq_true rfl) (Nat.le_of_ble_eq_true rfl) (pX10_addName  ((gL (mX10_add (mX10_add s (if a2 = 0 then (43 : Int32) else (45 : Int32))) (32 : Int32)) 6 ((gI s 33 (a1).toNatClampNeg)).toNatClampNeg)) o24 rfl) (fun wm9 hq9 => ?_)
      subst hq9
      obtain ⟨s17, hs17⟩ : ∃ z, z = (mX10_addName (mX10_add (mX10_add s (if a2 = 0 then (43 : Int32) else (45 : Int32))) (32 : Int32)) (gL (mX10_add (mX10_add s (if a2 = 0 then (43 : Int32) else (45 : Int32))) (32 : Int32)) 6 ((gI s 33 (a1).toNatClampNeg)).toNatClampNeg)) := ⟨_, rfl⟩
      replace h := h s17 hs17
      rw [← hs17]
      refine JT_aload_n (q := 1) dX11_addMark_69 rfl rfl ?_
      refine JS_getR (x := 244) dX11_addMark_70 flX11_93 BS_2 (Nat.le_of_ble_eq_true rfl) (Nat.le_of_ble_eq_true rfl) (Or.inl ⟨_, ct_11_13⟩) RF_2_13 ?_
      refine JT_bipush (v := 32) dX11_addMark_73 bp_32 ?_
      obtain ⟨o23, h⟩ := h
      refine JS_callVV (M' := MX10_add) (d' := 0) (As := [.int (32 : Int32)]) (rest := []) (P := (fun wm9 => (mX10_add s17 (32 : Int32)) = wm9)) dX11_addMark_75 cvX11_275 okX10_add rfl (Nat.le_of_ble_eq_true rfl) BS_244 (Nat.le_of_ble_eq_true rfl) (Nat.le_of_ble_eq_true rfl) hci_10 (Nat.le_of_ble_eq_true rfl) (Nat.le_of_ble_eq_true rfl) (pX10_add  ((32 : Int32)) o23 rfl) (fun wm9 hq9 => ?_)
      subst hq9
      refine JT_aload_n (q := 1) dX11_addMark_78 rfl rfl ?_
      refine JS_getR (x := 31) dX11_addMark_79 flX11_41 BS_2 (Nat.le_of_ble_eq_true rfl) (Nat.le_of_ble_eq_true rfl) (Or.inl ⟨_, ct_11_5⟩) RF_2_5 ?_
      refine JT_iload_n (q := 2) dX11_addMark_82 rfl rfl ?_
      refine JT_iload_n (q := 3) dX11_addMark_83 rfl rfl ?_
      obtain ⟨o22, h⟩ := h
      refine JS_callVI (M' := MX4_isScarred) (d' := 1) (As := [.int a1, .int a2]) (rest := []) (P := (fun zv9 wm9 => (vX4_isScarred (mX10_add s17 (32 : Int32)) 31 5 a1 a2) = zv9 ∧ (mX10_add s17 (32 : Int32)) = wm9)) dX11_addMark_84 cvX11_284 okX4_isScarred rfl (Nat.le_of_ble_eq_true rfl) BS_31 (Nat.le_of_ble_eq_true rfl) (Nat.le_of_ble_eq_true rfl) hci_4 (Nat.le_of_ble_eq_true rfl) (Nat.le_of_ble_eq_true rfl) (pX4_isScarred hL_31 (a1) (a2) o22 ⟨rfl, rfl⟩) (fun zv9 wm9 hq9 => ?_)
      obtain ⟨rfl, rfl⟩ := hq9
      refine JT_if_eq (tgt := 102) dX11_addMark_87 (by decide) (fun hc21 => ?_) (fun hc21 => ?_)
      · have h := h.1 hc21
        refine JT_aload_n (q := 1) dX11_addMark_102 rfl rfl ?_
        refine JS_getR (x := 244) dX11_addMark_103 flX11_93 BS_2 (Nat.le_of_ble_eq_true rfl) (Nat.le_of_ble_eq_true rfl) (Or.inl ⟨_, ct_11_13⟩) RF_2_13 ?_
        refine JT_aload_n (q := 1) dX11_addMark_106 rfl rfl ?_
        refine JS_getR (x := 31) dX11_addMark_107 flX11_41 BS_2 (Nat.le_of_ble_eq_true rfl) (Nat.le_of_ble_eq_true rfl) (Or.inl ⟨_, ct_11_5⟩) RF_2_5 ?_
        refine JS_getR (x := 34) dX11_addMark_110 flX11_220 BS_31 (Nat.le_of_ble_eq_true rfl) (Nat.le_of_ble_eq_true rfl) (Or.inr ⟨_, ct_4_2⟩) RF_31_2 ?_
        refine JT_iload_n (q := 2) dX11_addMark_113 rfl rfl ?_
        obtain ⟨o18, h⟩ := h
        refine JS_iald dX11_addMark_114 BS_34 (Nat.le_of_ble_eq_true rfl) (Nat.le_of_ble_eq_true rfl) o18 ?_
        obtain ⟨o19, h⟩ := h
        refine JS_callVV (M' := MX10_addNumber) (d' := 1) (As := [.int (gI (mX10_add s17 (32 : Int32)) 34 (a1).toNatClampNeg)]) (rest := []) (P := (fun wm9 => (mX10_addNumber (mX10_add s17 (32 : Int32)) (gI (mX10_add s17 (32 : Int32)) 34 (a1).toNatClampNeg)) = wm9)) dX11_addMark_115 cvX11_287 okX10_addNumber rfl (Nat.le_of_ble_eq_true rfl) BS_244 (Nat.le_of_ble_eq_true rfl) (Nat.le_of_ble_eq_true rfl) hci_10 (Nat.le_of_ble_eq_true rfl) (Nat.le_of_ble_eq_true rfl) (pX10_addNumber  ((gI (mX10_add s17 (32 : Int32)) 34 (a1).toNatClampNeg)) o19 rfl) (fun wm9 hq9 => ?_)
        subst hq9
        exact JT_sub [1, 2, 3, 0] rfl h
      · have h := h.2 hc21
        refine JT_aload_n (q := 1) dX11_addMark_90 rfl rfl ?_
        refine JS_getR (x := 244) dX11_addMark_91 flX11_93 BS_2 (Nat.le_of_ble_eq_true rfl) (Nat.le_of_ble_eq_true rfl) (Or.inl ⟨_, ct_11_13⟩) RF_2_13 ?_
        refine JT_bipush (v := 63) dX11_addMark_94 bp_63 ?_
        obtain ⟨o20, h⟩ := h
        refine JS_callVV (M' := MX10_add) (d' := 0) (As := [.int (63 : Int32)]) (rest := []) (P := (fun wm9 => (mX10_add (mX10_add s17 (32 : Int32)) (63 : Int32)) = wm9)) dX11_addMark_96 cvX11_275 okX10_add rfl (Nat.le_of_ble_eq_true rfl) BS_244 (Nat.le_of_ble_eq_true rfl) (Nat.le_of_ble_eq_true rfl) hci_10 (Nat.le_of_ble_eq_true rfl) (Nat.le_of_ble_eq_true rfl) (pX10_add  ((63 : Int32)) o20 rfl) (fun wm9 hq9 => ?_)
        subst hq9
        refine JT_goto (tgt := 118) dX11_addMark_99 (by decide) ?_
        exact JT_sub [1, 2, 3, 0] rfl h
    refine JT_if_ne (tgt := 39) dX11_addMark_31 (by decide) (fun hc28 => ?_) (fun hc28 => ?_)
    · refine JT_bipush (v := 45) dX11_addMark_39 bp_45 ?_
      exact hj27 _ (by rw [if_neg hc28])
    · refine JT_bipush (v := 43) dX11_addMark_34 bp_43 ?_
      refine JT_goto (tgt := 41) dX11_addMark_36 (by decide) ?_
      exact hj27 _ (by rw [if_pos hc28])
set_option maxRecDepth 1000000 in
theorem gX11_addMark  : ∀ n : Nat, (∀ (a1 : Int32) (a2 : Int32) (a3 : Int32) (s : SM) (Q : SM → Prop), ((qX11_addMark n).1 s a1 a2 a3) → Q ((lX11_addMark n).1 s a1 a2 a3) → BV MX11_addMark 2 118 [(0, .ref 2), (1, .int a1), (2, .int a2), (3, .int a3)] s Q) ∧ (∀ (a1 : Int32) (a2 : Int32) (a3 : Int32) (s : SM) (Q : SM → Prop), ((qX11_addMark n).2 s a1 a2 a3) → Q ((lX11_addMark n).2 s a1 a2 a3) → BV MX11_addMark 2 173 [(0, .ref 2), (1, .int a1), (2, .int a2), (3, .int a3)] s Q) := by
  intro n
  induction n with
  | zero => exact ⟨fun _ _ _ _ _ hq _ => absurd hq id, fun _ _ _ _ _ hq _ => absurd hq id⟩
  | succ n ih =>
    refine ⟨?_, ?_⟩
    · intro a1 a2 a3 s Q hr h
      replace hr : uX11_addMark_118 (qX11_addMark n) s a1 a2 a3 := hr
      replace h : Q (tX11_addMark_118 (lX11_addMark n) s a1 a2 a3) := h
      unfold uX11_addMark_118 at hr
      unfold tX11_addMark_118 at h
      refine bX11_addMark_118 a1 a2 a3 ?_
      refine ⟨hr.1, ?_⟩
      replace hr := hr.2
      refine ⟨hr.1, ?_⟩
      replace hr := hr.2
      refine ⟨hr.1, ?_⟩
      replace hr := hr.2
      refine ⟨hr.1, ?_⟩
      replace hr := hr.2
      intro s3 e9
      replace hr := hr s3 e9
      try rw [← e9] at h
      try dsimp only at h
      refine ⟨hr.1, ?_⟩
      replace hr := hr.2
      refine ⟨fun c => ?_, fun c => ?_⟩
      · replace hr := hr.1 c
        replace h := q1n c h
        first | exact ih.2 a1 a2 a3 _ Q hr h | contradiction
      · replace hr := hr.2 c
        replace h := q1p c h
        refine ⟨hr.1, ?_⟩
        replace hr := hr.2
        first | exact ih.2 a1 a2 a3 _ Q hr h | contradiction
    · intro a1 a2 a3 s Q hr h
      replace hr : uX11_addMark_173 (qX11_addMark n) s a1 a2 a3 := hr
      replace h : Q (tX11_addMark_173 (lX11_addMark n) s a1 a2 a3) := h
      unfold uX11_addMark_173 at hr
      unfold tX11_addMark_173 at h
      refine bX11_addMark_173 a1 a2 a3 ?_
      refine ⟨hr.1, ?_⟩
      replace hr := hr.2
      refine ⟨fun c => ?_, fun c => ?_⟩
      · replace hr := hr.1 c
        replace h := q1n c h
        refine ⟨hr, ?_⟩
        first | exact h | contradiction
      · replace hr := hr.2 c
        replace h := q1p c h
        refine ⟨hr.1, ?_⟩
        replace hr := hr.2
        refine ⟨hr, ?_⟩
        first | exact h | contradiction
set_option maxRecDepth 1000000 in
theorem pX11_addMark (a1 : Int32) (a2 : Int32) {s : SM} {Q : SM → Prop} (hr : rX11_addMark s a1 a2) (h : Q (mX11_addMark s a1 a2)) : KV MX11_addMark 2 [.ref 2, .int a1, .int a2] s Q := by
  replace h : Q (fX11_addMark s a1 a2) := h
  unfold rX11_addMark at hr
  unfold fX11_addMark at h
  refine bX11_addMark a1 a2 ?_
  refine ⟨fun c => ?_, fun c => ?_⟩
  · replace hr := hr.1 c
    replace h := q1n c h
    refine ⟨hr.1, ?_⟩
    replace hr := hr.2
    refine ⟨hr.1, ?_⟩
    replace hr := hr.2
    refine ⟨hr.1, ?_⟩
    replace hr := hr.2
    refine ⟨hr.1, ?_⟩
    replace hr := hr.2
    refine ⟨hr.1, ?_⟩
    replace hr := hr.2
    intro s3 e9
    replace hr := hr s3 e9
    try rw [← e9] at h
    try dsimp only at h
    refine ⟨hr.1, ?_⟩
    replace hr := hr.2
    refine ⟨hr.1, ?_⟩
    replace hr := hr.2
    refine ⟨fun c => ?_, fun c => ?_⟩
    · replace hr := hr.1 c
      replace h := q1p c h
      refine ⟨hr.1, ?_⟩
      replace hr := hr.2
      refine ⟨hr.1, ?_⟩
      replace hr := hr.2
      first | exact (gX11_addMark  FU).1 a1 a2 (gI s 32 (a1).toNatClampNeg) _ Q hr h | contradiction
    · replace hr := hr.2 c
      replace h := q1n c h
      refine ⟨hr.1, ?_⟩
      replace hr := hr.2
      first | exact (gX11_addMark  FU).1 a1 a2 (gI s 32 (a1).toNatClampNeg) _ Q hr h | contradiction
  · replace hr := hr.2 c
    replace h := q1p c h
    refine ⟨hr.1, ?_⟩
    replace hr := hr.2
    refine ⟨hr.1, ?_⟩
    replace hr := hr.2
    refine ⟨hr.1, ?_⟩
    replace hr := hr.2
    refine ⟨hr.1, ?_⟩
    replace hr := hr.2
    refine ⟨hr.1, ?_⟩
    replace hr := hr.2
    intro s17 e9
    replace hr := hr s17 e9
    try rw [← e9] at h
    try dsimp only at h
    refine ⟨hr.1, ?_⟩
    replace hr := hr.2
    refine ⟨hr.1, ?_⟩
    replace hr := hr.2
    refine ⟨fun c => ?_, fun c => ?_⟩
    · replace hr := hr.1 c
      replace h := q1p c h
      refine ⟨hr.1, ?_⟩
      replace hr := hr.2
      refine ⟨hr.1, ?_⟩
      replace hr := hr.2
      first | exact (gX11_addMark  FU).1 a1 a2 (gI s 33 (a1).toNatClampNeg) _ Q hr h | contradiction
    · replace hr := hr.2 c
      replace h := q1n c h
      refine ⟨hr.1, ?_⟩
      replace hr := hr.2
      first | exact (gX11_addMark  FU).1 a1 a2 (gI s 33 (a1).toNatClampNeg) _ Q hr h | contradiction
set_option maxRecDepth 1000000 in
theorem bX11_between_30 (a1 : Int32) (a2 : Int32) (a3 : Int32) (a4 : Int32) (a5 : Int32) {s : SM} {Q : Int32 → SM → Prop} (h : (((gI s 31 9) ≤ a5 → Q (if a3 = (-1 : Int32) then a4 else (-1 : Int32)) s) ∧ (¬ (gI s 31 9) ≤ a5 → rX4_isOpen s 31 5 a5 ∧ (((vX4_isOpen s 31 5 a5) = 0 → BI MX11_between 2 30 [(0, .ref 2), (1, .int a1), (2, .int a2), (3, .int a3), (4, .int a4), (5, .int (a5 + 1))] s Q) ∧ (¬ (vX4_isOpen s 31 5 a5) = 0 → vp_in a5 60 ∧ ((¬ (gI s 32 (a5).toNatClampNeg) = a1 → BI MX11_between 2 30 [(0, .ref 2), (1, .int a1), (2, .int a2), (3, .int a3), (4, .int a4), (5, .int (a5 + 1))] s Q) ∧ ((gI s 32 (a5).toNatClampNeg) = a1 → vp_in a5 60 ∧ ((¬ (gI s 33 (a5).toNatClampNeg) = a2 → BI MX11_between 2 30 [(0, .ref 2), (1, .int a1), (2, .int a2), (3, .int a3), (4, .int a4), (5, .int (a5 + 1))] s Q) ∧ ((gI s 33 (a5).toNatClampNeg) = a2 → ((¬ a4 = a3 → BI MX11_between 2 30 [(0, .ref 2), (1, .int a1), (2, .int a2), (3, .int a3), (4, .int (a4 + 1)), (5, .int (a5 + 1))] s Q) ∧ (a4 = a3 → Q a5 s))))))))))) : BI MX11_between 2 30 [(0, .ref 2), (1, .int a1), (2, .int a2), (3, .int a3), (4, .int a4), (5, .int a5)] s Q := by
  refine JT_iload (q := 5) dX11_between_30 rfl ?_
  refine JT_aload_n (q := 0) dX11_between_32 rfl rfl ?_
  refine JS_getR (x := 31) dX11_between_33 flX11_41 BS_2 (Nat.le_of_ble_eq_true rfl) (Nat.le_of_ble_eq_true rfl) (Or.inl ⟨_, ct_11_5⟩) RF_2_5 ?_
  refine JS_getI dX11_between_36 flX11_162 BS_31 (Nat.le_of_ble_eq_true rfl) (Nat.le_of_ble_eq_true rfl) (Or.inl ct_4_9) ?_
  refine JT_icmp_ge (tgt := 100) dX11_between_39 (by decide) (fun hc10 => ?_) (fun hc10 => ?_)
  · have h := h.1 hc10
    refine JT_iload_n (q := 3) dX11_between_100 rfl rfl ?_
    refine JT_iconst (v := -1) dX11_between_101 ic_m1 ?_
    have hj1 : ∀ v : Int32, v = (if a3 = (-1 : Int32) then a4 else (-1 : Int32)) → JT MX11_between 2 0 0 111 [(0, .ref 2), (1, .int a1), (2, .int a2), (3, .int a3), (4, .int a4), (5, .int a5)] [.int v] (std s) (KQ Q) := by
      intro v hv
      subst hv
      exact JS_iret dX11_between_111 rfl rfl h
    refine JT_icmp_ne (tgt := 110) dX11_between_102 (by decide) (fun hc2 => ?_) (fun hc2 => ?_)
    · refine JT_iconst (v := -1) dX11_between_110 ic_m1 ?_
      exact hj1 _ (by rw [if_neg hc2])
    · refine JT_iload (q := 4) dX11_between_105 rfl ?_
      refine JT_goto (tgt := 111) dX11_between_107 (by decide) ?_
      exact hj1 _ (by rw [if_pos hc2])
  · have h := h.2 hc10
    refine JT_aload_n (q := 0) dX11_between_42 rfl rfl ?_
    refine JS_getR (x := 31) dX11_between_43 flX11_41 BS_2 (Nat.le_of_ble_eq_true rfl) (Nat.le_of_ble_eq_true rfl) (Or.inl ⟨_, ct_11_5⟩) RF_2_5 ?_
    refine JT_iload (q := 5) dX11_between_46 rfl ?_
    obtain ⟨o9, h⟩ := h
    refine JS_callVI (M' := MX4_isOpen) (d' := 1) (As := [.int a5]) (rest := []) (P := (fun zv9 wm9 => (vX4_isOpen s 31 5 a5) = zv9 ∧ s = wm9)) dX11_between_48 cvX11_251 okX4_isOpen rfl (Nat.le_of_ble_eq_true rfl) BS_31 (Nat.le_of_ble_eq_true rfl) (Nat.le_of_ble_eq_true rfl) hci_4 (Nat.le_of_ble_eq_true rfl) (Nat.le_of_ble_eq_true rfl) (pX4_isOpen hL_31 (a5) o9 ⟨rfl, rfl⟩) (fun zv9 wm9 hq9 => ?_)
    obtain ⟨rfl, rfl⟩ := hq9
    refine JT_if_eq (tgt := 94) dX11_between_51 (by decide) (fun hc8 => ?_) (fun hc8 => ?_)
    · have h := h.1 hc8
      refine JT_iinc (q := 5) (v := (a5 + 1)) (lv' := [(5, .int (a5 + 1)), (0, .ref 2), (1, .int a1), (2, .int a2), (3, .int a3), (4, .int a4)]) dX11_between_94 rfl (by rfl) (Nat.le_of_ble_eq_true rfl) rfl ?_
      refine JT_goto (tgt := 30) dX11_between_97 (by decide) ?_
      exact JT_sub [1, 2, 3, 4, 5, 0] rfl h
    · have h := h.2 hc8
      refine JT_aload_n (q := 0) dX11_between_54 rfl rfl ?_
      refine JS_getR (x := 31) dX11_between_55 flX11_41 BS_2 (Nat.le_of_ble_eq_true rfl) (Nat.le_of_ble_eq_true rfl) (Or.inl ⟨_, ct_11_5⟩) RF_2_5 ?_
      refine JS_getR (x := 32) dX11_between_58 flX11_214 BS_31 (Nat.le_of_ble_eq_true rfl) (Nat.le_of_ble_eq_true rfl) (Or.inr ⟨_, ct_4_0⟩) RF_31_0 ?_
      refine JT_iload (q := 5) dX11_between_61 rfl ?_
      obtain ⟨o3, h⟩ := h
      refine JS_iald dX11_between_63 BS_32 (Nat.le_of_ble_eq_true rfl) (Nat.le_of_ble_eq_true rfl) o3 ?_
      refine JT_iload_n (q := 1) dX11_between_64 rfl rfl ?_
      refine JT_icmp_ne (tgt := 94) dX11_between_65 (by decide) (fun hc7 => ?_) (fun hc7 => ?_)
      · have h := h.1 hc7
        refine JT_iinc (q := 5) (v := (a5 + 1)) (lv' := [(5, .int (a5 + 1)), (0, .ref 2), (1, .int a1), (2, .int a2), (3, .int a3), (4, .int a4)]) dX11_between_94 rfl (by rfl) (Nat.le_of_ble_eq_true rfl) rfl ?_
        refine JT_goto (tgt := 30) dX11_between_97 (by decide) ?_
        exact JT_sub [1, 2, 3, 4, 5, 0] rfl h
      · have h := h.2 hc7
        refine JT_aload_n (q := 0) dX11_between_68 rfl rfl ?_
        refine JS_getR (x := 31) dX11_between_69 flX11_41 BS_2 (Nat.le_of_ble_eq_true rfl) (Nat.le_of_ble_eq_true rfl) (Or.inl ⟨_, ct_11_5⟩) RF_2_5 ?_
        refine JS_getR (x := 33) dX11_between_72 flX11_217 BS_31 (Nat.le_of_ble_eq_true rfl) (Nat.le_of_ble_eq_true rfl) (Or.inr ⟨_, ct_4_1⟩) RF_31_1 ?_
        refine JT_iload (q := 5) dX11_between_75 rfl ?_
        obtain ⟨o4, h⟩ := h
        refine JS_iald dX11_between_77 BS_33 (Nat.le_of_ble_eq_true rfl) (Nat.le_of_ble_eq_true rfl) o4 ?_
        refine JT_iload_n (q := 2) dX11_between_78 rfl rfl ?_
        refine JT_icmp_ne (tgt := 94) dX11_between_79 (by decide) (fun hc6 => ?_) (fun hc6 => ?_)
        · have h := h.1 hc6
          refine JT_iinc (q := 5) (v := (a5 + 1)) (lv' := [(5, .int (a5 + 1)), (0, .ref 2), (1, .int a1), (2, .int a2), (3, .int a3), (4, .int a4)]) dX11_between_94 rfl (by rfl) (Nat.le_of_ble_eq_true rfl) rfl ?_
          refine JT_goto (tgt := 30) dX11_between_97 (by decide) ?_
          exact JT_sub [1, 2, 3, 4, 5, 0] rfl h
        · have h := h.2 hc6
          refine JT_iload (q := 4) dX11_between_82 rfl ?_
          refine JT_iload_n (q := 3) dX11_between_84 rfl rfl ?_
          refine JT_icmp_ne (tgt := 91) dX11_between_85 (by decide) (fun hc5 => ?_) (fun hc5 => ?_)
          · have h := h.1 hc5
            refine JT_iinc (q := 4) (v := (a4 + 1)) (lv' := [(4, .int (a4 + 1)), (0, .ref 2), (1, .int a1), (2, .int a2), (3, .int a3), (5, .int a5)]) dX11_between_91 rfl (by rfl) (Nat.le_of_ble_eq_true rfl) rfl ?_
            refine JT_iinc (q := 5) (v := (a5 + 1)) (lv' := [(5, .int (a5 + 1)), (4, .int (a4 + 1)), (0, .ref 2), (1, .int a1), (2, .int a2), (3, .int a3)]) dX11_between_94 rfl (by rfl) (Nat.le_of_ble_eq_true rfl) rfl ?_
            refine JT_goto (tgt := 30) dX11_between_97 (by decide) ?_
            exact JT_sub [2, 3, 4, 5, 1, 0] rfl h
          · have h := h.2 hc5
            refine JT_iload (q := 5) dX11_between_88 rfl ?_
            exact JS_iret dX11_between_90 rfl rfl h
set_option maxRecDepth 1000000 in
theorem bX11_between (a1 : Int32) (a2 : Int32) (a3 : Int32) {s : SM} {Q : Int32 → SM → Prop} (h : (((vX6_hasBody s 5 a1) = 0 → Q (-1 : Int32) s) ∧ (¬ (vX6_hasBody s 5 a1) = 0 → ((¬ (vX6_hasBody s 5 a2) = 0 → BI MX11_between 2 30 [(0, .ref 2), (1, .int a1), (2, .int a2), (3, .int a3), (4, .int (0 : Int32)), (5, .int (0 : Int32))] s Q) ∧ ((vX6_hasBody s 5 a2) = 0 → Q (-1 : Int32) s))))) : KI MX11_between 2 [.ref 2, .int a1, .int a2, .int a3] s Q := by
  show BI MX11_between 2 0 [(0, .ref 2), (1, .int a1), (2, .int a2), (3, .int a3)] s Q
  refine JT_aload_n (q := 0) dX11_between_0 rfl rfl ?_
  refine JS_getR (x := 5) dX11_between_1 flX11_19 BS_2 (Nat.le_of_ble_eq_true rfl) (Nat.le_of_ble_eq_true rfl) (Or.inl ⟨_, ct_11_1⟩) RF_2_1 ?_
  refine JT_iload_n (q := 1) dX11_between_4 rfl rfl ?_
  refine JS_callVI (M' := MX6_hasBody) (d' := 0) (As := [.int a1]) (rest := []) (P := (fun zv9 wm9 => (vX6_hasBody s 5 a1) = zv9 ∧ s = wm9)) dX11_between_5 cvX11_172 okX6_hasBody rfl (Nat.le_of_ble_eq_true rfl) BS_5 (Nat.le_of_ble_eq_true rfl) (Nat.le_of_ble_eq_true rfl) hci_6 (Nat.le_of_ble_eq_true rfl) (Nat.le_of_ble_eq_true rfl) (pX6_hasBody hp_5 (a1)  ⟨rfl, rfl⟩) (fun zv9 wm9 hq9 => ?_)
  obtain ⟨rfl, rfl⟩ := hq9
  refine JT_if_eq (tgt := 22) dX11_between_8 (by decide) (fun hc3 => ?_) (fun hc3 => ?_)
  · have h := h.1 hc3
    refine JT_iconst (v := -1) dX11_between_22 ic_m1 ?_
    exact JS_iret dX11_between_23 rfl rfl h
  · have h := h.2 hc3
    refine JT_aload_n (q := 0) dX11_between_11 rfl rfl ?_
    refine JS_getR (x := 5) dX11_between_12 flX11_19 BS_2 (Nat.le_of_ble_eq_true rfl) (Nat.le_of_ble_eq_true rfl) (Or.inl ⟨_, ct_11_1⟩) RF_2_1 ?_
    refine JT_iload_n (q := 2) dX11_between_15 rfl rfl ?_
    refine JS_callVI (M' := MX6_hasBody) (d' := 0) (As := [.int a2]) (rest := []) (P := (fun zv9 wm9 => (vX6_hasBody s 5 a2) = zv9 ∧ s = wm9)) dX11_between_16 cvX11_172 okX6_hasBody rfl (Nat.le_of_ble_eq_true rfl) BS_5 (Nat.le_of_ble_eq_true rfl) (Nat.le_of_ble_eq_true rfl) hci_6 (Nat.le_of_ble_eq_true rfl) (Nat.le_of_ble_eq_true rfl) (pX6_hasBody hp_5 (a2)  ⟨rfl, rfl⟩) (fun zv9 wm9 hq9 => ?_)
    obtain ⟨rfl, rfl⟩ := hq9
    refine JT_if_ne (tgt := 24) dX11_between_19 (by decide) (fun hc1 => ?_) (fun hc1 => ?_)
    · have h := h.1 hc1
      refine JT_iconst (v := 0) dX11_between_24 ic_0 ?_
      refine JT_istore (lv' := [(4, .int (0 : Int32)), (0, .ref 2), (1, .int a1), (2, .int a2), (3, .int a3)]) dX11_between_25 (Nat.le_of_ble_eq_true rfl) rfl ?_
      refine JT_iconst (v := 0) dX11_between_27 ic_0 ?_
      refine JT_istore (lv' := [(5, .int (0 : Int32)), (4, .int (0 : Int32)), (0, .ref 2), (1, .int a1), (2, .int a2), (3, .int a3)]) dX11_between_28 (Nat.le_of_ble_eq_true rfl) rfl ?_
      exact JT_sub [2, 3, 4, 5, 1, 0] rfl h
    · have h := h.2 hc1
      refine JT_iconst (v := -1) dX11_between_22 ic_m1 ?_
      exact JS_iret dX11_between_23 rfl rfl h
set_option maxRecDepth 1000000 in
theorem gX11_between  : ∀ n : Nat, (∀ (a1 : Int32) (a2 : Int32) (a3 : Int32) (a4 : Int32) (a5 : Int32) (s : SM) (Q : Int32 → SM → Prop), ((qX11_between n) s a1 a2 a3 a4 a5) → Q ((lX11_between n) s a1 a2 a3 a4 a5) s → BI MX11_between 2 30 [(0, .ref 2), (1, .int a1), (2, .int a2), (3, .int a3), (4, .int a4), (5, .int a5)] s Q) := by
  intro n
  induction n with
  | zero => exact fun _ _ _ _ _ _ _ hq _ => absurd hq id
  | succ n ih =>
    intro a1 a2 a3 a4 a5 s Q hr h
    replace hr : uX11_between_30 (qX11_between n) s a1 a2 a3 a4 a5 := hr
    replace h : Q (tX11_between_30 (lX11_between n) s a1 a2 a3 a4 a5) s := h
    unfold uX11_between_30 at hr
    unfold tX11_between_30 at h
    refine bX11_between_30 a1 a2 a3 a4 a5 ?_
    refine ⟨fun c => ?_, fun c => ?_⟩
    · replace h := qlp c h
      first | exact h | contradiction
    · replace hr := hr c
      replace h := qln c h
      refine ⟨hr.1, ?_⟩
      replace hr := hr.2
      refine ⟨fun c => ?_, fun c => ?_⟩
      · replace hr := hr.1 c
        replace h := qlp c h
        first | exact ih a1 a2 a3 a4 (a5 + 1) _ Q hr h | contradiction
      · replace hr := hr.2 c
        replace h := qln c h
        refine ⟨hr.1, ?_⟩
        replace hr := hr.2
        refine ⟨fun c => ?_, fun c => ?_⟩
        · replace hr := hr.1 c
          replace h := qln c h
          first | exact ih a1 a2 a3 a4 (a5 + 1) _ Q hr h | contradiction
        · replace hr := hr.2 c
          replace h := qlp c h
          refine ⟨hr.1, ?_⟩
          replace hr := hr.2
          refine ⟨fun c => ?_, fun c => ?_⟩
          · replace hr := hr.1 c
            replace h := qln c h
            first | exact ih a1 a2 a3 a4 (a5 + 1) _ Q hr h | contradiction
          · replace hr := hr.2 c
            replace h := qlp c h
            refine ⟨fun c => ?_, fun c => ?_⟩
            · replace hr := hr c
              replace h := qln c h
              first | exact ih a1 a2 a3 (a4 + 1) (a5 + 1) _ Q hr h | contradiction
            · replace h := qlp c h
              first | exact h | contradiction
set_option maxRecDepth 1000000 in
theorem pX11_between (a1 : Int32) (a2 : Int32) (a3 : Int32) {s : SM} {Q : Int32 → SM → Prop} (hr : rX11_between s a1 a2 a3) (h : Q (vX11_between s a1 a2 a3) s) : KI MX11_between 2 [.ref 2, .int a1, .int a2, .int a3] s Q := by
  replace h : Q (fX11_between s a1 a2 a3) s := h
  unfold rX11_between at hr
  unfold fX11_between at h
  refine bX11_between a1 a2 a3 ?_
  refine ⟨fun c => ?_, fun c => ?_⟩
  · replace h := qlp c h
    first | exact h | contradiction
  · replace hr := hr c
    replace h := qln c h
    refine ⟨fun c => ?_, fun c => ?_⟩
    · replace hr := hr c
      replace h := qln c h
      first | exact (gX11_between  FU) a1 a2 a3 (0 : Int32) (0 : Int32) _ Q hr h | contradiction
    · replace h := qlp c h
      first | exact h | contradiction
