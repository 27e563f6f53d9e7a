set_option maxRecDepth 1000000 in
theorem bX12_does (a1 : Int32) {s : SM} {Q : Int32 → SM → Prop} (h : vp_in (a1 + (1 : Int32)) 787 ∧ vp_in (a1 + (2 : Int32)) 787 ∧ vp_in a1 787 ∧ (((gI s 250 (a1).toNatClampNeg) = 0 → vp_in (a1 + (4 : Int32)) 787 ∧ rX12_whyWrite s (gI s 250 ((a1 + (1 : Int32))).toNatClampNeg) (gI s 250 ((a1 + (2 : Int32))).toNatClampNeg) (gI s 250 ((a1 + (4 : Int32))).toNatClampNeg) ∧ ((¬ (vX12_whyWrite s (gI s 250 ((a1 + (1 : Int32))).toNatClampNeg) (gI s 250 ((a1 + (2 : Int32))).toNatClampNeg) (gI s 250 ((a1 + (4 : Int32))).toNatClampNeg)) = 0 → Q (vX12_whyWrite s (gI s 250 ((a1 + (1 : Int32))).toNatClampNeg) (gI s 250 ((a1 + (2 : Int32))).toNatClampNeg) (gI s 250 ((a1 + (4 : Int32))).toNatClampNeg)) s) ∧ ((vX12_whyWrite s (gI s 250 ((a1 + (1 : Int32))).toNatClampNeg) (gI s 250 ((a1 + (2 : Int32))).toNatClampNeg) (gI s 250 ((a1 + (4 : Int32))).toNatClampNeg)) = 0 → vp_in (a1 + (3 : Int32)) 787 ∧ vp_in (a1 + (4 : Int32)) 787 ∧ rX12_writes s (gI s 250 ((a1 + (1 : Int32))).toNatClampNeg) (gI s 250 ((a1 + (2 : Int32))).toNatClampNeg) (gI s 250 ((a1 + (3 : Int32))).toNatClampNeg) (gI s 250 ((a1 + (4 : Int32))).toNatClampNeg) ∧ (∀ s9, s9 = (mX12_writes s (gI s 250 ((a1 + (1 : Int32))).toNatClampNeg) (gI s 250 ((a1 + (2 : Int32))).toNatClampNeg) (gI s 250 ((a1 + (3 : Int32))).toNatClampNeg) (gI s 250 ((a1 + (4 : Int32))).toNatClampNeg)) → Q (vX12_whyWrite s (gI s 250 ((a1 + (1 : Int32))).toNatClampNeg) (gI s 250 ((a1 + (2 : Int32))).toNatClampNeg) (gI s 250 ((a1 + (4 : Int32))).toNatClampNeg)) s9)))) ∧ ((gI s 250 (a1).toNatClampNeg) = 1 → rX12_whyStrike s (gI s 250 ((a1 + (1 : Int32))).toNatClampNeg) ∧ ((¬ (vX12_whyStrike s (gI s 250 ((a1 + (1 : Int32))).toNatClampNeg)) = 0 → Q (vX12_whyStrike s (gI s 250 ((a1 + (1 : Int32))).toNatClampNeg)) s) ∧ ((vX12_whyStrike s (gI s 250 ((a1 + (1 : Int32))).toNatClampNeg)) = 0 → rX12_strikes s (gI s 250 ((a1 + (1 : Int32))).toNatClampNeg) ∧ Q (vX12_whyStrike s (gI s 250 ((a1 + (1 : Int32))).toNatClampNeg)) (mX12_strikes s (gI s 250 ((a1 + (1 : Int32))).toNatClampNeg))))) ∧ ((gI s 250 (a1).toNatClampNeg) = 2 → rX12_whyScar s (gI s 250 ((a1 + (1 : Int32))).toNatClampNeg) (gI s 250 ((a1 + (2 : Int32))).toNatClampNeg) ∧ ((¬ (vX12_whyScar s (gI s 250 ((a1 + (1 : Int32))).toNatClampNeg) (gI s 250 ((a1 + (2 : Int32))).toNatClampNeg)) = 0 → Q (vX12_whyScar s (gI s 250 ((a1 + (1 : Int32))).toNatClampNeg) (gI s 250 ((a1 + (2 : Int32))).toNatClampNeg)) s) ∧ ((vX12_whyScar s (gI s 250 ((a1 + (1 : Int32))).toNatClampNeg) (gI s 250 ((a1 + (2 : Int32))).toNatClampNeg)) = 0 → rX12_of s (gI s 250 ((a1 + (1 : Int32))).toNatClampNeg) (8 : Int32) ∧ rX12_set s (gI s 250 ((a1 + (1 : Int32))).toNatClampNeg) (8 : Int32) ((vX12_of s (gI s 250 ((a1 + (1 : Int32))).toNatClampNeg) (8 : Int32)) ||| ((1 : Int32) <<< ((gI s 250 ((a1 + (2 : Int32))).toNatClampNeg) &&& 31))) ∧ (∀ s16, s16 = (mX12_set s (gI s 250 ((a1 + (1 : Int32))).toNatClampNeg) (8 : Int32) ((vX12_of s (gI s 250 ((a1 + (1 : Int32))).toNatClampNeg) (8 : Int32)) ||| ((1 : Int32) <<< ((gI s 250 ((a1 + (2 : Int32))).toNatClampNeg) &&& 31)))) → Q (vX12_whyScar s (gI s 250 ((a1 + (1 : Int32))).toNatClampNeg) (gI s 250 ((a1 + (2 : Int32))).toNatClampNeg)) s16)))) ∧ ((gI s 250 (a1).toNatClampNeg) = 3 → rX12_bestOf s (-1 : Int32) ∧ ((0 ≤ (vX12_bestOf s (-1 : Int32)) → rX12_cuts (mX12_bestOf s (-1 : Int32))  ∧ Q (0 : Int32) (mX12_cuts (mX12_bestOf s (-1 : Int32)) )) ∧ (¬ 0 ≤ (vX12_bestOf s (-1 : Int32)) → Q (8 : Int32) (mX12_bestOf s (-1 : Int32))))) ∧ ((gI s 250 (a1).toNatClampNeg) = 4 → ((¬ (vX12_whyDies s (gI s 250 ((a1 + (1 : Int32))).toNatClampNeg) (gI s 250 ((a1 + (2 : Int32))).toNatClampNeg)) = 0 → Q (vX12_whyDies s (gI s 250 ((a1 + (1 : Int32))).toNatClampNeg) (gI s 250 ((a1 + (2 : Int32))).toNatClampNeg)) s) ∧ ((vX12_whyDies s (gI s 250 ((a1 + (1 : Int32))).toNatClampNeg) (gI s 250 ((a1 + (2 : Int32))).toNatClampNeg)) = 0 → rX12_buries s (gI s 250 ((a1 + (1 : Int32))).toNatClampNeg) (gI s 250 ((a1 + (2 : Int32))).toNatClampNeg) ∧ Q (vX12_whyDies s (gI s 250 ((a1 + (1 : Int32))).toNatClampNeg) (gI s 250 ((a1 + (2 : Int32))).toNatClampNeg)) (mX12_buries s (gI s 250 ((a1 + (1 : Int32))).toNatClampNeg) (gI s 250 ((a1 + (2 : Int32))).toNatClampNeg))))) ∧ (((gI s 250 (a1).toNatClampNeg).toInt < 0 ∨ 4 < (gI s 250 (a1).toNatClampNeg).toInt) → ((¬ (gI s 250 ((35 : Int32)).toNatClampNeg) = (99 : Int32) → Q (0 : Int32) (pI s 250 ((35 : Int32)).toNatClampNeg ((gI s 250 ((35 : Int32)).toNatClampNeg) + (1 : Int32)))) ∧ ((gI s 250 ((35 : Int32)).toNatClampNeg) = (99 : Int32) → Q (9 : Int32) s))))) : KI MX12_does 6 [.ref 248, .int a1] s Q := by
  show BI MX12_does 6 0 [(0, .ref 248), (1, .int a1)] s Q
  refine JT_aload_n (q := 0) dX12_does_0 rfl rfl ?_
  refine JS_getR (x := 250) dX12_does_1 flX12_33 BS_248 (Nat.le_of_ble_eq_true rfl) (Nat.le_of_ble_eq_true rfl) (Or.inr ⟨_, ct_12_6⟩) RF_248_6 ?_
  refine JT_iload_n (q := 1) dX12_does_4 rfl rfl ?_
  refine JT_iconst (v := 1) dX12_does_5 ic_1 ?_
  refine JT_iadd dX12_does_6 ?_
  obtain ⟨o1, h⟩ := h
  refine JS_iald dX12_does_7 BS_250 (Nat.le_of_ble_eq_true rfl) (Nat.le_of_ble_eq_true rfl) o1 ?_
  refine JT_istore_n (lv' := [(2, .int (gI s 250 ((a1 + (1 : Int32))).toNatClampNeg)), (0, .ref 248), (1, .int a1)]) dX12_does_8 rfl (Nat.le_of_ble_eq_true rfl) rfl ?_
  refine JT_aload_n (q := 1) dX12_does_9 rfl rfl ?_
  refine JS_getR (x := 250) dX12_does_10 flX12_33 BS_248 (Nat.le_of_ble_eq_true rfl) (Nat.le_of_ble_eq_true rfl) (Or.inr ⟨_, ct_12_6⟩) RF_248_6 ?_
  refine JT_iload_n (q := 2) dX12_does_13 rfl rfl ?_
  refine JT_iconst (v := 2) dX12_does_14 ic_2 ?_
  refine JT_iadd dX12_does_15 ?_
  obtain ⟨o2, h⟩ := h
  refine JS_iald dX12_does_16 BS_250 (Nat.le_of_ble_eq_true rfl) (Nat.le_of_ble_eq_true rfl) o2 ?_
  refine JT_istore_n (lv' := [(3, .int (gI s 250 ((a1 + (2 : Int32))).toNatClampNeg)), (2, .int (gI s 250 ((a1 + (1 : Int32))).toNatClampNeg)), (0, .ref 248), (1, .int a1)]) dX12_does_17 rfl (Nat.le_of_ble_eq_true rfl) rfl ?_
  refine JT_iconst (v := 0) dX12_does_18 ic_0 ?_
  refine JT_istore (lv' := [(4, .int (0 : Int32)), (3, .int (gI s 250 ((a1 + (2 : Int32))).toNatClampNeg)), (2, .int (gI s 250 ((a1 + (1 : Int32))).toNatClampNeg)), (0, .ref 248), (1, .int a1)]) dX12_does_19 (Nat.le_of_ble_eq_true rfl) rfl ?_
  refine JT_aload_n (q := 3) dX12_does_21 rfl rfl ?_
  refine JS_getR (x := 250) dX12_does_22 flX12_33 BS_248 (Nat.le_of_ble_eq_true rfl) (Nat.le_of_ble_eq_true rfl) (Or.inr ⟨_, ct_12_6⟩) RF_248_6 ?_
  refine JT_iload_n (q := 4) dX12_does_25 rfl rfl ?_
  obtain ⟨o3, h⟩ := h
  refine JS_iald dX12_does_26 BS_250 (Nat.le_of_ble_eq_true rfl) (Nat.le_of_ble_eq_true rfl) o3 ?_
  by_cases ho4 : ((gI s 250 (a1).toNatClampNeg)).toInt < 0 ∨ 4 < ((gI s 250 (a1).toNatClampNeg)).toInt
  · have h := h.2.2.2.2.2 ho4
    refine JT_tableOut (tgt := 201) dX12_does_27 ho4 (by decide) ?_
    refine JT_aload_n (q := 3) dX12_does_201 rfl rfl ?_
    refine JS_getR (x := 250) dX12_does_202 flX12_33 BS_248 (Nat.le_of_ble_eq_true rfl) (Nat.le_of_ble_eq_true rfl) (Or.inr ⟨_, ct_12_6⟩) RF_248_6 ?_
    refine JT_bipush (v := 35) dX12_does_205 bp_35 ?_
    refine JS_iald dX12_does_207 BS_250 (Nat.le_of_ble_eq_true rfl) (Nat.le_of_ble_eq_true rfl) (by unfold vp_in; decide) ?_
    refine JT_bipush (v := 99) dX12_does_208 bp_99 ?_
    refine JT_icmp_ne (tgt := 216) dX12_does_210 (by decide) (fun hc5 => ?_) (fun hc5 => ?_)
    · have h := h.1 hc5
      refine JT_aload_n (q := 3) dX12_does_216 rfl rfl ?_
      refine JS_getR (x := 250) dX12_does_217 flX12_33 BS_248 (Nat.le_of_ble_eq_true rfl) (Nat.le_of_ble_eq_true rfl) (Or.inr ⟨_, ct_12_6⟩) RF_248_6 ?_
      refine JT_bipush (v := 35) dX12_does_220 bp_35 ?_
      refine JT_dup2 dX12_does_222 rfl rfl ?_
      refine JS_iald dX12_does_223 BS_250 (Nat.le_of_ble_eq_true rfl) (Nat.le_of_ble_eq_true rfl) (by unfold vp_in; decide) ?_
      refine JT_iconst (v := 1) dX12_does_224 ic_1 ?_
      refine JT_iadd dX12_does_225 ?_
      refine JS_iast dX12_does_226 BS_250 (Nat.le_of_ble_eq_true rfl) (Nat.le_of_ble_eq_true rfl) (by unfold vp_in; decide) ?_
      refine JT_iconst (v := 0) dX12_does_227 ic_0 ?_
      exact JS_iret dX12_does_228 rfl rfl h
    · have h := h.2 hc5
      refine JT_bipush (v := 9) dX12_does_213 bp_9 ?_
      exact JS_iret dX12_does_215 rfl rfl h
  · have hk27 : ((gI s 250 (a1).toNatClampNeg)).toInt = 0 ∨ ((gI s 250 (a1).toNatClampNeg)).toInt = 1 ∨ ((gI s 250 (a1).toNatClampNeg)).toInt = 2 ∨ ((gI s 250 (a1).toNatClampNeg)).toInt = 3 ∨ ((gI s 250 (a1).toNatClampNeg)).toInt = 4 := by omega
    rcases hk27 with hk27 | hk27 | hk27 | hk27 | hk27
    · have h := h.1 (i32_of_toInt hk27)
      refine JT_tableIn (tgt := 60) dX12_does_27 (by omega) (by omega) (by rw [hk27]; rfl) (by decide) ?_
      refine JT_aload_n (q := 3) dX12_does_60 rfl rfl ?_
      refine JT_iload_n (q := 2) dX12_does_61 rfl rfl ?_
      refine JT_iload_n (q := 1) dX12_does_62 rfl rfl ?_
      refine JT_aload_n (q := 3) dX12_does_63 rfl rfl ?_
      refine JS_getR (x := 250) dX12_does_64 flX12_33 BS_248 (Nat.le_of_ble_eq_true rfl) (Nat.le_of_ble_eq_true rfl) (Or.inr ⟨_, ct_12_6⟩) RF_248_6 ?_
      refine JT_iload_n (q := 4) dX12_does_67 rfl rfl ?_
      refine JT_iconst (v := 4) dX12_does_68 ic_4 ?_
      refine JT_iadd dX12_does_69 ?_
      obtain ⟨o6, h⟩ := h
      refine JS_iald dX12_does_70 BS_250 (Nat.le_of_ble_eq_true rfl) (Nat.le_of_ble_eq_true rfl) o6 ?_
      obtain ⟨o12, h⟩ := h
      refine JS_callVI (M' := MX12_whyWrite) (d' := 4) (As := [.int (gI s 250 ((a1 + (1 : Int32))).toNatClampNeg), .int (gI s 250 ((a1 + (2 : Int32))).toNatClampNeg), .int (gI s 250 ((a1 + (4 : Int32))).toNatClampNeg)]) (rest := []) (P := (fun zv9 wm9 => (vX12_whyWrite s (gI s 250 ((a1 + (1 : Int32))).toNatClampNeg) (gI s 250 ((a1 + (2 : Int32))).toNatClampNeg) (gI s 250 ((a1 + (4 : Int32))).toNatClampNeg)) = zv9 ∧ s = wm9)) dX12_does_71 cvX12_326 okX12_whyWrite rfl (Nat.le_of_ble_eq_true rfl) BS_248 (Nat.le_of_ble_eq_true rfl) (Nat.le_of_ble_eq_true rfl) hci_12 (Nat.le_of_ble_eq_true rfl) (Nat.le_of_ble_eq_true rfl) (pX12_whyWrite  ((gI s 250 ((a1 + (1 : Int32))).toNatClampNeg)) ((gI s 250 ((a1 + (2 : Int32))).toNatClampNeg)) ((gI s 250 ((a1 + (4 : Int32))).toNatClampNeg)) o12 ⟨rfl, rfl⟩) (fun zv9 wm9 hq9 => ?_)
      obtain ⟨rfl, rfl⟩ := hq9
      refine JT_istore (lv' := [(4, .int (vX12_whyWrite s (gI s 250 ((a1 + (1 : Int32))).toNatClampNeg) (gI s 250 ((a1 + (2 : Int32))).toNatClampNeg) (gI s 250 ((a1 + (4 : Int32))).toNatClampNeg))), (3, .int (gI s 250 ((a1 + (2 : Int32))).toNatClampNeg)), (2, .int (gI s 250 ((a1 + (1 : Int32))).toNatClampNeg)), (0, .ref 248), (1, .int a1)]) dX12_does_74 (Nat.le_of_ble_eq_true rfl) rfl ?_
      refine JT_iload (q := 0) dX12_does_76 rfl ?_
      refine JT_if_ne (tgt := 103) dX12_does_78 (by decide) (fun hc11 => ?_) (fun hc11 => ?_)
      · have h := h.1 hc11
        refine JT_iload (q := 0) dX12_does_103 rfl ?_
        exact JS_iret dX12_does_105 rfl rfl h
      · have h := h.2 hc11
        refine JT_aload_n (q := 3) dX12_does_81 rfl rfl ?_
        refine JT_iload_n (q := 2) dX12_does_82 rfl rfl ?_
        refine JT_iload_n (q := 1) dX12_does_83 rfl rfl ?_
        refine JT_aload_n (q := 3) dX12_does_84 rfl rfl ?_
        refine JS_getR (x := 250) dX12_does_85 flX12_33 BS_248 (Nat.le_of_ble_eq_true rfl) (Nat.le_of_ble_eq_true rfl) (Or.inr ⟨_, ct_12_6⟩) RF_248_6 ?_
        refine JT_iload_n (q := 4) dX12_does_88 rfl rfl ?_
        refine JT_iconst (v := 3) dX12_does_89 ic_3 ?_
        refine JT_iadd dX12_does_90 ?_
        obtain ⟨o7, h⟩ := h
        refine JS_iald dX12_does_91 BS_250 (Nat.le_of_ble_eq_true rfl) (Nat.le_of_ble_eq_true rfl) o7 ?_
        refine JT_aload_n (q := 3) dX12_does_92 rfl rfl ?_
        refine JS_getR (x := 250) dX12_does_93 flX12_33 BS_248 (Nat.le_of_ble_eq_true rfl) (Nat.le_of_ble_eq_true rfl) (Or.inr ⟨_, ct_12_6⟩) RF_248_6 ?_
        refine JT_iload_n (q := 4) dX12_does_96 rfl rfl ?_
        refine JT_iconst (v := 4) dX12_does_97 ic_4 ?_
        refine JT_iadd dX12_does_98 ?_
        obtain ⟨o8, h⟩ := h
        refine JS_iald dX12_does_99 BS_250 (Nat.le_of_ble_eq_true rfl) (Nat.le_of_ble_eq_true rfl) o8 ?_
        obtain ⟨o10, h⟩ := h
        refine JS_callVV (M' := MX12_writes) (d' := 4) (As := [.int (gI s 250 ((a1 + (1 : Int32))).toNatClampNeg), .int (gI s 250 ((a1 + (2 : Int32))).toNatClampNeg), .int (gI s 250 ((a1 + (3 : Int32))).toNatClampNeg), .int (gI s 250 ((a1 + (4 : Int32))).toNatClampNeg)]) (rest := []) (P := (fun wm9 => (mX12_writes s (gI s 250 ((a1 + (1 : Int32))).toNatClampNeg) (gI s 250 ((a1 + (2 : Int32))).toNatClampNeg) (gI s 250 ((a1 + (3 : Int32))).toNatClampNeg) (gI s 250 ((a1 + (4 : Int32))).toNatClampNeg)) = wm9)) dX12_does_100 cvX12_332 okX12_writes rfl (Nat.le_of_ble_eq_true rfl) BS_248 (Nat.le_of_ble_eq_true rfl) (Nat.le_of_ble_eq_true rfl) hci_12 (Nat.le_of_ble_eq_true rfl) (Nat.le_of_ble_eq_true rfl) (pX12_writes  ((gI s 250 ((a1 + (1 : Int32))).toNatClampNeg)) ((gI s 250 ((a1 + (2 : Int32))).toNatClampNeg)) ((gI s 250 ((a1 + (3 : Int32))).toNatClampNeg)) ((gI s 250 ((a1 + (4 : Int32))).toNatClampNeg)) o10 rfl) (fun wm9 hq9 => ?_)
        subst hq9
        obtain ⟨s9, hs9⟩ : ∃ z, z = (mX12_writes s (gI s 250 ((a1 + (1 : Int32))).toNatClampNeg) (gI s 250 ((a1 + (2 : Int32))).toNatClampNeg) (gI s 250 ((a1 + (3 : Int32))).toNatClampNeg) (gI s 250 ((a1 + (4 : Int32))).toNatClampNeg)) := ⟨_, rfl⟩
        replace h := h s9 hs9
        rw [← hs9]
        refine JT_iload (q := 0) dX12_does_103 rfl ?_
        exact JS_iret dX12_does_105 rfl rfl h
    · have h := h.2.1 (i32_of_toInt hk27)
      refine JT_tableIn (tgt := 106) dX12_does_27 (by omega) (by omega) (by rw [hk27]; rfl) (by decide) ?_
      refine JT_aload_n (q := 3) dX12_does_106 rfl rfl ?_
      refine JT_iload_n (q := 2) dX12_does_107 rfl rfl ?_
      obtain ⟨o15, h⟩ := h
      refine JS_callVI (M' := MX12_whyStrike) (d' := 3) (As := [.int (gI s 250 ((a1 + (1 : Int32))).toNatClampNeg)]) (rest := []) (P := (fun zv9 wm9 => (vX12_whyStrike s (gI s 250 ((a1 + (1 : Int32))).toNatClampNeg)) = zv9 ∧ s = wm9)) dX12_does_108 cvX12_336 okX12_whyStrike rfl (Nat.le_of_ble_eq_true rfl) BS_248 (Nat.le_of_ble_eq_true rfl) (Nat.le_of_ble_eq_true rfl) hci_12 (Nat.le_of_ble_eq_true rfl) (Nat.le_of_ble_eq_true rfl) (pX12_whyStrike  ((gI s 250 ((a1 + (1 : Int32))).toNatClampNeg)) o15 ⟨rfl, rfl⟩) (fun zv9 wm9 hq9 => ?_)
      obtain ⟨rfl, rfl⟩ := hq9
      refine JT_istore (lv' := [(4, .int (vX12_whyStrike s (gI s 250 ((a1 + (1 : Int32))).toNatClampNeg))), (3, .int (gI s 250 ((a1 + (2 : Int32))).toNatClampNeg)), (2, .int (gI s 250 ((a1 + (1 : Int32))).toNatClampNeg)), (0, .ref 248), (1, .int a1)]) dX12_does_111 (Nat.le_of_ble_eq_true rfl) rfl ?_
      refine JT_iload (q := 0) dX12_does_113 rfl ?_
      refine JT_if_ne (tgt := 123) dX12_does_115 (by decide) (fun hc14 => ?_) (fun hc14 => ?_)
      · have h := h.1 hc14
        refine JT_iload (q := 0) dX12_does_123 rfl ?_
        exact JS_iret dX12_does_125 rfl rfl h
      · have h := h.2 hc14
        refine JT_aload_n (q := 3) dX12_does_118 rfl rfl ?_
        refine JT_iload_n (q := 2) dX12_does_119 rfl rfl ?_
        obtain ⟨o13, h⟩ := h
        refine JS_callVV (M' := MX12_strikes) (d' := 2) (As := [.int (gI s 250 ((a1 + (1 : Int32))).toNatClampNeg)]) (rest := []) (P := (fun wm9 => (mX12_strikes s (gI s 250 ((a1 + (1 : Int32))).toNatClampNeg)) = wm9)) dX12_does_120 cvX12_339 okX12_strikes rfl (Nat.le_of_ble_eq_true rfl) BS_248 (Nat.le_of_ble_eq_true rfl) (Nat.le_of_ble_eq_true rfl) hci_12 (Nat.le_of_ble_eq_true rfl) (Nat.le_of_ble_eq_true rfl) (pX12_strikes  ((gI s 250 ((a1 + (1 : Int32))).toNatClampNeg)) o13 rfl) (fun wm9 hq9 => ?_)
        subst hq9
        refine JT_iload (q := 0) dX12_does_123 rfl ?_
        exact JS_iret dX12_does_125 rfl rfl h
    · have h := h.2.2.1 (i32_of_toInt hk27)
      refine JT_tableIn (tgt := 126) dX12_does_27 (by omega) (by omega) (by rw [hk27]; rfl) (by decide) ?_
      refine JT_aload_n (q := 3) dX12_does_126 rfl rfl ?_
      refine JT_iload_n (q := 2) dX12_does_127 rfl rfl ?_
      refine JT_iload_n (q := 1) dX12_does_128 rfl rfl ?_
      obtain ⟨o20, h⟩ := h
      refine JS_callVI (M' := MX12_whyScar) (d' := 3) (As := [.int (gI s 250 ((a1 + (1 : Int32))).toNatClampNeg), .int (gI s 250 ((a1 + (2 : Int32))).toNatClampNeg)]) (rest := []) (P := (fun zv9 wm9 => (vX12_whyScar s (gI s 250 ((a1 + (1 : Int32))).toNatClampNeg) (gI s 250 ((a1 + (2 : Int32))).toNatClampNeg)) = zv9 ∧ s = wm9)) dX12_does_129 cvX12_342 okX12_whyScar rfl (Nat.le_of_ble_eq_true rfl) BS_248 (Nat.le_of_ble_eq_true rfl) (Nat.le_of_ble_eq_true rfl) hci_12 (Nat.le_of_ble_eq_true rfl) (Nat.le_of_ble_eq_true rfl) (pX12_whyScar  ((gI s 250 ((a1 + (1 : Int32))).toNatClampNeg)) ((gI s 250 ((a1 + (2 : Int32))).toNatClampNeg)) o20 ⟨rfl, rfl⟩) (fun zv9 wm9 hq9 => ?_)
      obtain ⟨rfl, rfl⟩ := hq9
      refine JT_istore (lv' := [(4, .int (vX12_whyScar s (gI s 250 ((a1 + (1 : Int32))).toNatClampNeg) (gI s 250 ((a1 + (2 : Int32))).toNatClampNeg))), (3, .int (gI s 250 ((a1 + (2 : Int32))).toNatClampNeg)), (2, .int (gI s 250 ((a1 + (1 : Int32))).toNatClampNeg)), (0, .ref 248), (1, .int a1)]) dX12_does_132 (Nat.le_of_ble_eq_true rfl) rfl ?_
      refine JT_iload (q := 0) dX12_does_134 rfl ?_
      refine JT_if_ne (tgt := 157) dX12_does_136 (by decide) (fun hc19 => ?_) (fun hc19 => ?_)
      · have h := h.1 hc19
        refine JT_iload (q := 0) dX12_does_157 rfl ?_
        exact JS_iret dX12_does_159 rfl rfl h
      · have h := h.2 hc19
        refine JT_aload_n (q := 3) dX12_does_139 rfl rfl ?_
        refine JT_iload_n (q := 2) dX12_does_140 rfl rfl ?_
        refine JT_bipush (v := 8) dX12_does_141 bp_8 ?_
        refine JT_aload_n (q := 3) dX12_does_143 rfl rfl ?_
        refine JT_iload_n (q := 2) dX12_does_144 rfl rfl ?_
        refine JT_bipush (v := 8) dX12_does_145 bp_8 ?_
        obtain ⟨o18, h⟩ := h
        refine JS_callVI (M' := MX12_of) (d' := 0) (As := [.int (gI s 250 ((a1 + (1 : Int32))).toNatClampNeg), .int (8 : Int32)]) (rest := [.int (8 : Int32), .int (gI s 250 ((a1 + (1 : Int32))).toNatClampNeg), .ref 248]) (P := (fun zv9 wm9 => (vX12_of s (gI s 250 ((a1 + (1 : Int32))).toNatClampNeg) (8 : Int32)) = zv9 ∧ s = wm9)) dX12_does_147 cvX12_265 okX12_of rfl (Nat.le_of_ble_eq_true rfl) BS_248 (Nat.le_of_ble_eq_true rfl) (Nat.le_of_ble_eq_true rfl) hci_12 (Nat.le_of_ble_eq_true rfl) (Nat.le_of_ble_eq_true rfl) (pX12_of  ((gI s 250 ((a1 + (1 : Int32))).toNatClampNeg)) ((8 : Int32)) o18 ⟨rfl, rfl⟩) (fun zv9 wm9 hq9 => ?_)
        obtain ⟨rfl, rfl⟩ := hq9
        refine JT_iconst (v := 1) dX12_does_150 ic_1 ?_
        refine JT_iload_n (q := 1) dX12_does_151 rfl rfl ?_
        refine JT_ishl dX12_does_152 ?_
        refine JT_ior dX12_does_153 ?_
        obtain ⟨o17, h⟩ := h
        refine JS_callVV (M' := MX12_set) (d' := 0) (As := [.int (gI s 250 ((a1 + (1 : Int32))).toNatClampNeg), .int (8 : Int32), .int ((vX12_of s (gI s 250 ((a1 + (1 : Int32))).toNatClampNeg) (8 : Int32)) ||| ((1 : Int32) <<< ((gI s 250 ((a1 + (2 : Int32))).toNatClampNeg) &&& 31)))]) (rest := []) (P := (fun wm9 => (mX12_set s (gI s 250 ((a1 + (1 : Int32))).toNatClampNeg) (8 : Int32) ((vX12_of s (gI s 250 ((a1 + (1 : Int32))).toNatClampNeg) (8 : Int32)) ||| ((1 : Int32) <<< ((gI s 250 ((a1 + (2 : Int32))).toNatClampNeg) &&& 31)))) = wm9)) dX12_does_154 cvX12_322 okX12_set rfl (Nat.le_of_ble_eq_true rfl) BS_248 (Nat.le_of_ble_eq_true rfl) (Nat.le_of_ble_eq_true rfl) hci_12 (Nat.le_of_ble_eq_true rfl) (Nat.le_of_ble_eq_true rfl) (pX12_set  ((gI s 250 ((a1 + (1 : Int32))).toNatClampNeg)) ((8 : Int32)) (((vX12_of s (gI s 250 ((a1 + (1 : Int32))).toNatClampNeg) (8 : Int32)) ||| ((1 : Int32) <<< ((gI s 250 ((a1 + (2 : Int32))).toNatClampNeg) &&& 31)))) o17 rfl) (fun wm9 hq9 => ?_)
        subst hq9
        obtain ⟨s16, hs16⟩ : ∃ z, z = (mX12_set s (gI s 250 ((a1 + (1 : Int32))).toNatClampNeg) (8 : Int32) ((vX12_of s (gI s 250 ((a1 + (1 : Int32))).toNatClampNeg) (8 : Int32)) ||| ((1 : Int32) <<< ((gI s 250 ((a1 + (2 : Int32))).toNatClampNeg) &&& 31)))) := ⟨_, rfl⟩
        replace h := h s16 hs16
        rw [← hs16]
        refine JT_iload (q := 0) dX12_does_157 rfl ?_
        exact JS_iret dX12_does_159 rfl rfl h
    · have h := h.2.2.2.1 (i32_of_toInt hk27)
      refine JT_tableIn (tgt := 160) dX12_does_27 (by omega) (by omega) (by rw [hk27]; rfl) (by decide) ?_
      refine JT_aload_n (q := 3) dX12_does_160 rfl rfl ?_
      refine JT_iconst (v := -1) dX12_does_161 ic_m1 ?_
      obtain ⟨o23, h⟩ := h
      refine JS_callVI (M' := MX12_bestOf) (d' := 5) (As := [.int (-1 : Int32)]) (rest := []) (P := (fun zv9 wm9 => (vX12_bestOf s (-1 : Int32)) = zv9 ∧ (mX12_bestOf s (-1 : Int32)) = wm9)) dX12_does_162 cvX12_365 okX12_bestOf rfl (Nat.le_of_ble_eq_true rfl) BS_248 (Nat.le_of_ble_eq_true rfl) (Nat.le_of_ble_eq_true rfl) hci_12 (Nat.le_of_ble_eq_true rfl) (Nat.le_of_ble_eq_true rfl) (pX12_bestOf  ((-1 : Int32)) o23 ⟨rfl, rfl⟩) (fun zv9 wm9 hq9 => ?_)
      obtain ⟨rfl, rfl⟩ := hq9
      refine JT_if_ge (tgt := 171) dX12_does_165 (by decide) (fun hc22 => ?_) (fun hc22 => ?_)
      · have h := h.1 hc22
        refine JT_aload_n (q := 3) dX12_does_171 rfl rfl ?_
        obtain ⟨o21, h⟩ := h
        refine JS_callVI (M' := MX12_cuts) (d' := 3) (As := []) (rest := []) (P := (fun zv9 wm9 => (vX12_cuts (mX12_bestOf s (-1 : Int32)) ) = zv9 ∧ (mX12_cuts (mX12_bestOf s (-1 : Int32)) ) = wm9)) dX12_does_172 cvX12_371 okX12_cuts rfl (Nat.le_of_ble_eq_true rfl) BS_248 (Nat.le_of_ble_eq_true rfl) (Nat.le_of_ble_eq_true rfl) hci_12 (Nat.le_of_ble_eq_true rfl) (Nat.le_of_ble_eq_true rfl) (pX12_cuts   o21 ⟨rfl, rfl⟩) (fun zv9 wm9 hq9 => ?_)
        obtain ⟨rfl, rfl⟩ := hq9
        refine JT_pop dX12_does_175 rfl ?_
        refine JT_iconst (v := 0) dX12_does_176 ic_0 ?_
        exact JS_iret dX12_does_177 rfl rfl h
      · have h := h.2 hc22
        refine JT_bipush (v := 8) dX12_does_168 bp_8 ?_
        exact JS_iret dX12_does_170 rfl rfl h
    · have h := h.2.2.2.2.1 (i32_of_toInt hk27)
      refine JT_tableIn (tgt := 178) dX12_does_27 (by omega) (by omega) (by rw [hk27]; rfl) (by decide) ?_
      refine JT_aload_n (q := 3) dX12_does_178 rfl rfl ?_
      refine JT_iload_n (q := 2) dX12_does_179 rfl rfl ?_
      refine JT_iload_n (q := 1) dX12_does_180 rfl rfl ?_
      refine JS_callVI (M' := MX12_whyDies) (d' := 2) (As := [.int (gI s 250 ((a1 + (1 : Int32))).toNatClampNeg), .int (gI s 250 ((a1 + (2 : Int32))).toNatClampNeg)]) (rest := []) (P := (fun zv9 wm9 => (vX12_whyDies s (gI s 250 ((a1 + (1 : Int32))).toNatClampNeg) (gI s 250 ((a1 + (2 : Int32))).toNatClampNeg)) = zv9 ∧ s = wm9)) dX12_does_181 cvX12_374 okX12_whyDies rfl (Nat.le_of_ble_eq_true rfl) BS_248 (Nat.le_of_ble_eq_true rfl) (Nat.le_of_ble_eq_true rfl) hci_12 (Nat.le_of_ble_eq_true rfl) (Nat.le_of_ble_eq_true rfl) (pX12_whyDies  ((gI s 250 ((a1 + (1 : Int32))).toNatClampNeg)) ((gI s 250 ((a1 + (2 : Int32))).toNatClampNeg))  ⟨rfl, rfl⟩) (fun zv9 wm9 hq9 => ?_)
      obtain ⟨rfl, rfl⟩ := hq9
      refine JT_istore (lv' := [(4, .int (vX12_whyDies s (gI s 250 ((a1 + (1 : Int32))).toNatClampNeg) (gI s 250 ((a1 + (2 : Int32))).toNatClampNeg))), (3, .int (gI s 250 ((a1 + (2 : Int32))).toNatClampNeg)), (2, .int (gI s 250 ((a1 + (1 : Int32))).toNatClampNeg)), (0, .ref 248), (1, .int a1)]) dX12_does_184 (Nat.le_of_ble_eq_true rfl) rfl ?_
      refine JT_iload (q := 0) dX12_does_186 rfl ?_
      refine JT_if_ne (tgt := 198) dX12_does_188 (by decide) (fun hc25 => ?_) (fun hc25 => ?_)
      · have h := h.1 hc25
        refine JT_iload (q := 0) dX12_does_198 rfl ?_
        exact JS_iret dX12_does_200 rfl rfl h
      · have h := h.2 hc25
        refine JT_aload_n (q := 3) dX12_does_191 rfl rfl ?_
        refine JT_iload_n (q := 2) dX12_does_192 rfl rfl ?_
        refine JT_iload_n (q := 1) dX12_does_193 rfl rfl ?_
        obtain ⟨o24, h⟩ := h
        refine JS_callVI (M' := MX12_buries) (d' := 3) (As := [.int (gI s 250 ((a1 + (1 : Int32))).toNatClampNeg), .int (gI s 250 ((a1 + (2 : Int32))).toNatClampNeg)]) (rest := []) (P := (fun zv9 wm9 => (vX12_buries s (gI s 250 ((a1 + (1 : Int32))).toNatClampNeg) (gI s 250 ((a1 + (2 : Int32))).toNatClampNeg)) = zv9 ∧ (mX12_buries s (gI s 250 ((a1 + (1 : Int32))).toNatClampNeg) (gI s 250 ((a1 + (2 : Int32))).toNatClampNeg)) = wm9)) dX12_does_194 cvX12_377 okX12_buries rfl (Nat.le_of_ble_eq_true rfl) BS_248 (Nat.le_of_ble_eq_true rfl) (Nat.le_of_ble_eq_true rfl) hci_12 (Nat.le_of_ble_eq_true rfl) (Nat.le_of_ble_eq_true rfl) (pX12_buries  ((gI s 250 ((a1 + (1 : Int32))).toNatClampNeg)) ((gI s 250 ((a1 + (2 : Int32))).toNatClampNeg)) o24 ⟨rfl, rfl⟩) (fun zv9 wm9 hq9 => ?_)
        obtain ⟨rfl, rfl⟩ := hq9
        refine JT_pop dX12_does_197 rfl ?_
        refine JT_iload (q := 0) dX12_does_198 rfl ?_
        exact JS_iret dX12_does_200 rfl rfl h
set_option maxRecDepth 1000000 in
theorem pX12_does (a1 : Int32) {s : SM} {Q : Int32 → SM → Prop} (hr : rX12_does s a1) (h : Q (vX12_does s a1) (mX12_does s a1)) : KI MX12_does 6 [.ref 248, .int a1] s Q := by
  refine bX12_does a1 ?_
  unfold rX12_does at hr
  unfold vX12_does mX12_does at h
  refine ⟨hr.1, ?_⟩
  replace hr := hr.2
  refine ⟨hr.1, ?_⟩
  replace hr := hr.2
  refine ⟨hr.1, ?_⟩
  replace hr := hr.2
  refine ⟨fun c => ?_, fun c => ?_, fun c => ?_, fun c => ?_, fun c => ?_, fun c => ?_⟩
  · replace hr := hr.1 c
    replace h := q2p c h
    refine ⟨hr.1, ?_⟩
    replace hr := hr.2
    refine ⟨hr.1, ?_⟩
    replace hr := hr.2
    refine ⟨fun c => ?_, fun c => ?_⟩
    · replace h := qrn c h
      first | exact h | contradiction
    · replace hr := hr c
      replace h := qrp c h
      refine ⟨hr.1, ?_⟩
      replace hr := hr.2
      refine ⟨hr.1, ?_⟩
      replace hr := hr.2
      refine ⟨hr, ?_⟩
      intro s9 e9
      try rw [← e9] at h
      try dsimp only at h
      first | exact h | contradiction
  · replace hr := hr.2.1 c
    have n0 : ¬ (gI s 250 (a1).toNatClampNeg) = (0 : Int32) := by rw [c]; decide
    replace h := q2n n0 h
    replace h := q2p c h
    refine ⟨hr.1, ?_⟩
    replace hr := hr.2
    refine ⟨fun c => ?_, fun c => ?_⟩
    · replace h := qrn c h
      first | exact h | contradiction
    · replace hr := hr c
      replace h := qrp c h
      refine ⟨hr, ?_⟩
      first | exact h | contradiction
  · replace hr := hr.2.2.1 c
    have n0 : ¬ (gI s 250 (a1).toNatClampNeg) = (0 : Int32) := by rw [c]; decide
    replace h := q2n n0 h
    have n1 : ¬ (gI s 250 (a1).toNatClampNeg) = (1 : Int32) := by rw [c]; decide
    replace h := q2n n1 h
    replace h := q2p c h
    refine ⟨hr.1, ?_⟩
    replace hr := hr.2
    refine ⟨fun c => ?_, fun c => ?_⟩
    · replace h := qrn c h
      first | exact h | contradiction
    · replace hr := hr c
      replace h := qrp c h
      refine ⟨hr.1, ?_⟩
      replace hr := hr.2
      refine ⟨hr, ?_⟩
      intro s16 e9
      try rw [← e9] at h
      try dsimp only at h
      first | exact h | contradiction
  · replace hr := hr.2.2.2.1 c
    have n0 : ¬ (gI s 250 (a1).toNatClampNeg) = (0 : Int32) := by rw [c]; decide
    replace h := q2n n0 h
    have n1 : ¬ (gI s 250 (a1).toNatClampNeg) = (1 : Int32) := by rw [c]; decide
    replace h := q2n n1 h
    have n2 : ¬ (gI s 250 (a1).toNatClampNeg) = (2 : Int32) := by rw [c]; decide
    replace h := q2n n2 h
    replace h := q2p c h
    refine ⟨hr.1, ?_⟩
    replace hr := hr.2
    refine ⟨fun c => ?_, fun c => ?_⟩
    · replace hr := hr c
      replace h := q2p c h
      refine ⟨hr, ?_⟩
      first | exact h | contradiction
    · replace h := q2n c h
      first | exact h | contradiction
  · replace hr := hr.2.2.2.2 c
    have n0 : ¬ (gI s 250 (a1).toNatClampNeg) = (0 : Int32) := by rw [c]; decide
    replace h := q2n n0 h
    have n1 : ¬ (gI s 250 (a1).toNatClampNeg) = (1 : Int32) := by rw [c]; decide
    replace h := q2n n1 h
    have n2 : ¬ (gI s 250 (a1).toNatClampNeg) = (2 : Int32) := by rw [c]; decide
    replace h := q2n n2 h
    have n3 : ¬ (gI s 250 (a1).toNatClampNeg) = (3 : Int32) := by rw [c]; decide
    replace h := q2n n3 h
    replace h := q2p c h
    refine ⟨fun c => ?_, fun c => ?_⟩
    · replace h := qrn c h
      first | exact h | contradiction
    · replace hr := hr c
      replace h := qrp c h
      refine ⟨hr, ?_⟩
      first | exact h | contradiction
  · have n0 : ¬ (gI s 250 (a1).toNatClampNeg) = (0 : Int32) := by intro e9; rw [e9] at c; revert c; decide
    replace h := q2n n0 h
    have n1 : ¬ (gI s 250 (a1).toNatClampNeg) = (1 : Int32) := by intro e9; rw [e9] at c; revert c; decide
    replace h := q2n n1 h
    have n2 : ¬ (gI s 250 (a1).toNatClampNeg) = (2 : Int32) := by intro e9; rw [e9] at c; revert c; decide
    replace h := q2n n2 h
    have n3 : ¬ (gI s 250 (a1).toNatClampNeg) = (3 : Int32) := by intro e9; rw [e9] at c; revert c; decide
    replace h := q2n n3 h
    have n4 : ¬ (gI s 250 (a1).toNatClampNeg) = (4 : Int32) := by intro e9; rw [e9] at c; revert c; decide
    replace h := q2n n4 h
    refine ⟨fun c => ?_, fun c => ?_⟩
    · replace h := q2n c h
      first | exact h | contradiction
    · replace h := q2p c h
      first | exact h | contradiction
set_option maxRecDepth 1000000 in
theorem bX12_fits_52 (a1 : Int32) (a2 : Int32) (a3 : Int32) {s : SM} {Q : Int32 → SM → Prop} (h : (((gI s 250 ((0 : Int32)).toNatClampNeg) ≤ a3 → BI MX12_fits 6 112 [(0, .ref 248), (1, .int a1), (2, .int a2), (3, .int (0 : Int32))] s Q) ∧ (¬ (gI s 250 ((0 : Int32)).toNatClampNeg) ≤ a3 → rX12_octet s ((2 : Int32) * a3) ∧ rX12_octet s (((2 : Int32) * a3) + (1 : Int32)) ∧ vp_in a3 9 ∧ (∀ s2, s2 = (pI s 273 (a3).toNatClampNeg ((((256 : Int32) * (vX12_octet s ((2 : Int32) * a3))) + (vX12_octet s (((2 : Int32) * a3) + (1 : Int32)))) - (10000 : Int32))) → rX12_netOf s2 a3 ∧ vp_in a3 9 ∧ BI MX12_fits 6 52 [(0, .ref 248), (1, .int a1), (2, .int a2), (3, .int (a3 + 1))] (pI s2 274 (a3).toNatClampNeg (vX12_netOf s2 a3)) Q)))) : BI MX12_fits 6 52 [(0, .ref 248), (1, .int a1), (2, .int a2), (3, .int a3)] s Q := by
  refine JT_iload_n (q := 3) dX12_fits_52 rfl rfl ?_
  refine JT_aload_n (q := 0) dX12_fits_53 rfl rfl ?_
  refine JS_getR (x := 250) dX12_fits_54 flX12_33 BS_248 (Nat.le_of_ble_eq_true rfl) (Nat.le_of_ble_eq_true rfl) (Or.inr ⟨_, ct_12_6⟩) RF_248_6 ?_
  refine JT_iconst (v := 0) dX12_fits_57 ic_0 ?_
  refine JS_iald dX12_fits_58 BS_250 (Nat.le_of_ble_eq_true rfl) (Nat.le_of_ble_eq_true rfl) (by unfold vp_in; decide) ?_
  refine JT_icmp_ge (tgt := 110) dX12_fits_59 (by decide) (fun hc7 => ?_) (fun hc7 => ?_)
  · have h := h.1 hc7
    refine JT_iconst (v := 0) dX12_fits_110 ic_0 ?_
    refine JT_istore_n (lv' := [(3, .int (0 : Int32)), (0, .ref 248), (1, .int a1), (2, .int a2)]) dX12_fits_111 rfl (Nat.le_of_ble_eq_true rfl) rfl ?_
    exact JT_sub [1, 2, 3, 0] rfl h
  · have h := h.2 hc7
    refine JT_aload_n (q := 0) dX12_fits_62 rfl rfl ?_
    refine JS_getR (x := 273) dX12_fits_63 flX12_110 BS_248 (Nat.le_of_ble_eq_true rfl) (Nat.le_of_ble_eq_true rfl) (Or.inr ⟨_, ct_12_51⟩) RF_248_51 ?_
    refine JT_iload_n (q := 3) dX12_fits_66 rfl rfl ?_
    refine JT_sipush (v := 256) dX12_fits_67 sp_256 ?_
    refine JT_aload_n (q := 0) dX12_fits_70 rfl rfl ?_
    refine JT_iconst (v := 2) dX12_fits_71 ic_2 ?_
    refine JT_iload_n (q := 3) dX12_fits_72 rfl rfl ?_
    refine JT_imul dX12_fits_73 ?_
    obtain ⟨o6, h⟩ := h
    refine JS_callVI (M' := MX12_octet) (d' := 0) (As := [.int ((2 : Int32) * a3)]) (rest := [.int (256 : Int32), .int a3, .ref 273]) (P := (fun zv9 wm9 => (vX12_octet s ((2 : Int32) * a3)) = zv9 ∧ s = wm9)) dX12_fits_74 cvX12_427 okX12_octet rfl (Nat.le_of_ble_eq_true rfl) BS_248 (Nat.le_of_ble_eq_true rfl) (Nat.le_of_ble_eq_true rfl) hci_12 (Nat.le_of_ble_eq_true rfl) (Nat.le_of_ble_eq_true rfl) (pX12_octet  (((2 : Int32) * a3)) o6 ⟨rfl, rfl⟩) (fun zv9 wm9 hq9 => ?_)
    obtain ⟨rfl, rfl⟩ := hq9
    refine JT_imul dX12_fits_77 ?_
    refine JT_aload_n (q := 0) dX12_fits_78 rfl rfl ?_
    refine JT_iconst (v := 2) dX12_fits_79 ic_2 ?_
    refine JT_iload_n (q := 3) dX12_fits_80 rfl rfl ?_
    refine JT_imul dX12_fits_81 ?_
    refine JT_iconst (v := 1) dX12_fits_82 ic_1 ?_
    refine JT_iadd dX12_fits_83 ?_
    obtain ⟨o5, h⟩ := h
    refine JS_callVI (M' := MX12_octet) (d' := 0) (As := [.int (((2 : Int32) * a3) + (1 : Int32))]) (rest := [.int ((256 : Int32) * (vX12_octet s ((2 : Int32) * a3))), .int a3, .ref 273]) (P := (fun zv9 wm9 => (vX12_octet s (((2 : Int32) * a3) + (1 : Int32))) = zv9 ∧ s = wm9)) dX12_fits_84 cvX12_427 okX12_octet rfl (Nat.le_of_ble_eq_true rfl) BS_248 (Nat.le_of_ble_eq_true rfl) (Nat.le_of_ble_eq_true rfl) hci_12 (Nat.le_of_ble_eq_true rfl) (Nat.le_of_ble_eq_true rfl) (pX12_octet  ((((2 : Int32) * a3) + (1 : Int32))) o5 ⟨rfl, rfl⟩) (fun zv9 wm9 hq9 => ?_)
    obtain ⟨rfl, rfl⟩ := hq9
    refine JT_iadd dX12_fits_87 ?_
    refine JT_sipush (v := 10000) dX12_fits_88 sp_10000 ?_
    refine JT_isub dX12_fits_91 ?_
    obtain ⟨o1, h⟩ := h
    refine JS_iast dX12_fits_92 BS_273 (Nat.le_of_ble_eq_true rfl) (Nat.le_of_ble_eq_true rfl) o1 ?_
    obtain ⟨s2, hs2⟩ : ∃ z, z = (pI s 273 (a3).toNatClampNeg ((((256 : Int32) * (vX12_octet s ((2 : Int32) * a3))) + (vX12_octet s (((2 : Int32) * a3) + (1 : Int32)))) - (10000 : Int32))) := ⟨_, rfl⟩
    replace h := h s2 hs2
    rw [← hs2]
    refine JT_aload_n (q := 0) dX12_fits_93 rfl rfl ?_
    refine JS_getR (x := 274) dX12_fits_94 flX12_113 BS_248 (Nat.le_of_ble_eq_true rfl) (Nat.le_of_ble_eq_true rfl) (Or.inr ⟨_, ct_12_52⟩) RF_248_52 ?_
    refine JT_iload_n (q := 3) dX12_fits_97 rfl rfl ?_
    refine JT_aload_n (q := 0) dX12_fits_98 rfl rfl ?_
    refine JT_iload_n (q := 3) dX12_fits_99 rfl rfl ?_
    obtain ⟨o4, h⟩ := h
    refine JS_callVI (M' := MX12_netOf) (d' := 3) (As := [.int a3]) (rest := [.int a3, .ref 274]) (P := (fun zv9 wm9 => (vX12_netOf s2 a3) = zv9 ∧ s2 = wm9)) dX12_fits_100 cvX12_300 okX12_netOf rfl (Nat.le_of_ble_eq_true rfl) BS_248 (Nat.le_of_ble_eq_true rfl) (Nat.le_of_ble_eq_true rfl) hci_12 (Nat.le_of_ble_eq_true rfl) (Nat.le_of_ble_eq_true rfl) (pX12_netOf  (a3) o4 ⟨rfl, rfl⟩) (fun zv9 wm9 hq9 => ?_)
    obtain ⟨rfl, rfl⟩ := hq9
    obtain ⟨o3, h⟩ := h
    refine JS_iast dX12_fits_103 BS_274 (Nat.le_of_ble_eq_true rfl) (Nat.le_of_ble_eq_true rfl) o3 ?_
    refine JT_iinc (q := 3) (v := (a3 + 1)) (lv' := [(3, .int (a3 + 1)), (0, .ref 248), (1, .int a1), (2, .int a2)]) dX12_fits_104 rfl (by rfl) (Nat.le_of_ble_eq_true rfl) rfl ?_
    refine JT_goto (tgt := 52) dX12_fits_107 (by decide) ?_
    exact JT_sub [1, 2, 3, 0] rfl h
set_option maxRecDepth 1000000 in
theorem bX12_fits_112 (a1 : Int32) (a2 : Int32) (a3 : Int32) {s : SM} {Q : Int32 → SM → Prop} (h : ((a2 ≤ a3 → BI MX12_fits 6 189 [(0, .ref 248), (1, .int a1), (2, .int a2), (3, .int (0 : Int32)), (4, .int (1 : Int32))] (pI s 248 53 (0 : Int32)) Q) ∧ (¬ a2 ≤ a3 → rX12_lostOf s a3 ∧ rX12_of s (vX12_lostOf s a3) (0 : Int32) ∧ vp_in (vX12_of s (vX12_lostOf s a3) (0 : Int32)) 9 ∧ rX12_valueOf s (vX12_lostOf s a3) ∧ vp_in (vX12_of s (vX12_lostOf s a3) (0 : Int32)) 9 ∧ (∀ s3, s3 = (pI s 274 ((vX12_of s (vX12_lostOf s a3) (0 : Int32))).toNatClampNeg ((gI s 274 ((vX12_of s (vX12_lostOf s a3) (0 : Int32))).toNatClampNeg) - (vX12_valueOf s (vX12_lostOf s a3)))) → rX12_of s3 (vX12_lostOf s a3) (1 : Int32) ∧ vp_in (vX12_of s3 (vX12_lostOf s a3) (1 : Int32)) 9 ∧ rX12_valueOf s3 (vX12_lostOf s a3) ∧ vp_in (vX12_of s3 (vX12_lostOf s a3) (1 : Int32)) 9 ∧ (∀ s6, s6 = (pI s3 274 ((vX12_of s3 (vX12_lostOf s a3) (1 : Int32))).toNatClampNeg ((gI s3 274 ((vX12_of s3 (vX12_lostOf s a3) (1 : Int32))).toNatClampNeg) + (vX12_valueOf s3 (vX12_lostOf s a3)))) → vp_in a3 4 ∧ BI MX12_fits 6 112 [(0, .ref 248), (1, .int a1), (2, .int a2), (3, .int (a3 + 1))] (pI s6 272 (a3).toNatClampNeg (1 : Int32)) Q))))) : BI MX12_fits 6 112 [(0, .ref 248), (1, .int a1), (2, .int a2), (3, .int a3)] s Q := by
  refine JT_iload_n (q := 3) dX12_fits_112 rfl rfl ?_
  refine JT_iload_n (q := 2) dX12_fits_113 rfl rfl ?_
  refine JT_icmp_ge (tgt := 179) dX12_fits_114 (by decide) (fun hc13 => ?_) (fun hc13 => ?_)
  · have h := h.1 hc13
    refine JT_aload_n (q := 0) dX12_fits_179 rfl rfl ?_
    refine JT_iconst (v := 0) dX12_fits_180 ic_0 ?_
    refine JS_putI dX12_fits_181 flX12_439 BS_248 (Nat.le_of_ble_eq_true rfl) (Nat.le_of_ble_eq_true rfl) ct_12_53 ?_
    refine JT_iconst (v := 0) dX12_fits_184 ic_0 ?_
    refine JT_istore_n (lv' := [(3, .int (0 : Int32)), (0, .ref 248), (1, .int a1), (2, .int a2)]) dX12_fits_185 rfl (Nat.le_of_ble_eq_true rfl) rfl ?_
    refine JT_iconst (v := 1) dX12_fits_186 ic_1 ?_
    refine JT_istore (lv' := [(4, .int (1 : Int32)), (3, .int (0 : Int32)), (0, .ref 248), (1, .int a1), (2, .int a2)]) dX12_fits_187 (Nat.le_of_ble_eq_true rfl) rfl ?_
    exact JT_sub [2, 3, 4, 1, 0] rfl h
  · have h := h.2 hc13
    refine JT_aload_n (q := 0) dX12_fits_117 rfl rfl ?_
    refine JT_iload_n (q := 3) dX12_fits_118 rfl rfl ?_
    obtain ⟨o12, h⟩ := h
    refine JS_callVI (M' := MX12_lostOf) (d' := 4) (As := [.int a3]) (rest := []) (P := (fun zv9 wm9 => (vX12_lostOf s a3) = zv9 ∧ s = wm9)) dX12_fits_119 cvX12_436 okX12_lostOf rfl (Nat.le_of_ble_eq_true rfl) BS_248 (Nat.le_of_ble_eq_true rfl) (Nat.le_of_ble_eq_true rfl) hci_12 (Nat.le_of_ble_eq_true rfl) (Nat.le_of_ble_eq_true rfl) (pX12_lostOf  (a3) o12 ⟨rfl, rfl⟩) (fun zv9 wm9 hq9 => ?_)
    obtain ⟨rfl, rfl⟩ := hq9
    refine JT_istore (lv' := [(4, .int (vX12_lostOf s a3)), (0, .ref 248), (1, .int a1), (2, .int a2), (3, .int a3)]) dX12_fits_122 (Nat.le_of_ble_eq_true rfl) rfl ?_
    refine JT_aload_n (q := 1) dX12_fits_124 rfl rfl ?_
    refine JS_getR (x := 274) dX12_fits_125 flX12_113 BS_248 (Nat.le_of_ble_eq_true rfl) (Nat.le_of_ble_eq_true rfl) (Or.inr ⟨_, ct_12_52⟩) RF_248_52 ?_
    refine JT_aload_n (q := 1) dX12_fits_128 rfl rfl ?_
    refine JT_iload (q := 0) dX12_fits_129 rfl ?_
    refine JT_iconst (v := 0) dX12_fits_131 ic_0 ?_
    obtain ⟨o11, h⟩ := h
    refine JS_callVI (M' := MX12_of) (d' := 0) (As := [.int (vX12_lostOf s a3), .int (0 : Int32)]) (rest := [.ref 274]) (P := (fun zv9 wm9 => (vX12_of s (vX12_lostOf s a3) (0 : Int32)) = zv9 ∧ s = wm9)) dX12_fits_132 cvX12_265 okX12_of rfl (Nat.le_of_ble_eq_true rfl) BS_248 (Nat.le_of_ble_eq_true rfl) (Nat.le_of_ble_eq_true rfl) hci_12 (Nat.le_of_ble_eq_true rfl) (Nat.le_of_ble_eq_true rfl) (pX12_of  ((vX12_lostOf s a3)) ((0 : Int32)) o11 ⟨rfl, rfl⟩) (fun zv9 wm9 hq9 => ?_)
    obtain ⟨rfl, rfl⟩ := hq9
    refine JT_dup2 dX12_fits_135 rfl rfl ?_
    obtain ⟨o1, h⟩ := h
    refine JS_iald dX12_fits_136 BS_274 (Nat.le_of_ble_eq_true rfl) (Nat.le_of_ble_eq_true rfl) o1 ?_
    refine JT_aload_n (q := 1) dX12_fits_137 rfl rfl ?_
    refine JT_iload (q := 0) dX12_fits_138 rfl ?_
    obtain ⟨o10, h⟩ := h
    refine JS_callVI (M' := MX12_valueOf) (d' := 2) (As := [.int (vX12_lostOf s a3)]) (rest := [.int (gI s 274 ((vX12_of s (vX12_lostOf s a3) (0 : Int32))).toNatClampNeg), .int (vX12_of s (vX12_lostOf s a3) (0 : Int32)), .ref 274]) (P := (fun zv9 wm9 => (vX12_valueOf s (vX12_lostOf s a3)) = zv9 ∧ s = wm9)) dX12_fits_140 cvX12_281 okX12_valueOf rfl (Nat.le_of_ble_eq_true rfl) BS_248 (Nat.le_of_ble_eq_true rfl) (Nat.le_of_ble_eq_true rfl) hci_12 (Nat.le_of_ble_eq_true rfl) (Nat.le_of_ble_eq_true rfl) (pX12_valueOf  ((vX12_lostOf s a3)) o10 ⟨rfl, rfl⟩) (fun zv9 wm9 hq9 => ?_)
    obtain ⟨rfl, rfl⟩ := hq9
    refine JT_isub dX12_fits_143 ?_
    obtain ⟨o2, h⟩ := h
    refine JS_iast dX12_fits_144 BS_274 (Nat.le_of_ble_eq_true rfl) (Nat.le_of_ble_eq_true rfl) o2 ?_
    obtain ⟨s3, hs3⟩ : ∃ z, z = (pI s 274 ((vX12_of s (vX12_lostOf s a3) (0 : Int32))).toNatClampNeg ((gI s 274 ((vX12_of s (vX12_lostOf s a3) (0 : Int32))).toNatClampNeg) - (vX12_valueOf s (vX12_lostOf s a3)))) := ⟨_, rfl⟩
    replace h := h s3 hs3
    rw [← hs3]
    refine JT_aload_n (q := 1) dX12_fits_145 rfl rfl ?_
    refine JS_getR (x := 274) dX12_fits_146 flX12_113 BS_248 (Nat.le_of_ble_eq_true rfl) (Nat.le_of_ble_eq_true rfl) (Or.inr ⟨_, ct_12_52⟩) RF_248_52 ?_
    refine JT_aload_n (q := 1) dX12_fits_149 rfl rfl ?_
    refine JT_iload (q := 0) dX12_fits_150 rfl ?_
    refine JT_iconst (v := 1) dX12_fits_152 ic_1 ?_
    obtain ⟨o9, h⟩ := h
    refine JS_callVI (M' := MX12_of) (d' := 0) (As := [.int (vX12_lostOf s a3), .int (1 : Int32)]) (rest := [.ref 274]) (P := (fun zv9 wm9 => (vX12_of s3 (vX12_lostOf s a3) (1 : Int32)) = zv9 ∧ s3 = wm9)) dX12_fits_153 cvX12_265 okX12_of rfl (Nat.le_of_ble_eq_true rfl) BS_248 (Nat.le_of_ble_eq_true rfl) (Nat.le_of_ble_eq_true rfl) hci_12 (Nat.le_of_ble_eq_true rfl) (Nat.le_of_ble_eq_true rfl) (pX12_of  ((vX12_lostOf s a3)) ((1 : Int32)) o9 ⟨rfl, rfl⟩) (fun zv9 wm9 hq9 => ?_)
    obtain ⟨rfl, rfl⟩ := hq9
    refine JT_dup2 dX12_fits_156 rfl rfl ?_
    obtain ⟨o4, h⟩ := h
    refine JS_iald dX12_fits_157 BS_274 (Nat.le_of_ble_eq_true rfl) (Nat.le_of_ble_eq_true rfl) o4 ?_
    refine JT_aload_n (q := 1) dX12_fits_158 rfl rfl ?_
    refine JT_iload (q := 0) dX12_fits_159 rfl ?_
    obtain ⟨o8, h⟩ := h
    refine JS_callVI (M' := MX12_valueOf) (d' := 2) (As := [.int (vX12_lostOf s a3)]) (rest := [.int (gI s3 274 ((vX12_of s3 (vX12_lostOf s a3) (1 : Int32))).toNatClampNeg), .int (vX12_of s3 (vX12_lostOf s a3) (1 : Int32)), .ref 274]) (P := (fun zv9 wm9 => (vX12_valueOf s3 (vX12_lostOf s a3)) = zv9 ∧ s3 = wm9)) dX12_fits_161 cvX12_281 okX12_valueOf rfl (Nat.le_of_ble_eq_true rfl) BS_248 (Nat.le_of_ble_eq_true rfl) (Nat.le_of_ble_eq_true rfl) hci_12 (Nat.le_of_ble_eq_true rfl) (Nat.le_of_ble_eq_true rfl) (pX12_valueOf  ((vX12_lostOf s a3)) o8 ⟨rfl, rfl⟩) (fun zv9 wm9 hq9 => ?_)
    obtain ⟨rfl, rfl⟩ := hq9
    refine JT_iadd dX12_fits_164 ?_
    obtain ⟨o5, h⟩ := h
    refine JS_iast dX12_fits_165 BS_274 (Nat.le_of_ble_eq_true rfl) (Nat.le_of_ble_eq_true rfl) o5 ?_
    obtain ⟨s6, hs6⟩ : ∃ z, z = (pI s3 274 ((vX12_of s3 (vX12_lostOf s a3) (1 : Int32))).toNatClampNeg ((gI s3 274 ((vX12_of s3 (vX12_lostOf s a3) (1 : Int32))).toNatClampNeg) + (vX12_valueOf s3 (vX12_lostOf s a3)))) := ⟨_, rfl⟩
    replace h := h s6 hs6
    rw [← hs6]
    refine JT_aload_n (q := 1) dX12_fits_166 rfl rfl ?_
    refine JS_getR (x := 272) dX12_fits_167 flX12_107 BS_248 (Nat.le_of_ble_eq_true rfl) (Nat.le_of_ble_eq_true rfl) (Or.inr ⟨_, ct_12_50⟩) RF_248_50 ?_
    refine JT_iload_n (q := 4) dX12_fits_170 rfl rfl ?_
    refine JT_iconst (v := 1) dX12_fits_171 ic_1 ?_
    obtain ⟨o7, h⟩ := h
    refine JS_iast dX12_fits_172 BS_272 (Nat.le_of_ble_eq_true rfl) (Nat.le_of_ble_eq_true rfl) o7 ?_
    refine JT_iinc (q := 4) (v := (a3 + 1)) (lv' := [(3, .int (a3 + 1)), (4, .int (vX12_lostOf s a3)), (0, .ref 248), (1, .int a1), (2, .int a2)]) dX12_fits_173 rfl (by rfl) (Nat.le_of_ble_eq_true rfl) rfl ?_
    refine JT_goto (tgt := 112) dX12_fits_176 (by decide) ?_
    exact JT_sub [2, 3, 4, 0] rfl h
set_option maxRecDepth 1000000 in
theorem bX12_fits_189 (a1 : Int32) (a2 : Int32) (a3 : Int32) (a4 : Int32) {s : SM} {Q : Int32 → SM → Prop} (h : ((a4 = 0 → Q a3 s) ∧ (¬ a4 = 0 → rX12_isFit s a2 ∧ (((vX12_isFit s a2) = 0 → BI MX12_fits 6 300 [(0, .ref 248), (1, .int a1), (2, .int a2), (3, .int a3), (4, .int a4), (5, .int (a2 - (1 : Int32)))] (mX12_isFit s a2) Q) ∧ (¬ (vX12_isFit s a2) = 0 → BI MX12_fits 6 205 [(0, .ref 248), (1, .int a1), (2, .int a2), (3, .int a3), (4, .int a4), (5, .int (0 : Int32))] (mX12_isFit s a2) Q))))) : BI MX12_fits 6 189 [(0, .ref 248), (1, .int a1), (2, .int a2), (3, .int a3), (4, .int a4)] s Q := by
  refine JT_iload (q := 4) dX12_fits_189 rfl ?_
  refine JT_if_eq (tgt := 361) dX12_fits_191 (by decide) (fun hc3 => ?_) (fun hc3 => ?_)
  · have h := h.1 hc3
    refine JT_iload_n (q := 3) dX12_fits_361 rfl rfl ?_
    exact JS_iret dX12_fits_362 rfl rfl h
  · have h := h.2 hc3
    refine JT_aload_n (q := 0) dX12_fits_194 rfl rfl ?_
    refine JT_iload_n (q := 2) dX12_fits_195 rfl rfl ?_
    obtain ⟨o2, h⟩ := h
    refine JS_callVI (M' := MX12_isFit) (d' := 5) (As := [.int a2]) (rest := []) (P := (fun zv9 wm9 => (vX12_isFit s a2) = zv9 ∧ (mX12_isFit s a2) = wm9)) dX12_fits_196 cvX12_442 okX12_isFit rfl (Nat.le_of_ble_eq_true rfl) BS_248 (Nat.le_of_ble_eq_true rfl) (Nat.le_of_ble_eq_true rfl) hci_12 (Nat.le_of_ble_eq_true rfl) (Nat.le_of_ble_eq_true rfl) (pX12_isFit  (a2) o2 ⟨rfl, rfl⟩) (fun zv9 wm9 hq9 => ?_)
    obtain ⟨rfl, rfl⟩ := hq9
    refine JT_if_eq (tgt := 295) dX12_fits_199 (by decide) (fun hc1 => ?_) (fun hc1 => ?_)
    · have h := h.1 hc1
      refine JT_iload_n (q := 2) dX12_fits_295 rfl rfl ?_
      refine JT_iconst (v := 1) dX12_fits_296 ic_1 ?_
      refine JT_isub dX12_fits_297 ?_
      refine JT_istore (lv' := [(5, .int (a2 - (1 : Int32))), (0, .ref 248), (1, .int a1), (2, .int a2), (3, .int a3), (4, .int a4)]) dX12_fits_298 (Nat.le_of_ble_eq_true rfl) rfl ?_
      exact JT_sub [1, 2, 3, 4, 5, 0] rfl h
    · have h := h.2 hc1
      refine JT_iconst (v := 0) dX12_fits_202 ic_0 ?_
      refine JT_istore (lv' := [(5, .int (0 : Int32)), (0, .ref 248), (1, .int a1), (2, .int a2), (3, .int a3), (4, .int a4)]) dX12_fits_203 (Nat.le_of_ble_eq_true rfl) rfl ?_
      exact JT_sub [1, 2, 3, 4, 5, 0] rfl h
set_option maxRecDepth 1000000 in
theorem bX12_fits_205 (a1 : Int32) (a2 : Int32) (a3 : Int32) (a4 : Int32) (a5 : Int32) {s : SM} {Q : Int32 → SM → Prop} (h : ((a2 ≤ a5 → BI MX12_fits 6 300 [(0, .ref 248), (1, .int a1), (2, .int a2), (3, .int (a3 + 1)), (4, .int a4), (5, .int (a2 - (1 : Int32)))] (pI s 248 53 a2) Q) ∧ (¬ a2 ≤ a5 → ((a3 = 0 → BI MX12_fits 6 232 [(0, .ref 248), (1, .int a1), (2, .int a2), (3, .int a3), (4, .int a4), (5, .int a5)] s Q) ∧ (¬ a3 = 0 → vp_in a5 4 ∧ vp_in a5 4 ∧ (((gI s 270 (a5).toNatClampNeg) ≤ (gI s 272 (a5).toNatClampNeg) → BI MX12_fits 6 246 [(0, .ref 248), (1, .int a1), (2, .int a2), (3, .int a3), (4, .int a4), (5, .int a5)] s Q) ∧ (¬ (gI s 270 (a5).toNatClampNeg) ≤ (gI s 272 (a5).toNatClampNeg) → BI MX12_fits 6 232 [(0, .ref 248), (1, .int a1), (2, .int a2), (3, .int a3), (4, .int a4), (5, .int a5)] s Q))))))) : BI MX12_fits 6 205 [(0, .ref 248), (1, .int a1), (2, .int a2), (3, .int a3), (4, .int a4), (5, .int a5)] s Q := by
  refine JT_iload (q := 5) dX12_fits_205 rfl ?_
  refine JT_iload_n (q := 2) dX12_fits_207 rfl rfl ?_
  refine JT_icmp_ge (tgt := 287) dX12_fits_208 (by decide) (fun hc5 => ?_) (fun hc5 => ?_)
  · have h := h.1 hc5
    refine JT_iinc (q := 3) (v := (a3 + 1)) (lv' := [(3, .int (a3 + 1)), (0, .ref 248), (1, .int a1), (2, .int a2), (4, .int a4), (5, .int a5)]) dX12_fits_287 rfl (by rfl) (Nat.le_of_ble_eq_true rfl) rfl ?_
    refine JT_aload_n (q := 1) dX12_fits_290 rfl rfl ?_
    refine JT_iload_n (q := 3) dX12_fits_291 rfl rfl ?_
    refine JS_putI dX12_fits_292 flX12_439 BS_248 (Nat.le_of_ble_eq_true rfl) (Nat.le_of_ble_eq_true rfl) ct_12_53 ?_
    refine JT_iload_n (q := 3) dX12_fits_295 rfl rfl ?_
    refine JT_iconst (v := 1) dX12_fits_296 ic_1 ?_
    refine JT_isub dX12_fits_297 ?_
    refine JT_istore (lv' := [(5, .int (a2 - (1 : Int32))), (3, .int (a3 + 1)), (0, .ref 248), (1, .int a1), (2, .int a2), (4, .int a4)]) dX12_fits_298 (Nat.le_of_ble_eq_true rfl) rfl ?_
    exact JT_sub [2, 3, 4, 1, 5, 0] rfl h
  · have h := h.2 hc5
    refine JT_iload_n (q := 3) dX12_fits_211 rfl rfl ?_
    refine JT_if_eq (tgt := 232) dX12_fits_212 (by decide) (fun hc4 => ?_) (fun hc4 => ?_)
    · have h := h.1 hc4
      exact JT_sub [0, 1, 2, 3, 4, 5] rfl h
    · have h := h.2 hc4
      refine JT_aload_n (q := 0) dX12_fits_215 rfl rfl ?_
      refine JS_getR (x := 272) dX12_fits_216 flX12_107 BS_248 (Nat.le_of_ble_eq_true rfl) (Nat.le_of_ble_eq_true rfl) (Or.inr ⟨_, ct_12_50⟩) RF_248_50 ?_
      refine JT_iload (q := 5) dX12_fits_219 rfl ?_
      obtain ⟨o1, h⟩ := h
      refine JS_iald dX12_fits_221 BS_272 (Nat.le_of_ble_eq_true rfl) (Nat.le_of_ble_eq_true rfl) o1 ?_
      refine JT_aload_n (q := 0) dX12_fits_222 rfl rfl ?_
      refine JS_getR (x := 270) dX12_fits_223 flX12_101 BS_248 (Nat.le_of_ble_eq_true rfl) (Nat.le_of_ble_eq_true rfl) (Or.inr ⟨_, ct_12_48⟩) RF_248_48 ?_
      refine JT_iload (q := 5) dX12_fits_226 rfl ?_
      obtain ⟨o2, h⟩ := h
      refine JS_iald dX12_fits_228 BS_270 (Nat.le_of_ble_eq_true rfl) (Nat.le_of_ble_eq_true rfl) o2 ?_
      refine JT_icmp_ge (tgt := 246) dX12_fits_229 (by decide) (fun hc3 => ?_) (fun hc3 => ?_)
      · have h := h.1 hc3
        exact JT_sub [0, 1, 2, 3, 4, 5] rfl h
      · have h := h.2 hc3
        exact JT_sub [0, 1, 2, 3, 4, 5] rfl h
set_option maxRecDepth 1000000 in
theorem bX12_fits_232 (a1 : Int32) (a2 : Int32) (a3 : Int32) (a4 : Int32) (a5 : Int32) {s : SM} {Q : Int32 → SM → Prop} (h : vp_in a5 4 ∧ vp_in a5 4 ∧ BI MX12_fits 6 246 [(0, .ref 248), (1, .int a1), (2, .int a2), (3, .int a3), (4, .int a4), (5, .int a5)] (pI s 270 (a5).toNatClampNeg (gI s 272 (a5).toNatClampNeg)) Q) : BI MX12_fits 6 232 [(0, .ref 248), (1, .int a1), (2, .int a2), (3, .int a3), (4, .int a4), (5, .int a5)] s Q := by
  refine JT_aload_n (q := 0) dX12_fits_232 rfl rfl ?_
  refine JS_getR (x := 270) dX12_fits_233 flX12_101 BS_248 (Nat.le_of_ble_eq_true rfl) (Nat.le_of_ble_eq_true rfl) (Or.inr ⟨_, ct_12_48⟩) RF_248_48 ?_
  refine JT_iload (q := 5) dX12_fits_236 rfl ?_
  refine JT_aload_n (q := 0) dX12_fits_238 rfl rfl ?_
  refine JS_getR (x := 272) dX12_fits_239 flX12_107 BS_248 (Nat.le_of_ble_eq_true rfl) (Nat.le_of_ble_eq_true rfl) (Or.inr ⟨_, ct_12_50⟩) RF_248_50 ?_
  refine JT_iload (q := 5) dX12_fits_242 rfl ?_
  obtain ⟨o1, h⟩ := h
  refine JS_iald dX12_fits_244 BS_272 (Nat.le_of_ble_eq_true rfl) (Nat.le_of_ble_eq_true rfl) o1 ?_
  obtain ⟨o2, h⟩ := h
  refine JS_iast dX12_fits_245 BS_270 (Nat.le_of_ble_eq_true rfl) (Nat.le_of_ble_eq_true rfl) o2 ?_
  exact JT_sub [0, 1, 2, 3, 4, 5] rfl h
set_option maxRecDepth 1000000 in
theorem bX12_fits_246 (a1 : Int32) (a2 : Int32) (a3 : Int32) (a4 : Int32) (a5 : Int32) {s : SM} {Q : Int32 → SM → Prop} (h : ((a3 = 0 → vp_in a5 4 ∧ vp_in a5 4 ∧ BI MX12_fits 6 205 [(0, .ref 248), (1, .int a1), (2, .int a2), (3, .int a3), (4, .int a4), (5, .int (a5 + 1))] (pI s 271 (a5).toNatClampNeg (gI s 272 (a5).toNatClampNeg)) Q) ∧ (¬ a3 = 0 → vp_in a5 4 ∧ vp_in a5 4 ∧ (((gI s 272 (a5).toNatClampNeg) ≤ (gI s 271 (a5).toNatClampNeg) → BI MX12_fits 6 205 [(0, .ref 248), (1, .int a1), (2, .int a2), (3, .int a3), (4, .int a4), (5, .int (a5 + 1))] s Q) ∧ (¬ (gI s 272 (a5).toNatClampNeg) ≤ (gI s 271 (a5).toNatClampNeg) → vp_in a5 4 ∧ vp_in a5 4 ∧ BI MX12_fits 6 205 [(0, .ref 248), (1, .int a1), (2, .int a2), (3, .int a3), (4, .int a4), (5, .int (a5 + 1))] (pI s 271 (a5).toNatClampNeg (gI s 272 (a5).toNatClampNeg)) Q))))) : BI MX12_fits 6 246 [(0, .ref 248), (1, .int a1), (2, .int a2), (3, .int a3), (4, .int a4), (5, .int a5)] s Q := by
  refine JT_iload_n (q := 3) dX12_fits_246 rfl rfl ?_
  refine JT_if_eq (tgt := 267) dX12_fits_247 (by decide) (fun hc8 => ?_) (fun hc8 => ?_)
  · have h := h.1 hc8
    refine JT_aload_n (q := 0) dX12_fits_267 rfl rfl ?_
    refine JS_getR (x := 271) dX12_fits_268 flX12_104 BS_248 (Nat.le_of_ble_eq_true rfl) (Nat.le_of_ble_eq_true rfl) (Or.inr ⟨_, ct_12_49⟩) RF_248_49 ?_
    refine JT_iload (q := 5) dX12_fits_271 rfl ?_
    refine JT_aload_n (q := 0) dX12_fits_273 rfl rfl ?_
    refine JS_getR (x := 272) dX12_fits_274 flX12_107 BS_248 (Nat.le_of_ble_eq_true rfl) (Nat.le_of_ble_eq_true rfl) (Or.inr ⟨_, ct_12_50⟩) RF_248_50 ?_
    refine JT_iload (q := 5) dX12_fits_277 rfl ?_
    obtain ⟨o1, h⟩ := h
    refine JS_iald dX12_fits_279 BS_272 (Nat.le_of_ble_eq_true rfl) (Nat.le_of_ble_eq_true rfl) o1 ?_
    obtain ⟨o2, h⟩ := h
    refine JS_iast dX12_fits_280 BS_271 (Nat.le_of_ble_eq_true rfl) (Nat.le_of_ble_eq_true rfl) o2 ?_
    refine JT_iinc (q := 5) (v := (a5 + 1)) (lv' := [(5, .int (a5 + 1)), (0, .ref 248), (1, .int a1), (2, .int a2), (3, .int a3), (4, .int a4)]) dX12_fits_281 rfl (by rfl) (Nat.le_of_ble_eq_true rfl) rfl ?_
    refine JT_goto (tgt := 205) dX12_fits_284 (by decide) ?_
    exact JT_sub [1, 2, 3, 4, 5, 0] rfl h
  · have h := h.2 hc8
    refine JT_aload_n (q := 0) dX12_fits_250 rfl rfl ?_
    refine JS_getR (x := 272) dX12_fits_251 flX12_107 BS_248 (Nat.le_of_ble_eq_true rfl) (Nat.le_of_ble_eq_true rfl) (Or.inr ⟨_, ct_12_50⟩) RF_248_50 ?_
    refine JT_iload (q := 5) dX12_fits_254 rfl ?_
    obtain ⟨o3, h⟩ := h
    refine JS_iald dX12_fits_256 BS_272 (Nat.le_of_ble_eq_true rfl) (Nat.le_of_ble_eq_true rfl) o3 ?_
    refine JT_aload_n (q := 0) dX12_fits_257 rfl rfl ?_
    refine JS_getR (x := 271) dX12_fits_258 flX12_104 BS_248 (Nat.le_of_ble_eq_true rfl) (Nat.le_of_ble_eq_true rfl) (Or.inr ⟨_, ct_12_49⟩) RF_248_49 ?_
    refine JT_iload (q := 5) dX12_fits_261 rfl ?_
    obtain ⟨o4, h⟩ := h
    refine JS_iald dX12_fits_263 BS_271 (Nat.le_of_ble_eq_true rfl) (Nat.le_of_ble_eq_true rfl) o4 ?_
    refine JT_icmp_le (tgt := 281) dX12_fits_264 (by decide) (fun hc7 => ?_) (fun hc7 => ?_)
    · have h := h.1 hc7
      refine JT_iinc (q := 5) (v := (a5 + 1)) (lv' := [(5, .int (a5 + 1)), (0, .ref 248), (1, .int a1), (2, .int a2), (3, .int a3), (4, .int a4)]) dX12_fits_281 rfl (by rfl) (Nat.le_of_ble_eq_true rfl) rfl ?_
      refine JT_goto (tgt := 205) dX12_fits_284 (by decide) ?_
      exact JT_sub [1, 2, 3, 4, 5, 0] rfl h
    · have h := h.2 hc7
      refine JT_aload_n (q := 0) dX12_fits_267 rfl rfl ?_
      refine JS_getR (x := 271) dX12_fits_268 flX12_104 BS_248 (Nat.le_of_ble_eq_true rfl) (Nat.le_of_ble_eq_true rfl) (Or.inr ⟨_, ct_12_49⟩) RF_248_49 ?_
      refine JT_iload (q := 5) dX12_fits_271 rfl ?_
      refine JT_aload_n (q := 0) dX12_fits_273 rfl rfl ?_
      refine JS_getR (x := 272) dX12_fits_274 flX12_107 BS_248 (Nat.le_of_ble_eq_true rfl) (Nat.le_of_ble_eq_true rfl) (Or.inr ⟨_, ct_12_50⟩) RF_248_50 ?_
      refine JT_iload (q := 5) dX12_fits_277 rfl ?_
      obtain ⟨o5, h⟩ := h
      refine JS_iald dX12_fits_279 BS_272 (Nat.le_of_ble_eq_true rfl) (Nat.le_of_ble_eq_true rfl) o5 ?_
      obtain ⟨o6, h⟩ := h
      refine JS_iast dX12_fits_280 BS_271 (Nat.le_of_ble_eq_true rfl) (Nat.le_of_ble_eq_true rfl) o6 ?_
      refine JT_iinc (q := 5) (v := (a5 + 1)) (lv' := [(5, .int (a5 + 1)), (0, .ref 248), (1, .int a1), (2, .int a2), (3, .int a3), (4, .int a4)]) dX12_fits_281 rfl (by rfl) (Nat.le_of_ble_eq_true rfl) rfl ?_
      refine JT_goto (tgt := 205) dX12_fits_284 (by decide) ?_
      exact JT_sub [1, 2, 3, 4, 5, 0] rfl h
set_option maxRecDepth 1000000 in
theorem bX12_fits_300 (a1 : Int32) (a2 : Int32) (a3 : Int32) (a4 : Int32) (a5 : Int32) {s : SM} {Q : Int32 → SM → Prop} (h : ((a5 < 0 → BI MX12_fits 6 330 [(0, .ref 248), (1, .int a1), (2, .int a2), (3, .int a3), (4, .int a4), (5, .int a5)] s Q) ∧ (¬ a5 < 0 → vp_in a5 4 ∧ ((¬ (gI s 272 (a5).toNatClampNeg) = a1 → BI MX12_fits 6 330 [(0, .ref 248), (1, .int a1), (2, .int a2), (3, .int a3), (4, .int a4), (5, .int a5)] s Q) ∧ ((gI s 272 (a5).toNatClampNeg) = a1 → vp_in a5 4 ∧ BI MX12_fits 6 300 [(0, .ref 248), (1, .int a1), (2, .int a2), (3, .int a3), (4, .int a4), (5, .int (a5 + (-1)))] (pI s 272 (a5).toNatClampNeg (1 : Int32)) Q))))) : BI MX12_fits 6 300 [(0, .ref 248), (1, .int a1), (2, .int a2), (3, .int a3), (4, .int a4), (5, .int a5)] s Q := by
  refine JT_iload (q := 5) dX12_fits_300 rfl ?_
  refine JT_if_lt (tgt := 330) dX12_fits_302 (by decide) (fun hc4 => ?_) (fun hc4 => ?_)
  · have h := h.1 hc4
    exact JT_sub [0, 1, 2, 3, 4, 5] rfl h
  · have h := h.2 hc4
    refine JT_aload_n (q := 0) dX12_fits_305 rfl rfl ?_
    refine JS_getR (x := 272) dX12_fits_306 flX12_107 BS_248 (Nat.le_of_ble_eq_true rfl) (Nat.le_of_ble_eq_true rfl) (Or.inr ⟨_, ct_12_50⟩) RF_248_50 ?_
    refine JT_iload (q := 5) dX12_fits_309 rfl ?_
    obtain ⟨o1, h⟩ := h
    refine JS_iald dX12_fits_311 BS_272 (Nat.le_of_ble_eq_true rfl) (Nat.le_of_ble_eq_true rfl) o1 ?_
    refine JT_iload_n (q := 1) dX12_fits_312 rfl rfl ?_
    refine JT_icmp_ne (tgt := 330) dX12_fits_313 (by decide) (fun hc3 => ?_) (fun hc3 => ?_)
    · have h := h.1 hc3
      exact JT_sub [0, 1, 2, 3, 4, 5] rfl h
    · have h := h.2 hc3
      refine JT_aload_n (q := 0) dX12_fits_316 rfl rfl ?_
      refine JS_getR (x := 272) dX12_fits_317 flX12_107 BS_248 (Nat.le_of_ble_eq_true rfl) (Nat.le_of_ble_eq_true rfl) (Or.inr ⟨_, ct_12_50⟩) RF_248_50 ?_
      refine JT_iload (q := 5) dX12_fits_320 rfl ?_
      refine JT_iconst (v := 1) dX12_fits_322 ic_1 ?_
      obtain ⟨o2, h⟩ := h
      refine JS_iast dX12_fits_323 BS_272 (Nat.le_of_ble_eq_true rfl) (Nat.le_of_ble_eq_true rfl) o2 ?_
      refine JT_iinc (q := 5) (v := (a5 + (-1))) (lv' := [(5, .int (a5 + (-1))), (0, .ref 248), (1, .int a1), (2, .int a2), (3, .int a3), (4, .int a4)]) dX12_fits_324 rfl (by rfl) (Nat.le_of_ble_eq_true rfl) rfl ?_
      refine JT_goto (tgt := 300) dX12_fits_327 (by decide) ?_
      exact JT_sub [1, 2, 3, 4, 5, 0] rfl h
set_option maxRecDepth 1000000 in
theorem bX12_fits_330 (a1 : Int32) (a2 : Int32) (a3 : Int32) (a4 : Int32) (a5 : Int32) {s : SM} {Q : Int32 → SM → Prop} (h : (((if a5 < 0 then (0 : Int32) else (1 : Int32)) = 0 → BI MX12_fits 6 189 [(0, .ref 248), (1, .int a1), (2, .int a2), (3, .int a3), (4, .int (if a5 < 0 then (0 : Int32) else (1 : Int32)))] s Q) ∧ (¬ (if a5 < 0 then (0 : Int32) else (1 : Int32)) = 0 → vp_in a5 4 ∧ vp_in a5 4 ∧ BI MX12_fits 6 189 [(0, .ref 248), (1, .int a1), (2, .int a2), (3, .int a3), (4, .int (if a5 < 0 then (0 : Int32) else (1 : Int32)))] (pI s 272 (a5).toNatClampNeg ((gI s 272 (a5).toNatClampNeg) + (1 : Int32))) Q))) : BI MX12_fits 6 330 [(0, .ref 248), (1, .int a1), (2, .int a2), (3, .int a3), (4, .int a4), (5, .int a5)] s Q := by
  refine JT_iload (q := 5) dX12_fits_330 rfl ?_
  have hj4 : ∀ v : Int32, v = (if a5 < 0 then (0 : Int32) else (1 : Int32)) → JT MX12_fits 6 0 0 340 [(0, .ref 248), (1, .int a1), (2, .int a2), (3, .int a3), (4, .int a4), (5, .int a5)] [.int v] (std s) (KQ Q) := by
    intro v hv
    subst hv
    refine JT_istore (lv' := [(4, .int (if a5 < 0 then (0 : Int32) else (1 : Int32))), (0, .ref 248), (1, .int a1), (2, .int a2), (3, .int a3), (5, .int a5)]) dX12_fits_340 (Nat.le_of_ble_eq_true rfl) rfl ?_
    refine JT_iload (q := 0) dX12_fits_342 rfl ?_
    refine JT_if_eq (tgt := 358) dX12_fits_344 (by decide) (fun hc3 => ?_) (fun hc3 => ?_)
    · have h := h.1 hc3
      refine JT_goto (tgt := 189) dX12_fits_358 (by decide) ?_
      exact JT_sub [1, 2, 3, 4, 0] rfl h
    · have h := h.2 hc3
      refine JT_aload_n (q := 1) dX12_fits_347 rfl rfl ?_
      refine JS_getR (x := 272) dX12_fits_348 flX12_107 BS_248 (Nat.le_of_ble_eq_true rfl) (Nat.le_of_ble_eq_true rfl) (Or.inr ⟨_, ct_12_50⟩) RF_248_50 ?_
      refine JT_iload (q := 5) dX12_fits_351 rfl ?_
      refine JT_dup2 dX12_fits_353 rfl rfl ?_
      obtain ⟨o1, h⟩ := h
      refine JS_iald dX12_fits_354 BS_272 (Nat.le_of_ble_eq_true rfl) (Nat.le_of_ble_eq_true rfl) o1 ?_
      refine JT_iconst (v := 1) dX12_fits_355 ic_1 ?_
      refine JT_iadd dX12_fits_356 ?_
      obtain ⟨o2, h⟩ := h
      refine JS_iast dX12_fits_357 BS_272 (Nat.le_of_ble_eq_true rfl) (Nat.le_of_ble_eq_true rfl) o2 ?_
      refine JT_goto (tgt := 189) dX12_fits_358 (by decide) ?_
      exact JT_sub [1, 2, 3, 4, 0] rfl h
  refine JT_if_lt (tgt := 339) dX12_fits_332 (by decide) (fun hc5 => ?_) (fun hc5 => ?_)
  · refine JT_iconst (v := 0) dX12_fits_339 ic_0 ?_
    exact hj4 _ (by rw [if_pos hc5])
  · refine JT_iconst (v := 1) dX12_fits_335 ic_1 ?_
    refine JT_goto (tgt := 340) dX12_fits_336 (by decide) ?_
    exact hj4 _ (by rw [if_neg hc5])
set_option maxRecDepth 1000000 in
theorem bX12_fits (a1 : Int32) {s : SM} {Q : Int32 → SM → Prop} (h : rX12_lostOf (mX12_taken (pI s 248 0 (0 : Int32)) (640 : Int32)) (-1 : Int32) ∧ (((vX12_isIn (mX12_taken (pI s 248 0 (0 : Int32)) (640 : Int32)) a1 (1 : Int32) (20 : Int32)) = 0 → Q (-1 : Int32) (mX12_taken (pI s 248 0 (0 : Int32)) (640 : Int32))) ∧ (¬ (vX12_isIn (mX12_taken (pI s 248 0 (0 : Int32)) (640 : Int32)) a1 (1 : Int32) (20 : Int32)) = 0 → ((¬ (gI (mX12_taken (pI s 248 0 (0 : Int32)) (640 : Int32)) 248 3) = ((2 : Int32) * (gI (mX12_taken (pI s 248 0 (0 : Int32)) (640 : Int32)) 250 ((0 : Int32)).toNatClampNeg)) → Q (-1 : Int32) (mX12_taken (pI s 248 0 (0 : Int32)) (640 : Int32))) ∧ ((gI (mX12_taken (pI s 248 0 (0 : Int32)) (640 : Int32)) 248 3) = ((2 : Int32) * (gI (mX12_taken (pI s 248 0 (0 : Int32)) (640 : Int32)) 250 ((0 : Int32)).toNatClampNeg)) → (((vX12_lostOf (mX12_taken (pI s 248 0 (0 : Int32)) (640 : Int32)) (-1 : Int32)) ≤ (4 : Int32) → BI MX12_fits 6 52 [(0, .ref 248), (1, .int a1), (2, .int (vX12_lostOf (mX12_taken (pI s 248 0 (0 : Int32)) (640 : Int32)) (-1 : Int32))), (3, .int (0 : Int32))] (mX12_taken (pI s 248 0 (0 : Int32)) (640 : Int32)) Q) ∧ (¬ (vX12_lostOf (mX12_taken (pI s 248 0 (0 : Int32)) (640 : Int32)) (-1 : Int32)) ≤ (4 : Int32) → Q (-1 : Int32) (mX12_taken (pI s 248 0 (0 : Int32)) (640 : Int32))))))))) : KI MX12_fits 6 [.ref 248, .int a1] s Q := by
  show BI MX12_fits 6 0 [(0, .ref 248), (1, .int a1)] s Q
  refine JT_aload_n (q := 0) dX12_fits_0 rfl rfl ?_
  refine JT_iconst (v := 0) dX12_fits_1 ic_0 ?_
  refine JS_putI dX12_fits_2 flX12_1 BS_248 (Nat.le_of_ble_eq_true rfl) (Nat.le_of_ble_eq_true rfl) ct_12_0 ?_
  refine JT_aload_n (q := 0) dX12_fits_5 rfl rfl ?_
  refine JT_sipush (v := 640) dX12_fits_6 sp_640 ?_
  refine JS_callVV (M' := MX12_taken) (d' := 0) (As := [.int (640 : Int32)]) (rest := []) (P := (fun wm9 => (mX12_taken (pI s 248 0 (0 : Int32)) (640 : Int32)) = wm9)) dX12_fits_9 cvX12_238 okX12_taken rfl (Nat.le_of_ble_eq_true rfl) BS_248 (Nat.le_of_ble_eq_true rfl) (Nat.le_of_ble_eq_true rfl) hci_12 (Nat.le_of_ble_eq_true rfl) (Nat.le_of_ble_eq_true rfl) (pX12_taken  ((640 : Int32))  rfl) (fun wm9 hq9 => ?_)
  subst hq9
  refine JT_aload_n (q := 0) dX12_fits_12 rfl rfl ?_
  refine JT_iconst (v := -1) dX12_fits_13 ic_m1 ?_
  obtain ⟨o5, h⟩ := h
  refine JS_callVI (M' := MX12_lostOf) (d' := 4) (As := [.int (-1 : Int32)]) (rest := []) (P := (fun zv9 wm9 => (vX12_lostOf (mX12_taken (pI s 248 0 (0 : Int32)) (640 : Int32)) (-1 : Int32)) = zv9 ∧ (mX12_taken (pI s 248 0 (0 : Int32)) (640 : Int32)) = wm9)) dX12_fits_14 cvX12_436 okX12_lostOf rfl (Nat.le_of_ble_eq_true rfl) BS_248 (Nat.le_of_ble_eq_true rfl) (Nat.le_of_ble_eq_true rfl) hci_12 (Nat.le_of_ble_eq_true rfl) (Nat.le_of_ble_eq_true rfl) (pX12_lostOf  ((-1 : Int32)) o5 ⟨rfl, rfl⟩) (fun zv9 wm9 hq9 => ?_)
  obtain ⟨rfl, rfl⟩ := hq9
  refine JT_istore_n (lv' := [(2, .int (vX12_lostOf (mX12_taken (pI s 248 0 (0 : Int32)) (640 : Int32)) (-1 : Int32))), (0, .ref 248), (1, .int a1)]) dX12_fits_17 rfl (Nat.le_of_ble_eq_true rfl) rfl ?_
  refine JT_iload_n (q := 2) dX12_fits_18 rfl rfl ?_
  refine JT_iconst (v := 1) dX12_fits_19 ic_1 ?_
  refine JT_bipush (v := 20) dX12_fits_20 bp_20 ?_
  refine JS_callSI (M' := MX12_isIn) (d' := 0) (As := [.int a1, .int (1 : Int32), .int (20 : Int32)]) (rest := []) (P := (fun zv9 wm9 => (vX12_isIn (mX12_taken (pI s 248 0 (0 : Int32)) (640 : Int32)) a1 (1 : Int32) (20 : Int32)) = zv9 ∧ (mX12_taken (pI s 248 0 (0 : Int32)) (640 : Int32)) = wm9)) dX12_fits_22 cvX12_202 okX12_isIn rfl (Nat.le_of_ble_eq_true rfl) (Nat.le_of_ble_eq_true rfl) (Nat.le_of_ble_eq_true rfl) (pX12_isIn  (a1) ((1 : Int32)) ((20 : Int32))  ⟨rfl, rfl⟩) (fun zv9 wm9 hq9 => ?_)
  obtain ⟨rfl, rfl⟩ := hq9
  refine JT_if_eq (tgt := 48) dX12_fits_25 (by decide) (fun hc3 => ?_) (fun hc3 => ?_)
  · have h := h.1 hc3
    refine JT_iconst (v := -1) dX12_fits_48 ic_m1 ?_
    exact JS_iret dX12_fits_49 rfl rfl h
  · have h := h.2 hc3
    refine JT_aload_n (q := 1) dX12_fits_28 rfl rfl ?_
    refine JS_getI dX12_fits_29 flX12_18 BS_248 (Nat.le_of_ble_eq_true rfl) (Nat.le_of_ble_eq_true rfl) (Or.inl ct_12_3) ?_
    refine JT_iconst (v := 2) dX12_fits_32 ic_2 ?_
    refine JT_aload_n (q := 1) dX12_fits_33 rfl rfl ?_
    refine JS_getR (x := 250) dX12_fits_34 flX12_33 BS_248 (Nat.le_of_ble_eq_true rfl) (Nat.le_of_ble_eq_true rfl) (Or.inr ⟨_, ct_12_6⟩) RF_248_6 ?_
    refine JT_iconst (v := 0) dX12_fits_37 ic_0 ?_
    refine JS_iald dX12_fits_38 BS_250 (Nat.le_of_ble_eq_true rfl) (Nat.le_of_ble_eq_true rfl) (by unfold vp_in; decide) ?_
    refine JT_imul dX12_fits_39 ?_
    refine JT_icmp_ne (tgt := 48) dX12_fits_40 (by decide) (fun hc2 => ?_) (fun hc2 => ?_)
    · have h := h.1 hc2
      refine JT_iconst (v := -1) dX12_fits_48 ic_m1 ?_
      exact JS_iret dX12_fits_49 rfl rfl h
    · have h := h.2 hc2
      refine JT_iload_n (q := 0) dX12_fits_43 rfl rfl ?_
      refine JT_iconst (v := 4) dX12_fits_44 ic_4 ?_
      refine JT_icmp_le (tgt := 50) dX12_fits_45 (by decide) (fun hc1 => ?_) (fun hc1 => ?_)
      · have h := h.1 hc1
        refine JT_iconst (v := 0) dX12_fits_50 ic_0 ?_
        refine JT_istore_n (lv' := [(3, .int (0 : Int32)), (2, .int (vX12_lostOf (mX12_taken (pI s 248 0 (0 : Int32)) (640 : Int32)) (-1 : Int32))), (0, .ref 248), (1, .int a1)]) dX12_fits_51 rfl (Nat.le_of_ble_eq_true rfl) rfl ?_
        exact JT_sub [2, 3, 1, 0] rfl h
      · have h := h.2 hc1
        refine JT_iconst (v := -1) dX12_fits_48 ic_m1 ?_
        exact JS_iret dX12_fits_49 rfl rfl h
set_option maxRecDepth 1000000 in
theorem gX12_fits  : ∀ n : Nat, (∀ (a1 : Int32) (a2 : Int32) (a3 : Int32) (s : SM) (Q : Int32 → SM → Prop), ((qX12_fits n).1 s a1 a2 a3) → Q ((lX12_fits n).1 s a1 a2 a3).1 ((lX12_fits n).1 s a1 a2 a3).2 → BI MX12_fits 6 52 [(0, .ref 248), (1, .int a1), (2, .int a2), (3, .int a3)] s Q) ∧ (∀ (a1 : Int32) (a2 : Int32) (a3 : Int32) (s : SM) (Q : Int32 → SM → Prop), ((qX12_fits n).2.1 s a1 a2 a3) → Q ((lX12_fits n).2.1 s a1 a2 a3).1 ((lX12_fits n).2.1 s a1 a2 a3).2 → BI MX12_fits 6 112 [(0, .ref 248), (1, .int a1), (2, .int a2), (3, .int a3)] s Q) ∧ (∀ (a1 : Int32) (a2 : Int32) (a3 : Int32) (a4 : Int32) (s : SM) (Q : Int32 → SM → Prop), ((qX12_fits n).2.2.1 s a1 a2 a3 a4) → Q ((lX12_fits n).2.2.1 s a1 a2 a3 a4).1 ((lX12_fits n).2.2.1 s a1 a2 a3 a4).2 → BI MX12_fits 6 189 [(0, .ref 248), (1, .int a1), (2, .int a2), (3, .int a3), (4, .int a4)] s Q) ∧ (∀ (a1 : Int32) (a2 : Int32) (a3 : Int32) (a4 : Int32) (a5 : Int32) (s : SM) (Q : Int32 → SM → Prop), ((qX12_fits n).2.2.2.1 s a1 a2 a3 a4 a5) → Q ((lX12_fits n).2.2.2.1 s a1 a2 a3 a4 a5).1 ((lX12_fits n).2.2.2.1 s a1 a2 a3 a4 a5).2 → BI MX12_fits 6 205 [(0, .ref 248), (1, .int a1), (2, .int a2), (3, .int a3), (4, .int a4), (5, .int a5)] s Q) ∧ (∀ (a1 : Int32) (a2 : Int32) (a3 : Int32) (a4 : Int32) (a5 : Int32) (s : SM) (Q : Int32 → SM → Prop), ((qX12_fits n).2.2.2.2.1 s a1 a2 a3 a4 a5) → Q ((lX12_fits n).2.2.2.2.1 s a1 a2 a3 a4 a5).1 ((lX12_fits n).2.2.2.2.1 s a1 a2 a3 a4 a5).2 → BI MX12_fits 6 232 [(0, .ref 248), (1, .int a1), (2, .int a2), (3, .int a3), (4, .int a4), (5, .int a5)] s Q) ∧ (∀ (a1 : Int32) (a2 : Int32) (a3 : Int32) (a4 : Int32) (a5 : Int32) (s : SM) (Q : Int32 → SM → Prop), ((qX12_fits n).2.2.2.2.2.1 s a1 a2 a3 a4 a5) → Q ((lX12_fits n).2.2.2.2.2.1 s a1 a2 a3 a4 a5).1 ((lX12_fits n).2.2.2.2.2.1 s a1 a2 a3 a4 a5).2 → BI MX12_fits 6 246 [(0, .ref 248), (1, .int a1), (2, .int a2), (3, .int a3), (4, .int a4), (5, .int a5)] s Q) ∧ (∀ (a1 : Int32) (a2 : Int32) (a3 : Int32) (a4 : Int32) (a5 : Int32) (s : SM) (Q : Int32 → SM → Prop), ((qX12_fits n).2.2.2.2.2.2.1 s a1 a2 a3 a4 a5) → Q ((lX12_fits n).2.2.2.2.2.2.1 s a1 a2 a3 a4 a5).1 ((lX12_fits n).2.2.2.2.2.2.1 s a1 a2 a3 a4 a5).2 → BI MX12_fits 6 300 [(0, .ref 248), (1, .int a1), (2, .int a2), (3, .int a3), (4, .int a4), (5, .int a5)] s Q) ∧ (∀ (a1 : Int32) (a2 : Int32) (a3 : Int32) (a4 : Int32) (a5 : Int32) (s : SM) (Q : Int32 → SM → Prop), ((qX12_fits n).2.2.2.2.2.2.2 s a1 a2 a3 a4 a5) → Q ((lX12_fits n).2.2.2.2.2.2.2 s a1 a2 a3 a4 a5).1 ((lX12_fits n).2.2.2.2.2.2.2 s a1 a2 a3 a4 a5).2 → BI MX12_fits 6 330 [(0, .ref 248), (1, .int a1), (2, .int a2), (3, .int a3), (4, .int a4), (5, .int a5)] s Q) := by
  intro n
  induction n with
  | zero => exact ⟨fun _ _ _ _ _ hq _ => absurd hq id, fun _ _ _ _ _ hq _ => absurd hq id, fun _ _ _ _ _ _ hq _ => absurd hq id, fun _ _ _ _ _ _ _ hq _ => absurd hq id, fun _ _ _ _ _ _ _ hq _ => absurd hq id, fun _ _ _ _ _ _ _ hq _ => absurd hq id, fun _ _ _ _ _ _ _ hq _ => absurd hq id, fun _ _ _ _ _ _ _ hq _ => absurd hq id⟩
  | succ n ih =>
    refine ⟨?_, ?_, ?_, ?_, ?_, ?_, ?_, ?_⟩
    · intro a1 a2 a3 s Q hr h
      replace hr : uX12_fits_52 (qX12_fits n) s a1 a2 a3 := hr
      replace h : Q (tX12_fits_52 (lX12_fits n) s a1 a2 a3).1 (tX12_fits_52 (lX12_fits n) s a1 a2 a3).2 := h
      unfold uX12_fits_52 at hr
      unfold tX12_fits_52 at h
      refine bX12_fits_52 a1 a2 a3 ?_
      refine ⟨fun c => ?_, fun c => ?_⟩
      · replace hr := hr.1 c
        replace h := q3p c h
        first | exact ih.2.1 a1 a2 (0 : Int32) _ Q hr h | contradiction
      · replace hr := hr.2 c
        replace h := q3n c h
        refine ⟨hr.1, ?_⟩
        replace hr := hr.2
        refine ⟨hr.1, ?_⟩
        replace hr := hr.2
        refine ⟨hr.1, ?_⟩
        replace hr := hr.2
        intro s2 e9
        replace hr := hr s2 e9
        try rw [← e9] at h
        try dsimp only at h
        refine ⟨hr.1, ?_⟩
        replace hr := hr.2
        refine ⟨hr.1, ?_⟩
        replace hr := hr.2
        first | exact ih.1 a1 a2 (a3 + 1) _ Q hr h | contradiction
    · intro a1 a2 a3 s Q hr h
      replace hr : uX12_fits_112 (qX12_fits n) s a1 a2 a3 := hr
      replace h : Q (tX12_fits_112 (lX12_fits n) s a1 a2 a3).1 (tX12_fits_112 (lX12_fits n) s a1 a2 a3).2 := h
      unfold uX12_fits_112 at hr
      unfold tX12_fits_112 at h
      refine bX12_fits_112 a1 a2 a3 ?_
      refine ⟨fun c => ?_, fun c => ?_⟩
      · replace hr := hr.1 c
        replace h := q3p c h
        first | exact ih.2.2.1 a1 a2 (0 : Int32) (1 : Int32) _ Q hr h | contradiction
      · replace hr := hr.2 c
        replace h := q3n c h
        refine ⟨hr.1, ?_⟩
        replace hr := hr.2
        refine ⟨hr.1, ?_⟩
        replace hr := hr.2
        refine ⟨hr.1, ?_⟩
        replace hr := hr.2
        refine ⟨hr.1, ?_⟩
        replace hr := hr.2
        refine ⟨hr.1, ?_⟩
        replace hr := hr.2
        intro s3 e9
        replace hr := hr s3 e9
        try rw [← e9] at h
        try dsimp only at h
        refine ⟨hr.1, ?_⟩
        replace hr := hr.2
        refine ⟨hr.1, ?_⟩
        replace hr := hr.2
        refine ⟨hr.1, ?_⟩
        replace hr := hr.2
        refine ⟨hr.1, ?_⟩
        replace hr := hr.2
        intro s6 e9
        replace hr := hr s6 e9
        try rw [← e9] at h
        try dsimp only at h
        refine ⟨hr.1, ?_⟩
        replace hr := hr.2
        first | exact ih.2.1 a1 a2 (a3 + 1) _ Q hr h | contradiction
    · intro a1 a2 a3 a4 s Q hr h
      replace hr : uX12_fits_189 (qX12_fits n) s a1 a2 a3 a4 := hr
      replace h : Q (tX12_fits_189 (lX12_fits n) s a1 a2 a3 a4).1 (tX12_fits_189 (lX12_fits n) s a1 a2 a3 a4).2 := h
      unfold uX12_fits_189 at hr
      unfold tX12_fits_189 at h
      refine bX12_fits_189 a1 a2 a3 a4 ?_
      refine ⟨fun c => ?_, fun c => ?_⟩
      · replace h := q3p c h
        first | exact h | contradiction
      · replace hr := hr c
        replace h := q3n c h
        refine ⟨hr.1, ?_⟩
        replace hr := hr.2
        refine ⟨fun c => ?_, fun c => ?_⟩
        · replace hr := hr.1 c
          replace h := q3p c h
          first | exact ih.2.2.2.2.2.2.1 a1 a2 a3 a4 (a2 - (1 : Int32)) _ Q hr h | contradiction
        · replace hr := hr.2 c
          replace h := q3n c h
          first | exact ih.2.2.2.1 a1 a2 a3 a4 (0 : Int32) _ Q hr h | contradiction
    · intro a1 a2 a3 a4 a5 s Q hr h
      replace hr : uX12_fits_205 (qX12_fits n) s a1 a2 a3 a4 a5 := hr
      replace h : Q (tX12_fits_205 (lX12_fits n) s a1 a2 a3 a4 a5).1 (tX12_fits_205 (lX12_fits n) s a1 a2 a3 a4 a5).2 := h
      unfold uX12_fits_205 at hr
      unfold tX12_fits_205 at h
      refine bX12_fits_205 a1 a2 a3 a4 a5 ?_
      refine ⟨fun c => ?_, fun c => ?_⟩
      · replace hr := hr.1 c
        replace h := q3p c h
        first | exact ih.2.2.2.2.2.2.1 a1 a2 (a3 + 1) a4 (a2 - (1 : Int32)) _ Q hr h | contradiction
      · replace hr := hr.2 c
        replace h := q3n c h
        refine ⟨fun c => ?_, fun c => ?_⟩
        · replace hr := hr.1 c
          replace h := q3p c h
          first | exact ih.2.2.2.2.1 a1 a2 a3 a4 a5 _ Q hr h | contradiction
        · replace hr := hr.2 c
          replace h := q3n c h
          refine ⟨hr.1, ?_⟩
          replace hr := hr.2
          refine ⟨hr.1, ?_⟩
          replace hr := hr.2
          refine ⟨fun c => ?_, fun c => ?_⟩
          · replace hr := hr.1 c
            replace h := q3p c h
            first | exact ih.2.2.2.2.2.1 a1 a2 a3 a4 a5 _ Q hr h | contradiction
          · replace hr := hr.2 c
            replace h := q3n c h
            first | exact ih.2.2.2.2.1 a1 a2 a3 a4 a5 _ Q hr h | contradiction
    · intro a1 a2 a3 a4 a5 s Q hr h
      replace hr : uX12_fits_232 (qX12_fits n) s a1 a2 a3 a4 a5 := hr
      replace h : Q (tX12_fits_232 (lX12_fits n) s a1 a2 a3 a4 a5).1 (tX12_fits_232 (lX12_fits n) s a1 a2 a3 a4 a5).2 := h
      unfold uX12_fits_232 at hr
      unfold tX12_fits_232 at h
      refine bX12_fits_232 a1 a2 a3 a4 a5 ?_
      refine ⟨hr.1, ?_⟩
      replace hr := hr.2
      refine ⟨hr.1, ?_⟩
      replace hr := hr.2
      first | exact ih.2.2.2.2.2.1 a1 a2 a3 a4 a5 _ Q hr h | contradiction
    · intro a1 a2 a3 a4 a5 s Q hr h
      replace hr : uX12_fits_246 (qX12_fits n) s a1 a2 a3 a4 a5 := hr
      replace h : Q (tX12_fits_246 (lX12_fits n) s a1 a2 a3 a4 a5).1 (tX12_fits_246 (lX12_fits n) s a1 a2 a3 a4 a5).2 := h
      unfold uX12_fits_246 at hr
      unfold tX12_fits_246 at h
      refine bX12_fits_246 a1 a2 a3 a4 a5 ?_
      refine ⟨fun c => ?_, fun c => ?_⟩
      · replace hr := hr.1 c
        replace h := q3p c h
        refine ⟨hr.1, ?_⟩
        replace hr := hr.2
        refine ⟨hr.1, ?_⟩
        replace hr := hr.2
        first | exact ih.2.2.2.1 a1 a2 a3 a4 (a5 + 1) _ Q hr h | contradiction
      · replace hr := hr.2 c
        replace h := q3n c h
        refine ⟨hr.1, ?_⟩
        replace hr := hr.2
        refine ⟨hr.1, ?_⟩
        replace hr := hr.2
        refine ⟨fun c => ?_, fun c => ?_⟩
        · replace hr := hr.1 c
          replace h := q3p c h
          first | exact ih.2.2.2.1 a1 a2 a3 a4 (a5 + 1) _ Q hr h | contradiction
        · replace hr := hr.2 c
          replace h := q3n c h
          refine ⟨hr.1, ?_⟩
          replace hr := hr.2
          refine ⟨hr.1, ?_⟩
          replace hr := hr.2
          first | exact ih.2.2.2.1 a1 a2 a3 a4 (a5 + 1) _ Q hr h | contradiction
    · intro a1 a2 a3 a4 a5 s Q hr h
      replace hr : uX12_fits_300 (qX12_fits n) s a1 a2 a3 a4 a5 := hr
      replace h : Q (tX12_fits_300 (lX12_fits n) s a1 a2 a3 a4 a5).1 (tX12_fits_300 (lX12_fits n) s a1 a2 a3 a4 a5).2 := h
      unfold uX12_fits_300 at hr
      unfold tX12_fits_300 at h
      refine bX12_fits_300 a1 a2 a3 a4 a5 ?_
      refine ⟨fun c => ?_, fun c => ?_⟩
      · replace hr := hr.1 c
        replace h := q3p c h
        first | exact ih.2.2.2.2.2.2.2 a1 a2 a3 a4 a5 _ Q hr h | contradiction
      · replace hr := hr.2 c
        replace h := q3n c h
        refine ⟨hr.1, ?_⟩
        replace hr := hr.2
        refine ⟨fun c => ?_, fun c => ?_⟩
        · replace hr := hr.1 c
          replace h := q3n c h
          first | exact ih.2.2.2.2.2.2.2 a1 a2 a3 a4 a5 _ Q hr h | contradiction
        · replace hr := hr.2 c
          replace h := q3p c h
          refine ⟨hr.1, ?_⟩
          replace hr := hr.2
          first | exact ih.2.2.2.2.2.2.1 a1 a2 a3 a4 (a5 + (-1)) _ Q hr h | contradiction
    · intro a1 a2 a3 a4 a5 s Q hr h
      replace hr : uX12_fits_330 (qX12_fits n) s a1 a2 a3 a4 a5 := hr
      replace h : Q (tX12_fits_330 (lX12_fits n) s a1 a2 a3 a4 a5).1 (tX12_fits_330 (lX12_fits n) s a1 a2 a3 a4 a5).2 := h
      unfold uX12_fits_330 at hr
      unfold tX12_fits_330 at h
      refine bX12_fits_330 a1 a2 a3 a4 a5 ?_
      refine ⟨fun c => ?_, fun c => ?_⟩
      · replace hr := hr.1 c
        replace h := q3p c h
        first | exact ih.2.2.1 a1 a2 a3 (if a5 < 0 then (0 : Int32) else (1 : Int32)) _ Q hr h | contradiction
      · replace hr := hr.2 c
        replace h := q3n c h
        refine ⟨hr.1, ?_⟩
        replace hr := hr.2
        refine ⟨hr.1, ?_⟩
        replace hr := hr.2
        first | exact ih.2.2.1 a1 a2 a3 (if a5 < 0 then (0 : Int32) else (1 : Int32)) _ Q hr h | contradiction
set_option maxRecDepth 1000000 in
theorem pX12_fits (a1 : Int32) {s : SM} {Q : Int32 → SM → Prop} (hr : rX12_fits s a1) (h : Q (vX12_fits s a1) (mX12_fits s a1)) : KI MX12_fits 6 [.ref 248, .int a1] s Q := by
  replace h : Q (fX12_fits s a1).1 (fX12_fits s a1).2 := h
  unfold rX12_fits at hr
  unfold fX12_fits at h
  refine bX12_fits a1 ?_
  refine ⟨hr.1, ?_⟩
  replace hr := hr.2
  refine ⟨fun c => ?_, fun c => ?_⟩
  · replace h := q3p c h
    first | exact h | contradiction
  · replace hr := hr c
    replace h := q3n c h
    refine ⟨fun c => ?_, fun c => ?_⟩
    · replace h := q3n c h
      first | exact h | contradiction
    · replace hr := hr c
      replace h := q3p c h
      refine ⟨fun c => ?_, fun c => ?_⟩
      · replace hr := hr c
        replace h := q3p c h
        first | exact (gX12_fits  FU).1 a1 (vX12_lostOf (mX12_taken (pI s 248 0 (0 : Int32)) (640 : Int32)) (-1 : Int32)) (0 : Int32) _ Q hr h | contradiction
      · replace h := q3n c h
        first | exact h | contradiction
set_option maxRecDepth 1000000 in
theorem bX12_lasts_60 (a1 : Int32) (a2 : Int32) (a3 : Int32) (a4 : Int32) (a5 : Int32) (a6 : Int32) {s : SM} {Q : Int32 → SM → Prop} (h : (((200 : Int32) ≤ a6 → rX12_backAll s  ∧ Q a4 (mX12_backAll s )) ∧ (¬ (200 : Int32) ≤ a6 → (((10 : Int32) ≤ a5 → rX12_backAll s  ∧ Q a4 (mX12_backAll s )) ∧ (¬ (10 : Int32) ≤ a5 → rX12_draw s (gI s 250 ((0 : Int32)).toNatClampNeg) ∧ rX12_draw (mX12_draw s (gI s 250 ((0 : Int32)).toNatClampNeg)) (gI (mX12_draw s (gI s 250 ((0 : Int32)).toNatClampNeg)) 250 ((0 : Int32)).toNatClampNeg) ∧ (∀ s3, s3 = (mX12_draw (mX12_draw s (gI s 250 ((0 : Int32)).toNatClampNeg)) (gI (mX12_draw s (gI s 250 ((0 : Int32)).toNatClampNeg)) 250 ((0 : Int32)).toNatClampNeg)) → rX12_draw s3 (gI s3 250 ((1 : Int32)).toNatClampNeg) ∧ rX12_draw (mX12_draw s3 (gI s3 250 ((1 : Int32)).toNatClampNeg)) (99 : Int32) ∧ ((¬ a1 = (1 : Int32) → BI MX12_lasts 6 153 [(0, .ref 248), (1, .int a1), (2, .int a2), (3, .int a3), (4, .int a4), (5, .int a5), (6, .int a6), (7, .int (vX12_draw s (gI s 250 ((0 : Int32)).toNatClampNeg))), (8, .int (vX12_draw (mX12_draw s (gI s 250 ((0 : Int32)).toNatClampNeg)) (gI (mX12_draw s (gI s 250 ((0 : Int32)).toNatClampNeg)) 250 ((0 : Int32)).toNatClampNeg))), (9, .int (vX12_draw s3 (gI s3 250 ((1 : Int32)).toNatClampNeg))), (10, .int ((1 : Int32) + (vX12_draw (mX12_draw s3 (gI s3 250 ((1 : Int32)).toNatClampNeg)) (99 : Int32))))] (mX12_draw (mX12_draw s3 (gI s3 250 ((1 : Int32)).toNatClampNeg)) (99 : Int32)) Q) ∧ (a1 = (1 : Int32) → rX12_latestFrom (mX12_draw (mX12_draw s3 (gI s3 250 ((1 : Int32)).toNatClampNeg)) (99 : Int32)) a3 ∧ (((vX12_latestFrom (mX12_draw (mX12_draw s3 (gI s3 250 ((1 : Int32)).toNatClampNeg)) (99 : Int32)) a3) < 0 → BI MX12_lasts 6 153 [(0, .ref 248), (1, .int a1), (2, .int a2), (3, .int a3), (4, .int a4), (5, .int a5), (6, .int a6), (7, .int (vX12_draw s (gI s 250 ((0 : Int32)).toNatClampNeg))), (8, .int (vX12_draw (mX12_draw s (gI s 250 ((0 : Int32)).toNatClampNeg)) (gI (mX12_draw s (gI s 250 ((0 : Int32)).toNatClampNeg)) 250 ((0 : Int32)).toNatClampNeg))), (9, .int (vX12_draw s3 (gI s3 250 ((1 : Int32)).toNatClampNeg))), (10, .int ((1 : Int32) + (vX12_draw (mX12_draw s3 (gI s3 250 ((1 : Int32)).toNatClampNeg)) (99 : Int32))))] (mX12_draw (mX12_draw s3 (gI s3 250 ((1 : Int32)).toNatClampNeg)) (99 : Int32)) Q) ∧ (¬ (vX12_latestFrom (mX12_draw (mX12_draw s3 (gI s3 250 ((1 : Int32)).toNatClampNeg)) (99 : Int32)) a3) < 0 → rX12_whyStrike (mX12_draw (mX12_draw s3 (gI s3 250 ((1 : Int32)).toNatClampNeg)) (99 : Int32)) (vX12_latestFrom (mX12_draw (mX12_draw s3 (gI s3 250 ((1 : Int32)).toNatClampNeg)) (99 : Int32)) a3) ∧ ((¬ (vX12_whyStrike (mX12_draw (mX12_draw s3 (gI s3 250 ((1 : Int32)).toNatClampNeg)) (99 : Int32)) (vX12_latestFrom (mX12_draw (mX12_draw s3 (gI s3 250 ((1 : Int32)).toNatClampNeg)) (99 : Int32)) a3)) = 0 → BI MX12_lasts 6 153 [(0, .ref 248), (1, .int a1), (2, .int a2), (3, .int a3), (4, .int a4), (5, .int a5), (6, .int a6), (7, .int (vX12_draw s (gI s 250 ((0 : Int32)).toNatClampNeg))), (8, .int (vX12_draw (mX12_draw s (gI s 250 ((0 : Int32)).toNatClampNeg)) (gI (mX12_draw s (gI s 250 ((0 : Int32)).toNatClampNeg)) 250 ((0 : Int32)).toNatClampNeg))), (9, .int (vX12_draw s3 (gI s3 250 ((1 : Int32)).toNatClampNeg))), (10, .int ((1 : Int32) + (vX12_draw (mX12_draw s3 (gI s3 250 ((1 : Int32)).toNatClampNeg)) (99 : Int32))))] (mX12_draw (mX12_draw s3 (gI s3 250 ((1 : Int32)).toNatClampNeg)) (99 : Int32)) Q) ∧ ((vX12_whyStrike (mX12_draw (mX12_draw s3 (gI s3 250 ((1 : Int32)).toNatClampNeg)) (99 : Int32)) (vX12_latestFrom (mX12_draw (mX12_draw s3 (gI s3 250 ((1 : Int32)).toNatClampNeg)) (99 : Int32)) a3)) = 0 → rX12_strikes (mX12_draw (mX12_draw s3 (gI s3 250 ((1 : Int32)).toNatClampNeg)) (99 : Int32)) (vX12_latestFrom (mX12_draw (mX12_draw s3 (gI s3 250 ((1 : Int32)).toNatClampNeg)) (99 : Int32)) a3) ∧ (∀ s4, s4 = (mX12_strikes (mX12_draw (mX12_draw s3 (gI s3 250 ((1 : Int32)).toNatClampNeg)) (99 : Int32)) (vX12_latestFrom (mX12_draw (mX12_draw s3 (gI s3 250 ((1 : Int32)).toNatClampNeg)) (99 : Int32)) a3)) → BI MX12_lasts 6 153 [(0, .ref 248), (1, .int a1), (2, .int a2), (3, .int a3), (4, .int a4), (5, .int a5), (6, .int a6), (7, .int (vX12_draw s (gI s 250 ((0 : Int32)).toNatClampNeg))), (8, .int (vX12_draw (mX12_draw s (gI s 250 ((0 : Int32)).toNatClampNeg)) (gI (mX12_draw s (gI s 250 ((0 : Int32)).toNatClampNeg)) 250 ((0 : Int32)).toNatClampNeg))), (9, .int (vX12_draw s3 (gI s3 250 ((1 : Int32)).toNatClampNeg))), (10, .int ((1 : Int32) + (vX12_draw (mX12_draw s3 (gI s3 250 ((1 : Int32)).toNatClampNeg)) (99 : Int32))))] s4 Q))))))))))))) : BI MX12_lasts 6 60 [(0, .ref 248), (1, .int a1), (2, .int a2), (3, .int a3), (4, .int a4), (5, .int a5), (6, .int a6)] s Q := by
  refine JT_iload (q := 6) dX12_lasts_60 rfl ?_
  refine JT_sipush (v := 200) dX12_lasts_62 sp_200 ?_
  refine JT_icmp_ge (tgt := 228) dX12_lasts_65 (by decide) (fun hc16 => ?_) (fun hc16 => ?_)
  · have h := h.1 hc16
    refine JT_aload_n (q := 0) dX12_lasts_228 rfl rfl ?_
    obtain ⟨o1, h⟩ := h
    refine JS_callVV (M' := MX12_backAll) (d' := 0) (As := []) (rest := []) (P := (fun wm9 => (mX12_backAll s ) = wm9)) dX12_lasts_229 cvX12_383 okX12_backAll rfl (Nat.le_of_ble_eq_true rfl) BS_248 (Nat.le_of_ble_eq_true rfl) (Nat.le_of_ble_eq_true rfl) hci_12 (Nat.le_of_ble_eq_true rfl) (Nat.le_of_ble_eq_true rfl) (pX12_backAll   o1 rfl) (fun wm9 hq9 => ?_)
    subst hq9
    refine JT_iload (q := 4) dX12_lasts_232 rfl ?_
    exact JS_iret dX12_lasts_234 rfl rfl h
  · have h := h.2 hc16
    refine JT_iload (q := 5) dX12_lasts_68 rfl ?_
    refine JT_bipush (v := 10) dX12_lasts_70 bp_10 ?_
    refine JT_icmp_ge (tgt := 228) dX12_lasts_72 (by decide) (fun hc15 => ?_) (fun hc15 => ?_)
    · have h := h.1 hc15
      refine JT_aload_n (q := 0) dX12_lasts_228 rfl rfl ?_
      obtain ⟨o2, h⟩ := h
      refine JS_callVV (M' := MX12_backAll) (d' := 0) (As := []) (rest := []) (P := (fun wm9 => (mX12_backAll s ) = wm9)) dX12_lasts_229 cvX12_383 okX12_backAll rfl (Nat.le_of_ble_eq_true rfl) BS_248 (Nat.le_of_ble_eq_true rfl) (Nat.le_of_ble_eq_true rfl) hci_12 (Nat.le_of_ble_eq_true rfl) (Nat.le_of_ble_eq_true rfl) (pX12_backAll   o2 rfl) (fun wm9 hq9 => ?_)
      subst hq9
      refine JT_iload (q := 4) dX12_lasts_232 rfl ?_
      exact JS_iret dX12_lasts_234 rfl rfl h
    · have h := h.2 hc15
      refine JT_aload_n (q := 0) dX12_lasts_75 rfl rfl ?_
      refine JT_aload_n (q := 0) dX12_lasts_76 rfl rfl ?_
      refine JS_getR (x := 250) dX12_lasts_77 flX12_33 BS_248 (Nat.le_of_ble_eq_true rfl) (Nat.le_of_ble_eq_true rfl) (Or.inr ⟨_, ct_12_6⟩) RF_248_6 ?_
      refine JT_iconst (v := 0) dX12_lasts_80 ic_0 ?_
      refine JS_iald dX12_lasts_81 BS_250 (Nat.le_of_ble_eq_true rfl) (Nat.le_of_ble_eq_true rfl) (by unfold vp_in; decide) ?_
      obtain ⟨o14, h⟩ := h
      refine JS_callVI (M' := MX12_draw) (d' := 0) (As := [.int (gI s 250 ((0 : Int32)).toNatClampNeg)]) (rest := []) (P := (fun zv9 wm9 => (vX12_draw s (gI s 250 ((0 : Int32)).toNatClampNeg)) = zv9 ∧ (mX12_draw s (gI s 250 ((0 : Int32)).toNatClampNeg)) = wm9)) dX12_lasts_82 cvX12_459 okX12_draw rfl (Nat.le_of_ble_eq_true rfl) BS_248 (Nat.le_of_ble_eq_true rfl) (Nat.le_of_ble_eq_true rfl) hci_12 (Nat.le_of_ble_eq_true rfl) (Nat.le_of_ble_eq_true rfl) (pX12_draw  ((gI s 250 ((0 : Int32)).toNatClampNeg)) o14 ⟨rfl, rfl⟩) (fun zv9 wm9 hq9 => ?_)
      obtain ⟨rfl, rfl⟩ := hq9
      refine JT_istore (lv' := [(7, .int (vX12_draw s (gI s 250 ((0 : Int32)).toNatClampNeg))), (0, .ref 248), (1, .int a1), (2, .int a2), (3, .int a3), (4, .int a4), (5, .int a5), (6, .int a6)]) dX12_lasts_85 (Nat.le_of_ble_eq_true rfl) rfl ?_
      refine JT_aload_n (q := 1) dX12_lasts_87 rfl rfl ?_
      refine JT_aload_n (q := 1) dX12_lasts_88 rfl rfl ?_
      refine JS_getR (x := 250) dX12_lasts_89 flX12_33 BS_248 (Nat.le_of_ble_eq_true rfl) (Nat.le_of_ble_eq_true rfl) (Or.inr ⟨_, ct_12_6⟩) RF_248_6 ?_
      refine JT_iconst (v := 0) dX12_lasts_92 ic_0 ?_
      refine JS_iald dX12_lasts_93 BS_250 (Nat.le_of_ble_eq_true rfl) (Nat.le_of_ble_eq_true rfl) (by unfold vp_in; decide) ?_
      obtain ⟨o13, h⟩ := h
      refine JS_callVI (M' := MX12_draw) (d' := 0) (As := [.int (gI (mX12_draw s (gI s 250 ((0 : Int32)).toNatClampNeg)) 250 ((0 : Int32)).toNatClampNeg)]) (rest := []) (P := (fun zv9 wm9 => (vX12_draw (mX12_draw s (gI s 250 ((0 : Int32)).toNatClampNeg)) (gI (mX12_draw s (gI s 250 ((0 : Int32)).toNatClampNeg)) 250 ((0 : Int32)).toNatClampNeg)) = zv9 ∧ (mX12_draw (mX12_draw s (gI s 250 ((0 : Int32)).toNatClampNeg)) (gI (mX12_draw s (gI s 250 ((0 : Int32)).toNatClampNeg)) 250 ((0 : Int32)).toNatClampNeg)) = wm9)) dX12_lasts_94 cvX12_459 okX12_draw rfl (Nat.le_of_ble_eq_true rfl) BS_248 (Nat.le_of_ble_eq_true rfl) (Nat.le_of_ble_eq_true rfl) hci_12 (Nat.le_of_ble_eq_true rfl) (Nat.le_of_ble_eq_true rfl) (pX12_draw  ((gI (mX12_draw s (gI s 250 ((0 : Int32)).toNatClampNeg)) 250 ((0 : Int32)).toNatClampNeg)) o13 ⟨rfl, rfl⟩) (fun zv9 wm9 hq9 => ?_)
      obtain ⟨rfl, rfl⟩ := hq9
      obtain ⟨s3, hs3⟩ : ∃ z, z = (mX12_draw (mX12_draw s (gI s 250 ((0 : Int32)).toNatClampNeg)) (gI (mX12_draw s (gI s 250 ((0 : Int32)).toNatClampNeg)) 250 ((0 : Int32)).toNatClampNeg)) := ⟨_, rfl⟩
      replace h := h s3 hs3
      rw [← hs3]
      refine JT_istore (lv' := [(8, .int (vX12_draw (mX12_draw s (gI s 250 ((0 : Int32)).toNatClampNeg)) (gI (mX12_draw s (gI s 250 ((0 : Int32)).toNatClampNeg)) 250 ((0 : Int32)).toNatClampNeg))), (7, .int (vX12_draw s (gI s 250 ((0 : Int32)).toNatClampNeg))), (0, .ref 248), (1, .int a1), (2, .int a2), (3, .int a3), (4, .int a4), (5, .int a5), (6, .int a6)]) dX12_lasts_97 (Nat.le_of_ble_eq_true rfl) rfl ?_
      refine JT_aload_n (q := 2) dX12_lasts_99 rfl rfl ?_
      refine JT_aload_n (q := 2) dX12_lasts_100 rfl rfl ?_
      refine JS_getR (x := 250) dX12_lasts_101 flX12_33 BS_248 (Nat.le_of_ble_eq_true rfl) (Nat.le_of_ble_eq_true rfl) (Or.inr ⟨_, ct_12_6⟩) RF_248_6 ?_
      refine JT_iconst (v := 1) dX12_lasts_104 ic_1 ?_
      refine JS_iald dX12_lasts_105 BS_250 (Nat.le_of_ble_eq_true rfl) (Nat.le_of_ble_eq_true rfl) (by unfold vp_in; decide) ?_
      obtain ⟨o12, h⟩ := h
      refine JS_callVI (M' := MX12_draw) (d' := 0) (As := [.int (gI s3 250 ((1 : Int32)).toNatClampNeg)]) (rest := []) (P := (fun zv9 wm9 => (vX12_draw s3 (gI s3 250 ((1 : Int32)).toNatClampNeg)) = zv9 ∧ (mX12_draw s3 (gI s3 250 ((1 : Int32)).toNatClampNeg)) = wm9)) dX12_lasts_106 cvX12_459 okX12_draw rfl (Nat.le_of_ble_eq_true rfl) BS_248 (Nat.le_of_ble_eq_true rfl) (Nat.le_of_ble_eq_true rfl) hci_12 (Nat.le_of_ble_eq_true rfl) (Nat.le_of_ble_eq_true rfl) (pX12_draw  ((gI s3 250 ((1 : Int32)).toNatClampNeg)) o12 ⟨rfl, rfl⟩) (fun zv9 wm9 hq9 => ?_)
      obtain ⟨rfl, rfl⟩ := hq9
      refine JT_istore (lv' := [(9, .int (vX12_draw s3 (gI s3 250 ((1 : Int32)).toNatClampNeg))), (8, .int (vX12_draw (mX12_draw s (gI s 250 ((0 : Int32)).toNatClampNeg)) (gI (mX12_draw s (gI s 250 ((0 : Int32)).toNatClampNeg)) 250 ((0 : Int32)).toNatClampNeg))), (7, .int (vX12_draw s (gI s 250 ((0 : Int32)).toNatClampNeg))), (0, .ref 248), (1, .int a1), (2, .int a2), (3, .int a3), (4, .int a4), (5, .int a5), (6, .int a6)]) dX12_lasts_109 (Nat.le_of_ble_eq_true rfl) rfl ?_
      refine JT_iconst (v := 1) dX12_lasts_111 ic_1 ?_
      refine JT_aload_n (q := 3) dX12_lasts_112 rfl rfl ?_
      refine JT_bipush (v := 99) dX12_lasts_113 bp_99 ?_
      obtain ⟨o11, h⟩ := h
      refine JS_callVI (M' := MX12_draw) (d' := 0) (As := [.int (99 : Int32)]) (rest := [.int (1 : Int32)]) (P := (fun zv9 wm9 => (vX12_draw (mX12_draw s3 (gI s3 250 ((1 : Int32)).toNatClampNeg)) (99 : Int32)) = zv9 ∧ (mX12_draw (mX12_draw s3 (gI s3 250 ((1 : Int32)).toNatClampNeg)) (99 : Int32)) = wm9)) dX12_lasts_115 cvX12_459 okX12_draw rfl (Nat.le_of_ble_eq_true rfl) BS_248 (Nat.le_of_ble_eq_true rfl) (Nat.le_of_ble_eq_true rfl) hci_12 (Nat.le_of_ble_eq_true rfl) (Nat.le_of_ble_eq_true rfl) (pX12_draw  ((99 : Int32)) o11 ⟨rfl, rfl⟩) (fun zv9 wm9 hq9 => ?_)
      obtain ⟨rfl, rfl⟩ := hq9
      refine JT_iadd dX12_lasts_118 ?_
      refine JT_istore (lv' := [(10, .int ((1 : Int32) + (vX12_draw (mX12_draw s3 (gI s3 250 ((1 : Int32)).toNatClampNeg)) (99 : Int32)))), (9, .int (vX12_draw s3 (gI s3 250 ((1 : Int32)).toNatClampNeg))), (8, .int (vX12_draw (mX12_draw s (gI s 250 ((0 : Int32)).toNatClampNeg)) (gI (mX12_draw s (gI s 250 ((0 : Int32)).toNatClampNeg)) 250 ((0 : Int32)).toNatClampNeg))), (7, .int (vX12_draw s (gI s 250 ((0 : Int32)).toNatClampNeg))), (0, .ref 248), (1, .int a1), (2, .int a2), (3, .int a3), (4, .int a4), (5, .int a5), (6, .int a6)]) dX12_lasts_119 (Nat.le_of_ble_eq_true rfl) rfl ?_
      refine JT_iload_n (q := 5) dX12_lasts_121 rfl rfl ?_
      refine JT_iconst (v := 1) dX12_lasts_122 ic_1 ?_
      refine JT_icmp_ne (tgt := 153) dX12_lasts_123 (by decide) (fun hc10 => ?_) (fun hc10 => ?_)
      · have h := h.1 hc10
        exact JT_sub [4, 5, 6, 7, 8, 9, 10, 3, 2, 1, 0] rfl h
      · have h := h.2 hc10
        refine JT_aload_n (q := 4) dX12_lasts_126 rfl rfl ?_
        refine JT_iload_n (q := 7) dX12_lasts_127 rfl rfl ?_
        obtain ⟨o9, h⟩ := h
        refine JS_callVI (M' := MX12_latestFrom) (d' := 3) (As := [.int a3]) (rest := []) (P := (fun zv9 wm9 => (vX12_latestFrom (mX12_draw (mX12_draw s3 (gI s3 250 ((1 : Int32)).toNatClampNeg)) (99 : Int32)) a3) = zv9 ∧ (mX12_draw (mX12_draw s3 (gI s3 250 ((1 : Int32)).toNatClampNeg)) (99 : Int32)) = wm9)) dX12_lasts_128 cvX12_462 okX12_latestFrom rfl (Nat.le_of_ble_eq_true rfl) BS_248 (Nat.le_of_ble_eq_true rfl) (Nat.le_of_ble_eq_true rfl) hci_12 (Nat.le_of_ble_eq_true rfl) (Nat.le_of_ble_eq_true rfl) (pX12_latestFrom  (a3) o9 ⟨rfl, rfl⟩) (fun zv9 wm9 hq9 => ?_)
        obtain ⟨rfl, rfl⟩ := hq9
        refine JT_istore (lv' := [(11, .int (vX12_latestFrom (mX12_draw (mX12_draw s3 (gI s3 250 ((1 : Int32)).toNatClampNeg)) (99 : Int32)) a3)), (10, .int ((1 : Int32) + (vX12_draw (mX12_draw s3 (gI s3 250 ((1 : Int32)).toNatClampNeg)) (99 : Int32)))), (9, .int (vX12_draw s3 (gI s3 250 ((1 : Int32)).toNatClampNeg))), (8, .int (vX12_draw (mX12_draw s (gI s 250 ((0 : Int32)).toNatClampNeg)) (gI (mX12_draw s (gI s 250 ((0 : Int32)).toNatClampNeg)) 250 ((0 : Int32)).toNatClampNeg))), (7, .int (vX12_draw s (gI s 250 ((0 : Int32)).toNatClampNeg))), (0, .ref 248), (1, .int a1), (2, .int a2), (3, .int a3), (4, .int a4), (5, .int a5), (6, .int a6)]) dX12_lasts_131 (Nat.le_of_ble_eq_true rfl) rfl ?_
        refine JT_iload (q := 0) dX12_lasts_133 rfl ?_
        refine JT_if_lt (tgt := 153) dX12_lasts_135 (by decide) (fun hc8 => ?_) (fun hc8 => ?_)
        · have h := h.1 hc8
          exact JT_sub [5, 6, 7, 8, 9, 10, 11, 4, 3, 2, 1] rfl h
        · have h := h.2 hc8
          refine JT_aload_n (q := 5) dX12_lasts_138 rfl rfl ?_
          refine JT_iload (q := 0) dX12_lasts_139 rfl ?_
          obtain ⟨o7, h⟩ := h
          refine JS_callVI (M' := MX12_whyStrike) (d' := 3) (As := [.int (vX12_latestFrom (mX12_draw (mX12_draw s3 (gI s3 250 ((1 : Int32)).toNatClampNeg)) (99 : Int32)) a3)]) (rest := []) (P := (fun zv9 wm9 => (vX12_whyStrike (mX12_draw (mX12_draw s3 (gI s3 250 ((1 : Int32)).toNatClampNeg)) (99 : Int32)) (vX12_latestFrom (mX12_draw (mX12_draw s3 (gI s3 250 ((1 : Int32)).toNatClampNeg)) (99 : Int32)) a3)) = zv9 ∧ (mX12_draw (mX12_draw s3 (gI s3 250 ((1 : Int32)).toNatClampNeg)) (99 : Int32)) = wm9)) dX12_lasts_141 cvX12_336 okX12_whyStrike rfl (Nat.le_of_ble_eq_true rfl) BS_248 (Nat.le_of_ble_eq_true rfl) (Nat.le_of_ble_eq_true rfl) hci_12 (Nat.le_of_ble_eq_true rfl) (Nat.le_of_ble_eq_true rfl) (pX12_whyStrike  ((vX12_latestFrom (mX12_draw (mX12_draw s3 (gI s3 250 ((1 : Int32)).toNatClampNeg)) (99 : Int32)) a3)) o7 ⟨rfl, rfl⟩) (fun zv9 wm9 hq9 => ?_)
          obtain ⟨rfl, rfl⟩ := hq9
          refine JT_if_ne (tgt := 153) dX12_lasts_144 (by decide) (fun hc6 => ?_) (fun hc6 => ?_)
          · have h := h.1 hc6
            exact JT_sub [5, 6, 7, 8, 9, 10, 11, 4, 3, 2, 1] rfl h
          · have h := h.2 hc6
            refine JT_aload_n (q := 5) dX12_lasts_147 rfl rfl ?_
            refine JT_iload (q := 0) dX12_lasts_148 rfl ?_
            obtain ⟨o5, h⟩ := h
            refine JS_callVV (M' := MX12_strikes) (d' := 2) (As := [.int (vX12_latestFrom (mX12_draw (mX12_draw s3 (gI s3 250 ((1 : Int32)).toNatClampNeg)) (99 : Int32)) a3)]) (rest := []) (P := (fun wm9 => (mX12_strikes (mX12_draw (mX12_draw s3 (gI s3 250 ((1 : Int32)).toNatClampNeg)) (99 : Int32)) (vX12_latestFrom (mX12_draw (mX12_draw s3 (gI s3 250 ((1 : Int32)).toNatClampNeg)) (99 : Int32)) a3)) = wm9)) dX12_lasts_150 cvX12_339 okX12_strikes rfl (Nat.le_of_ble_eq_true rfl) BS_248 (Nat.le_of_ble_eq_true rfl) (Nat.le_of_ble_eq_true rfl) hci_12 (Nat.le_of_ble_eq_true rfl) (Nat.le_of_ble_eq_true rfl) (pX12_strikes  ((vX12_latestFrom (mX12_draw (mX12_draw s3 (gI s3 250 ((1 : Int32)).toNatClampNeg)) (99 : Int32)) a3)) o5 rfl) (fun wm9 hq9 => ?_)
            subst hq9
            obtain ⟨s4, hs4⟩ : ∃ z, z = (mX12_strikes (mX12_draw (mX12_draw s3 (gI s3 250 ((1 : Int32)).toNatClampNeg)) (99 : Int32)) (vX12_latestFrom (mX12_draw (mX12_draw s3 (gI s3 250 ((1 : Int32)).toNatClampNeg)) (99 : Int32)) a3)) := ⟨_, rfl⟩
            replace h := h s4 hs4
            rw [← hs4]
            exact JT_sub [5, 6, 7, 8, 9, 10, 11, 4, 3, 2, 1] rfl h
set_option maxRecDepth 1000000 in
theorem bX12_lasts_153 (a1 : Int32) (a2 : Int32) (a3 : Int32) (a4 : Int32) (a5 : Int32) (a6 : Int32) (a7 : Int32) (a8 : Int32) (a9 : Int32) (a10 : Int32) {s : SM} {Q : Int32 → SM → Prop} (h : rX12_whyWrite s a7 a8 a9 ∧ (((vX12_whyWrite s a7 a8 a9) ≤ 0 → rX12_writes s a7 a8 a10 a9 ∧ ((¬ a1 = (2 : Int32) → BI MX12_lasts 6 60 [(0, .ref 248), (1, .int a1), (2, .int a2), (3, .int a3), (4, .int (a4 + 1)), (5, .int (a5 + (if (vX12_whyWrite s a7 a8 a9) ≤ (1 : Int32) then (0 : Int32) else (1 : Int32)))), (6, .int (a6 + 1))] (mX12_writes s a7 a8 a10 a9) Q) ∧ (a1 = (2 : Int32) → rX12_bestOf (mX12_writes s a7 a8 a10 a9) (-1 : Int32) ∧ (((vX12_bestOf (mX12_writes s a7 a8 a10 a9) (-1 : Int32)) < 0 → BI MX12_lasts 6 60 [(0, .ref 248), (1, .int a1), (2, .int a2), (3, .int a3), (4, .int (a4 + 1)), (5, .int (a5 + (if (vX12_whyWrite s a7 a8 a9) ≤ (1 : Int32) then (0 : Int32) else (1 : Int32)))), (6, .int (a6 + 1))] (mX12_bestOf (mX12_writes s a7 a8 a10 a9) (-1 : Int32)) Q) ∧ (¬ (vX12_bestOf (mX12_writes s a7 a8 a10 a9) (-1 : Int32)) < 0 → rX12_cuts (mX12_bestOf (mX12_writes s a7 a8 a10 a9) (-1 : Int32))  ∧ BI MX12_lasts 6 60 [(0, .ref 248), (1, .int a1), (2, .int a2), (3, .int a3), (4, .int (a4 + 1)), (5, .int (a5 + (if (vX12_whyWrite s a7 a8 a9) ≤ (1 : Int32) then (0 : Int32) else (1 : Int32)))), (6, .int (a6 + 1))] (mX12_cuts (mX12_bestOf (mX12_writes s a7 a8 a10 a9) (-1 : Int32)) ) Q))))) ∧ (¬ (vX12_whyWrite s a7 a8 a9) ≤ 0 → BI MX12_lasts 6 60 [(0, .ref 248), (1, .int a1), (2, .int a2), (3, .int a3), (4, .int a4), (5, .int (a5 + (if (vX12_whyWrite s a7 a8 a9) ≤ (1 : Int32) then (0 : Int32) else (1 : Int32)))), (6, .int (a6 + 1))] s Q))) : BI MX12_lasts 6 153 [(0, .ref 248), (1, .int a1), (2, .int a2), (3, .int a3), (4, .int a4), (5, .int a5), (6, .int a6), (7, .int a7), (8, .int a8), (9, .int a9), (10, .int a10)] s Q := by
  refine JT_aload_n (q := 0) dX12_lasts_153 rfl rfl ?_
  refine JT_iload (q := 7) dX12_lasts_154 rfl ?_
  refine JT_iload (q := 8) dX12_lasts_156 rfl ?_
  refine JT_iload (q := 9) dX12_lasts_158 rfl ?_
  obtain ⟨o9, h⟩ := h
  refine JS_callVI (M' := MX12_whyWrite) (d' := 4) (As := [.int a7, .int a8, .int a9]) (rest := []) (P := (fun zv9 wm9 => (vX12_whyWrite s a7 a8 a9) = zv9 ∧ s = wm9)) dX12_lasts_160 cvX12_326 okX12_whyWrite rfl (Nat.le_of_ble_eq_true rfl) BS_248 (Nat.le_of_ble_eq_true rfl) (Nat.le_of_ble_eq_true rfl) hci_12 (Nat.le_of_ble_eq_true rfl) (Nat.le_of_ble_eq_true rfl) (pX12_whyWrite  (a7) (a8) (a9) o9 ⟨rfl, rfl⟩) (fun zv9 wm9 hq9 => ?_)
  obtain ⟨rfl, rfl⟩ := hq9
  refine JT_istore (lv' := [(11, .int (vX12_whyWrite s a7 a8 a9)), (0, .ref 248), (1, .int a1), (2, .int a2), (3, .int a3), (4, .int a4), (5, .int a5), (6, .int a6), (7, .int a7), (8, .int a8), (9, .int a9), (10, .int a10)]) dX12_lasts_163 (Nat.le_of_ble_eq_true rfl) rfl ?_
  refine JT_iload (q := 6) dX12_lasts_165 rfl ?_
  refine JT_iload (q := 0) dX12_lasts_167 rfl ?_
  refine JT_iconst (v := 1) dX12_lasts_169 ic_1 ?_
  have hj7 : ∀ v : Int32, v = (if (vX12_whyWrite s a7 a8 a9) ≤ (1 : Int32) then (0 : Int32) else (1 : Int32)) → JT MX12_lasts 6 0 0 178 [(11, .int (vX12_whyWrite s a7 a8 a9)), (0, .ref 248), (1, .int a1), (2, .int a2), (3, .int a3), (4, .int a4), (5, .int a5), (6, .int a6), (7, .int a7), (8, .int a8), (9, .int a9), (10, .int a10)] [.int v, .int a5] (std s) (KQ Q) := by
    intro v hv
    subst hv
    refine JT_iadd dX12_lasts_178 ?_
    refine JT_istore (lv' := [(5, .int (a5 + (if (vX12_whyWrite s a7 a8 a9) ≤ (1 : Int32) then (0 : Int32) else (1 : Int32)))), (11, .int (vX12_whyWrite s a7 a8 a9)), (0, .ref 248), (1, .int a1), (2, .int a2), (3, .int a3), (4, .int a4), (6, .int a6), (7, .int a7), (8, .int a8), (9, .int a9), (10, .int a10)]) dX12_lasts_179 (Nat.le_of_ble_eq_true rfl) rfl ?_
    refine JT_iload (q := 1) dX12_lasts_181 rfl ?_
    refine JT_if_le (tgt := 189) dX12_lasts_183 (by decide) (fun hc6 => ?_) (fun hc6 => ?_)
    · have h := h.1 hc6
      refine JT_aload_n (q := 2) dX12_lasts_189 rfl rfl ?_
      refine JT_iload (q := 8) dX12_lasts_190 rfl ?_
      refine JT_iload (q := 9) dX12_lasts_192 rfl ?_
      refine JT_iload (q := 11) dX12_lasts_194 rfl ?_
      refine JT_iload (q := 10) dX12_lasts_196 rfl ?_
      obtain ⟨o5, h⟩ := h
      refine JS_callVV (M' := MX12_writes) (d' := 4) (As := [.int a7, .int a8, .int a10, .int a9]) (rest := []) (P := (fun wm9 => (mX12_writes s a7 a8 a10 a9) = wm9)) dX12_lasts_198 cvX12_332 okX12_writes rfl (Nat.le_of_ble_eq_true rfl) BS_248 (Nat.le_of_ble_eq_true rfl) (Nat.le_of_ble_eq_true rfl) hci_12 (Nat.le_of_ble_eq_true rfl) (Nat.le_of_ble_eq_true rfl) (pX12_writes  (a7) (a8) (a10) (a9) o5 rfl) (fun wm9 hq9 => ?_)
      subst hq9
      refine JT_iinc (q := 6) (v := (a4 + 1)) (lv' := [(4, .int (a4 + 1)), (5, .int (a5 + (if (vX12_whyWrite s a7 a8 a9) ≤ (1 : Int32) then (0 : Int32) else (1 : Int32)))), (11, .int (vX12_whyWrite s a7 a8 a9)), (0, .ref 248), (1, .int a1), (2, .int a2), (3, .int a3), (6, .int a6), (7, .int a7), (8, .int a8), (9, .int a9), (10, .int a10)]) dX12_lasts_201 rfl (by rfl) (Nat.le_of_ble_eq_true rfl) rfl ?_
      refine JT_iload_n (q := 4) dX12_lasts_204 rfl rfl ?_
      refine JT_iconst (v := 2) dX12_lasts_205 ic_2 ?_
      refine JT_icmp_ne (tgt := 222) dX12_lasts_206 (by decide) (fun hc4 => ?_) (fun hc4 => ?_)
      · have h := h.1 hc4
        refine JT_iinc (q := 7) (v := (a6 + 1)) (lv' := [(6, .int (a6 + 1)), (4, .int (a4 + 1)), (5, .int (a5 + (if (vX12_whyWrite s a7 a8 a9) ≤ (1 : Int32) then (0 : Int32) else (1 : Int32)))), (11, .int (vX12_whyWrite s a7 a8 a9)), (0, .ref 248), (1, .int a1), (2, .int a2), (3, .int a3), (7, .int a7), (8, .int a8), (9, .int a9), (10, .int a10)]) dX12_lasts_222 rfl (by rfl) (Nat.le_of_ble_eq_true rfl) rfl ?_
        refine JT_goto (tgt := 60) dX12_lasts_225 (by decide) ?_
        exact JT_sub [4, 5, 6, 7, 1, 2, 0] rfl h
      · have h := h.2 hc4
        refine JT_aload_n (q := 3) dX12_lasts_209 rfl rfl ?_
        refine JT_iconst (v := -1) dX12_lasts_210 ic_m1 ?_
        obtain ⟨o3, h⟩ := h
        refine JS_callVI (M' := MX12_bestOf) (d' := 5) (As := [.int (-1 : Int32)]) (rest := []) (P := (fun zv9 wm9 => (vX12_bestOf (mX12_writes s a7 a8 a10 a9) (-1 : Int32)) = zv9 ∧ (mX12_bestOf (mX12_writes s a7 a8 a10 a9) (-1 : Int32)) = wm9)) dX12_lasts_211 cvX12_365 okX12_bestOf rfl (Nat.le_of_ble_eq_true rfl) BS_248 (Nat.le_of_ble_eq_true rfl) (Nat.le_of_ble_eq_true rfl) hci_12 (Nat.le_of_ble_eq_true rfl) (Nat.le_of_ble_eq_true rfl) (pX12_bestOf  ((-1 : Int32)) o3 ⟨rfl, rfl⟩) (fun zv9 wm9 hq9 => ?_)
        obtain ⟨rfl, rfl⟩ := hq9
        refine JT_if_lt (tgt := 222) dX12_lasts_214 (by decide) (fun hc2 => ?_) (fun hc2 => ?_)
        · have h := h.1 hc2
          refine JT_iinc (q := 7) (v := (a6 + 1)) (lv' := [(6, .int (a6 + 1)), (4, .int (a4 + 1)), (5, .int (a5 + (if (vX12_whyWrite s a7 a8 a9) ≤ (1 : Int32) then (0 : Int32) else (1 : Int32)))), (11, .int (vX12_whyWrite s a7 a8 a9)), (0, .ref 248), (1, .int a1), (2, .int a2), (3, .int a3), (7, .int a7), (8, .int a8), (9, .int a9), (10, .int a10)]) dX12_lasts_222 rfl (by rfl) (Nat.le_of_ble_eq_true rfl) rfl ?_
          refine JT_goto (tgt := 60) dX12_lasts_225 (by decide) ?_
          exact JT_sub [4, 5, 6, 7, 1, 2, 0] rfl h
        · have h := h.2 hc2
          refine JT_aload_n (q := 3) dX12_lasts_217 rfl rfl ?_
          obtain ⟨o1, h⟩ := h
          refine JS_callVI (M' := MX12_cuts) (d' := 3) (As := []) (rest := []) (P := (fun zv9 wm9 => (vX12_cuts (mX12_bestOf (mX12_writes s a7 a8 a10 a9) (-1 : Int32)) ) = zv9 ∧ (mX12_cuts (mX12_bestOf (mX12_writes s a7 a8 a10 a9) (-1 : Int32)) ) = wm9)) dX12_lasts_218 cvX12_371 okX12_cuts rfl (Nat.le_of_ble_eq_true rfl) BS_248 (Nat.le_of_ble_eq_true rfl) (Nat.le_of_ble_eq_true rfl) hci_12 (Nat.le_of_ble_eq_true rfl) (Nat.le_of_ble_eq_true rfl) (pX12_cuts   o1 ⟨rfl, rfl⟩) (fun zv9 wm9 hq9 => ?_)
          obtain ⟨rfl, rfl⟩ := hq9
          refine JT_pop dX12_lasts_221 rfl ?_
          refine JT_iinc (q := 7) (v := (a6 + 1)) (lv' := [(6, .int (a6 + 1)), (4, .int (a4 + 1)), (5, .int (a5 + (if (vX12_whyWrite s a7 a8 a9) ≤ (1 : Int32) then (0 : Int32) else (1 : Int32)))), (11, .int (vX12_whyWrite s a7 a8 a9)), (0, .ref 248), (1, .int a1), (2, .int a2), (3, .int a3), (7, .int a7), (8, .int a8), (9, .int a9), (10, .int a10)]) dX12_lasts_222 rfl (by rfl) (Nat.le_of_ble_eq_true rfl) rfl ?_
          refine JT_goto (tgt := 60) dX12_lasts_225 (by decide) ?_
          exact JT_sub [4, 5, 6, 7, 1, 2, 0] rfl h
    · have h := h.2 hc6
      refine JT_goto (tgt := 222) dX12_lasts_186 (by decide) ?_
      refine JT_iinc (q := 7) (v := (a6 + 1)) (lv' := [(6, .int (a6 + 1)), (5, .int (a5 + (if (vX12_whyWrite s a7 a8 a9) ≤ (1 : Int32) then (0 : Int32) else (1 : Int32)))), (11, .int (vX12_whyWrite s a7 a8 a9)), (0, .ref 248), (1, .int a1), (2, .int a2), (3, .int a3), (4, .int a4), (7, .int a7), (8, .int a8), (9, .int a9), (10, .int a10)]) dX12_lasts_222 rfl (by rfl) (Nat.le_of_ble_eq_true rfl) rfl ?_
      refine JT_goto (tgt := 60) dX12_lasts_225 (by decide) ?_
      exact JT_sub [3, 4, 5, 6, 7, 1, 0] rfl h
  refine JT_icmp_le (tgt := 177) dX12_lasts_170 (by decide) (fun hc8 => ?_) (fun hc8 => ?_)
  · refine JT_iconst (v := 0) dX12_lasts_177 ic_0 ?_
    exact hj7 _ (by rw [if_pos hc8])
  · refine JT_iconst (v := 1) dX12_lasts_173 ic_1 ?_
    refine JT_goto (tgt := 178) dX12_lasts_174 (by decide) ?_
    exact hj7 _ (by rw [if_neg hc8])
set_option maxRecDepth 1000000 in
theorem bX12_lasts (a1 : Int32) (a2 : Int32) {s : SM} {Q : Int32 → SM → Prop} (h : (((vX12_isIn (pI s 248 0 (0 : Int32)) a1 (0 : Int32) (2 : Int32)) = 0 → Q (-1 : Int32) (pI s 248 0 (0 : Int32))) ∧ (¬ (vX12_isIn (pI s 248 0 (0 : Int32)) a1 (0 : Int32) (2 : Int32)) = 0 → (((gI (pI s 248 0 (0 : Int32)) 250 ((0 : Int32)).toNatClampNeg) = 0 → Q (-1 : Int32) (pI s 248 0 (0 : Int32))) ∧ (¬ (gI (pI s 248 0 (0 : Int32)) 250 ((0 : Int32)).toNatClampNeg) = 0 → ((¬ (gI (pI s 248 0 (0 : Int32)) 250 ((1 : Int32)).toNatClampNeg) = 0 → rX12_keepsAll (pI s 248 0 (0 : Int32))  ∧ BI MX12_lasts 6 60 [(0, .ref 248), (1, .int a1), (2, .int a2), (3, .int (gI (pI (mX12_keepsAll (pI s 248 0 (0 : Int32)) ) 248 54 a2) 250 ((34 : Int32)).toNatClampNeg)), (4, .int (0 : Int32)), (5, .int (0 : Int32)), (6, .int (0 : Int32))] (pI (mX12_keepsAll (pI s 248 0 (0 : Int32)) ) 248 54 a2) Q) ∧ ((gI (pI s 248 0 (0 : Int32)) 250 ((1 : Int32)).toNatClampNeg) = 0 → Q (-1 : Int32) (pI s 248 0 (0 : Int32))))))))) : KI MX12_lasts 6 [.ref 248, .int a1, .int a2] s Q := by
  show BI MX12_lasts 6 0 [(0, .ref 248), (1, .int a1), (2, .int a2)] s Q
  refine JT_aload_n (q := 0) dX12_lasts_0 rfl rfl ?_
  refine JT_iconst (v := 0) dX12_lasts_1 ic_0 ?_
  refine JS_putI dX12_lasts_2 flX12_1 BS_248 (Nat.le_of_ble_eq_true rfl) (Nat.le_of_ble_eq_true rfl) ct_12_0 ?_
  refine JT_iload_n (q := 1) dX12_lasts_5 rfl rfl ?_
  refine JT_iconst (v := 0) dX12_lasts_6 ic_0 ?_
  refine JT_iconst (v := 2) dX12_lasts_7 ic_2 ?_
  refine JS_callSI (M' := MX12_isIn) (d' := 0) (As := [.int a1, .int (0 : Int32), .int (2 : Int32)]) (rest := []) (P := (fun zv9 wm9 => (vX12_isIn (pI s 248 0 (0 : Int32)) a1 (0 : Int32) (2 : Int32)) = zv9 ∧ (pI s 248 0 (0 : Int32)) = wm9)) dX12_lasts_8 cvX12_202 okX12_isIn rfl (Nat.le_of_ble_eq_true rfl) (Nat.le_of_ble_eq_true rfl) (Nat.le_of_ble_eq_true rfl) (pX12_isIn  (a1) ((0 : Int32)) ((2 : Int32))  ⟨rfl, rfl⟩) (fun zv9 wm9 hq9 => ?_)
  obtain ⟨rfl, rfl⟩ := hq9
  refine JT_if_eq (tgt := 32) dX12_lasts_11 (by decide) (fun hc4 => ?_) (fun hc4 => ?_)
  · have h := h.1 hc4
    refine JT_iconst (v := -1) dX12_lasts_32 ic_m1 ?_
    exact JS_iret dX12_lasts_33 rfl rfl h
  · have h := h.2 hc4
    refine JT_aload_n (q := 0) dX12_lasts_14 rfl rfl ?_
    refine JS_getR (x := 250) dX12_lasts_15 flX12_33 BS_248 (Nat.le_of_ble_eq_true rfl) (Nat.le_of_ble_eq_true rfl) (Or.inr ⟨_, ct_12_6⟩) RF_248_6 ?_
    refine JT_iconst (v := 0) dX12_lasts_18 ic_0 ?_
    refine JS_iald dX12_lasts_19 BS_250 (Nat.le_of_ble_eq_true rfl) (Nat.le_of_ble_eq_true rfl) (by unfold vp_in; decide) ?_
    refine JT_if_eq (tgt := 32) dX12_lasts_20 (by decide) (fun hc3 => ?_) (fun hc3 => ?_)
    · have h := h.1 hc3
      refine JT_iconst (v := -1) dX12_lasts_32 ic_m1 ?_
      exact JS_iret dX12_lasts_33 rfl rfl h
    · have h := h.2 hc3
      refine JT_aload_n (q := 0) dX12_lasts_23 rfl rfl ?_
      refine JS_getR (x := 250) dX12_lasts_24 flX12_33 BS_248 (Nat.le_of_ble_eq_true rfl) (Nat.le_of_ble_eq_true rfl) (Or.inr ⟨_, ct_12_6⟩) RF_248_6 ?_
      refine JT_iconst (v := 1) dX12_lasts_27 ic_1 ?_
      refine JS_iald dX12_lasts_28 BS_250 (Nat.le_of_ble_eq_true rfl) (Nat.le_of_ble_eq_true rfl) (by unfold vp_in; decide) ?_
      refine JT_if_ne (tgt := 34) dX12_lasts_29 (by decide) (fun hc2 => ?_) (fun hc2 => ?_)
      · have h := h.1 hc2
        refine JT_aload_n (q := 0) dX12_lasts_34 rfl rfl ?_
        obtain ⟨o1, h⟩ := h
        refine JS_callVV (M' := MX12_keepsAll) (d' := 0) (As := []) (rest := []) (P := (fun wm9 => (mX12_keepsAll (pI s 248 0 (0 : Int32)) ) = wm9)) dX12_lasts_35 cvX12_380 okX12_keepsAll rfl (Nat.le_of_ble_eq_true rfl) BS_248 (Nat.le_of_ble_eq_true rfl) (Nat.le_of_ble_eq_true rfl) hci_12 (Nat.le_of_ble_eq_true rfl) (Nat.le_of_ble_eq_true rfl) (pX12_keepsAll   o1 rfl) (fun wm9 hq9 => ?_)
        subst hq9
        refine JT_aload_n (q := 0) dX12_lasts_38 rfl rfl ?_
        refine JT_iload_n (q := 2) dX12_lasts_39 rfl rfl ?_
        refine JS_putI dX12_lasts_40 flX12_455 BS_248 (Nat.le_of_ble_eq_true rfl) (Nat.le_of_ble_eq_true rfl) ct_12_54 ?_
        refine JT_aload_n (q := 0) dX12_lasts_43 rfl rfl ?_
        refine JS_getR (x := 250) dX12_lasts_44 flX12_33 BS_248 (Nat.le_of_ble_eq_true rfl) (Nat.le_of_ble_eq_true rfl) (Or.inr ⟨_, ct_12_6⟩) RF_248_6 ?_
        refine JT_bipush (v := 34) dX12_lasts_47 bp_34 ?_
        refine JS_iald dX12_lasts_49 BS_250 (Nat.le_of_ble_eq_true rfl) (Nat.le_of_ble_eq_true rfl) (by unfold vp_in; decide) ?_
        refine JT_istore_n (lv' := [(3, .int (gI (pI (mX12_keepsAll (pI s 248 0 (0 : Int32)) ) 248 54 a2) 250 ((34 : Int32)).toNatClampNeg)), (0, .ref 248), (1, .int a1), (2, .int a2)]) dX12_lasts_50 rfl (Nat.le_of_ble_eq_true rfl) rfl ?_
        refine JT_iconst (v := 0) dX12_lasts_51 ic_0 ?_
        refine JT_istore (lv' := [(4, .int (0 : Int32)), (3, .int (gI (pI (mX12_keepsAll (pI s 248 0 (0 : Int32)) ) 248 54 a2) 250 ((34 : Int32)).toNatClampNeg)), (0, .ref 248), (1, .int a1), (2, .int a2)]) dX12_lasts_52 (Nat.le_of_ble_eq_true rfl) rfl ?_
        refine JT_iconst (v := 0) dX12_lasts_54 ic_0 ?_
        refine JT_istore (lv' := [(5, .int (0 : Int32)), (4, .int (0 : Int32)), (3, .int (gI (pI (mX12_keepsAll (pI s 248 0 (0 : Int32)) ) 248 54 a2) 250 ((34 : Int32)).toNatClampNeg)), (0, .ref 248), (1, .int a1), (2, .int a2)]) dX12_lasts_55 (Nat.le_of_ble_eq_true rfl) rfl ?_
        refine JT_iconst (v := 0) dX12_lasts_57 ic_0 ?_
        refine JT_istore (lv' := [(6, .int (0 : Int32)), (5, .int (0 : Int32)), (4, .int (0 : Int32)), (3, .int (gI (pI (mX12_keepsAll (pI s 248 0 (0 : Int32)) ) 248 54 a2) 250 ((34 : Int32)).toNatClampNeg)), (0, .ref 248), (1, .int a1), (2, .int a2)]) dX12_lasts_58 (Nat.le_of_ble_eq_true rfl) rfl ?_
        exact JT_sub [4, 5, 6, 3, 2, 1, 0] rfl h
      · have h := h.2 hc2
        refine JT_iconst (v := -1) dX12_lasts_32 ic_m1 ?_
        exact JS_iret dX12_lasts_33 rfl rfl h
set_option maxRecDepth 1000000 in
theorem gX12_lasts  : ∀ n : Nat, (∀ (a1 : Int32) (a2 : Int32) (a3 : Int32) (a4 : Int32) (a5 : Int32) (a6 : Int32) (s : SM) (Q : Int32 → SM → Prop), ((qX12_lasts n).1 s a1 a2 a3 a4 a5 a6) → Q ((lX12_lasts n).1 s a1 a2 a3 a4 a5 a6).1 ((lX12_lasts n).1 s a1 a2 a3 a4 a5 a6).2 → BI MX12_lasts 6 60 [(0, .ref 248), (1, .int a1), (2, .int a2), (3, .int a3), (4, .int a4), (5, .int a5), (6, .int a6)] s Q) ∧ (∀ (a1 : Int32) (a2 : Int32) (a3 : Int32) (a4 : Int32) (a5 : Int32) (a6 : Int32) (a7 : Int32) (a8 : Int32) (a9 : Int32) (a10 : Int32) (s : SM) (Q : Int32 → SM → Prop), ((qX12_lasts n).2 s a1 a2 a3 a4 a5 a6 a7 a8 a9 a10) → Q ((lX12_lasts n).2 s a1 a2 a3 a4 a5 a6 a7 a8 a9 a10).1 ((lX12_lasts n).2 s a1 a2 a3 a4 a5 a6 a7 a8 a9 a10).2 → BI MX12_lasts 6 153 [(0, .ref 248), (1, .int a1), (2, .int a2), (3, .int a3), (4, .int a4), (5, .int a5), (6, .int a6), (7, .int a7), (8, .int a8), (9, .int a9), (10, .int a10)] s Q) := by
  intro n
  induction n with
  | zero => exact ⟨fun _ _ _ _ _ _ _ _ hq _ => absurd hq id, fun _ _ _ _ _ _ _ _ _ _ _ _ hq _ => absurd hq id⟩
  | succ n ih =>
    refine ⟨?_, ?_⟩
    · intro a1 a2 a3 a4 a5 a6 s Q hr h
      replace hr : uX12_lasts_60 (qX12_lasts n) s a1 a2 a3 a4 a5 a6 := hr
      replace h : Q (tX12_lasts_60 (lX12_lasts n) s a1 a2 a3 a4 a5 a6).1 (tX12_lasts_60 (lX12_lasts n) s a1 a2 a3 a4 a5 a6).2 := h
      unfold uX12_lasts_60 at hr
      unfold tX12_lasts_60 at h
      refine bX12_lasts_60 a1 a2 a3 a4 a5 a6 ?_
      refine ⟨fun c => ?_, fun c => ?_⟩
      · replace hr := hr.1 c
        replace h := q3p c h
        refine ⟨hr, ?_⟩
        first | exact h | contradiction
      · replace hr := hr.2 c
        replace h := q3n c h
        refine ⟨fun c => ?_, fun c => ?_⟩
        · replace hr := hr.1 c
          replace h := q3p c h
          refine ⟨hr, ?_⟩
          first | exact h | contradiction
        · replace hr := hr.2 c
          replace h := q3n c h
          refine ⟨hr.1, ?_⟩
          replace hr := hr.2
          refine ⟨hr.1, ?_⟩
          replace hr := hr.2
          intro s3 e9
          replace hr := hr s3 e9
          try rw [← e9] at h
          try dsimp only at h
          refine ⟨hr.1, ?_⟩
          replace hr := hr.2
          refine ⟨hr.1, ?_⟩
          replace hr := hr.2
          refine ⟨fun c => ?_, fun c => ?_⟩
          · replace hr := hr.1 c
            replace h := q3n c h
            first | exact ih.2 a1 a2 a3 a4 a5 a6 (vX12_draw s (gI s 250 ((0 : Int32)).toNatClampNeg)) (vX12_draw (mX12_draw s (gI s 250 ((0 : Int32)).toNatClampNeg)) (gI (mX12_draw s (gI s 250 ((0 : Int32)).toNatClampNeg)) 250 ((0 : Int32)).toNatClampNeg)) (vX12_draw s3 (gI s3 250 ((1 : Int32)).toNatClampNeg)) ((1 : Int32) + (vX12_draw (mX12_draw s3 (gI s3 250 ((1 : Int32)).toNatClampNeg)) (99 : Int32))) _ Q hr h | contradiction
          · replace hr := hr.2 c
            replace h := q3p c h
            refine ⟨hr.1, ?_⟩
            replace hr := hr.2
            refine ⟨fun c => ?_, fun c => ?_⟩
            · replace hr := hr.1 c
              replace h := q3p c h
              first | exact ih.2 a1 a2 a3 a4 a5 a6 (vX12_draw s (gI s 250 ((0 : Int32)).toNatClampNeg)) (vX12_draw (mX12_draw s (gI s 250 ((0 : Int32)).toNatClampNeg)) (gI (mX12_draw s (gI s 250 ((0 : Int32)).toNatClampNeg)) 250 ((0 : Int32)).toNatClampNeg)) (vX12_draw s3 (gI s3 250 ((1 : Int32)).toNatClampNeg)) ((1 : Int32) + (vX12_draw (mX12_draw s3 (gI s3 250 ((1 : Int32)).toNatClampNeg)) (99 : Int32))) _ Q hr h | contradiction
            · replace hr := hr.2 c
              replace h := q3n c h
              refine ⟨hr.1, ?_⟩
              replace hr := hr.2
              refine ⟨fun c => ?_, fun c => ?_⟩
              · replace hr := hr.1 c
                replace h := q3n c h
                first | exact ih.2 a1 a2 a3 a4 a5 a6 (vX12_draw s (gI s 250 ((0 : Int32)).toNatClampNeg)) (vX12_draw (mX12_draw s (gI s 250 ((0 : Int32)).toNatClampNeg)) (gI (mX12_draw s (gI s 250 ((0 : Int32)).toNatClampNeg)) 250 ((0 : Int32)).toNatClampNeg)) (vX12_draw s3 (gI s3 250 ((1 : Int32)).toNatClampNeg)) ((1 : Int32) + (vX12_draw (mX12_draw s3 (gI s3 250 ((1 : Int32)).toNatClampNeg)) (99 : Int32))) _ Q hr h | contradiction
              · replace hr := hr.2 c
                replace h := q3p c h
                refine ⟨hr.1, ?_⟩
                replace hr := hr.2
                intro s4 e9
                replace hr := hr s4 e9
                try rw [← e9] at h
                try dsimp only at h
                first | exact ih.2 a1 a2 a3 a4 a5 a6 (vX12_draw s (gI s 250 ((0 : Int32)).toNatClampNeg)) (vX12_draw (mX12_draw s (gI s 250 ((0 : Int32)).toNatClampNeg)) (gI (mX12_draw s (gI s 250 ((0 : Int32)).toNatClampNeg)) 250 ((0 : Int32)).toNatClampNeg)) (vX12_draw s3 (gI s3 250 ((1 : Int32)).toNatClampNeg)) ((1 : Int32) + (vX12_draw (mX12_draw s3 (gI s3 250 ((1 : Int32)).toNatClampNeg)) (99 : Int32))) _ Q hr h | contradiction
    · intro a1 a2 a3 a4 a5 a6 a7 a8 a9 a10 s Q hr h
      replace hr : uX12_lasts_153 (qX12_lasts n) s a1 a2 a3 a4 a5 a6 a7 a8 a9 a10 := hr
      replace h : Q (tX12_lasts_153 (lX12_lasts n) s a1 a2 a3 a4 a5 a6 a7 a8 a9 a10).1 (tX12_lasts_153 (lX12_lasts n) s a1 a2 a3 a4 a5 a6 a7 a8 a9 a10).2 := h
      unfold uX12_lasts_153 at hr
      unfold tX12_lasts_153 at h
      refine bX12_lasts_153 a1 a2 a3 a4 a5 a6 a7 a8 a9 a10 ?_
      refine ⟨hr.1, ?_⟩
      replace hr := hr.2
      refine ⟨fun c => ?_, fun c => ?_⟩
      · replace hr := hr.1 c
        replace h := q3p c h
        refine ⟨hr.1, ?_⟩
        replace hr := hr.2
        refine ⟨fun c => ?_, fun c => ?_⟩
        · replace hr := hr.1 c
          replace h := q3n c h
          first | exact ih.1 a1 a2 a3 (a4 + 1) (a5 + (if (vX12_whyWrite s a7 a8 a9) ≤ (1 : Int32) then (0 : Int32) else (1 : Int32))) (a6 + 1) _ Q hr h | contradiction
        · replace hr := hr.2 c
          replace h := q3p c h
          refine ⟨hr.1, ?_⟩
          replace hr := hr.2
          refine ⟨fun c => ?_, fun c => ?_⟩
          · replace hr := hr.1 c
            replace h := q3p c h
            first | exact ih.1 a1 a2 a3 (a4 + 1) (a5 + (if (vX12_whyWrite s a7 a8 a9) ≤ (1 : Int32) then (0 : Int32) else (1 : Int32))) (a6 + 1) _ Q hr h | contradiction
          · replace hr := hr.2 c
            replace h := q3n c h
            refine ⟨hr.1, ?_⟩
            replace hr := hr.2
            first | exact ih.1 a1 a2 a3 (a4 + 1) (a5 + (if (vX12_whyWrite s a7 a8 a9) ≤ (1 : Int32) then (0 : Int32) else (1 : Int32))) (a6 + 1) _ Q hr h | contradiction
      · replace hr := hr.2 c
        replace h := q3n c h
        first | exact ih.1 a1 a2 a3 a4 (a5 + (if (vX12_whyWrite s a7 a8 a9) ≤ (1 : Int32) then (0 : Int32) else (1 : Int32))) (a6 + 1) _ Q hr h | contradiction
set_option maxRecDepth 1000000 in
theorem pX12_lasts (a1 : Int32) (a2 : Int32) {s : SM} {Q : Int32 → SM → Prop} (hr : rX12_lasts s a1 a2) (h : Q (vX12_lasts s a1 a2) (mX12_lasts s a1 a2)) : KI MX12_lasts 6 [.ref 248, .int a1, .int a2] s Q := by
  replace h : Q (fX12_lasts s a1 a2).1 (fX12_lasts s a1 a2).2 := h
  unfold rX12_lasts at hr
  unfold fX12_lasts at h
  refine bX12_lasts a1 a2 ?_
  refine ⟨fun c => ?_, fun c => ?_⟩
  · replace h := q3p c h
    first | exact h | contradiction
  · replace hr := hr c
    replace h := q3n c h
    refine ⟨fun c => ?_, fun c => ?_⟩
    · replace h := q3p c h
      first | exact h | contradiction
    · replace hr := hr c
      replace h := q3n c h
      refine ⟨fun c => ?_, fun c => ?_⟩
      · replace hr := hr c
        replace h := q3n c h
        refine ⟨hr.1, ?_⟩
        replace hr := hr.2
        first | exact (gX12_lasts  FU).1 a1 a2 (gI (pI (mX12_keepsAll (pI s 248 0 (0 : Int32)) ) 248 54 a2) 250 ((34 : Int32)).toNatClampNeg) (0 : Int32) (0 : Int32) (0 : Int32) _ Q hr h | contradiction
      · replace h := q3p c h
        first | exact h | contradiction
set_option maxRecDepth 1000000 in
theorem bX12_ring_27 (a1 : Int32) (a2 : Int32) {s : SM} {Q : Int32 → SM → Prop} (h : (((gI s 248 29) ≤ a2 → Q a1 s) ∧ (¬ (gI s 248 29) ≤ a2 → vp_in a2 5 ∧ vp_in a2 5 ∧ BI MX12_ring 6 27 [(0, .ref 248), (1, .int a1), (2, .int (a2 + 1))] (pI s 258 (a2).toNatClampNeg (gI s 257 (a2).toNatClampNeg)) Q))) : BI MX12_ring 6 27 [(0, .ref 248), (1, .int a1), (2, .int a2)] s Q := by
  refine JT_iload_n (q := 2) dX12_ring_27 rfl rfl ?_
  refine JT_aload_n (q := 0) dX12_ring_28 rfl rfl ?_
  refine JS_getI dX12_ring_29 flX12_362 BS_248 (Nat.le_of_ble_eq_true rfl) (Nat.le_of_ble_eq_true rfl) (Or.inl ct_12_29) ?_
  refine JT_icmp_ge (tgt := 53) dX12_ring_32 (by decide) (fun hc3 => ?_) (fun hc3 => ?_)
  · have h := h.1 hc3
    refine JT_iload_n (q := 1) dX12_ring_53 rfl rfl ?_
    exact JS_iret dX12_ring_54 rfl rfl h
  · have h := h.2 hc3
    refine JT_aload_n (q := 0) dX12_ring_35 rfl rfl ?_
    refine JS_getR (x := 258) dX12_ring_36 flX12_59 BS_248 (Nat.le_of_ble_eq_true rfl) (Nat.le_of_ble_eq_true rfl) (Or.inr ⟨_, ct_12_28⟩) RF_248_28 ?_
    refine JT_iload_n (q := 2) dX12_ring_39 rfl rfl ?_
    refine JT_aload_n (q := 0) dX12_ring_40 rfl rfl ?_
    refine JS_getR (x := 257) dX12_ring_41 flX12_56 BS_248 (Nat.le_of_ble_eq_true rfl) (Nat.le_of_ble_eq_true rfl) (Or.inr ⟨_, ct_12_27⟩) RF_248_27 ?_
    refine JT_iload_n (q := 2) dX12_ring_44 rfl rfl ?_
    obtain ⟨o1, h⟩ := h
    refine JS_iald dX12_ring_45 BS_257 (Nat.le_of_ble_eq_true rfl) (Nat.le_of_ble_eq_true rfl) o1 ?_
    obtain ⟨o2, h⟩ := h
    refine JS_iast dX12_ring_46 BS_258 (Nat.le_of_ble_eq_true rfl) (Nat.le_of_ble_eq_true rfl) o2 ?_
    refine JT_iinc (q := 2) (v := (a2 + 1)) (lv' := [(2, .int (a2 + 1)), (0, .ref 248), (1, .int a1)]) dX12_ring_47 rfl (by rfl) (Nat.le_of_ble_eq_true rfl) rfl ?_
    refine JT_goto (tgt := 27) dX12_ring_50 (by decide) ?_
    exact JT_sub [1, 2, 0] rfl h
set_option maxRecDepth 1000000 in
theorem bX12_ring  {s : SM} {Q : Int32 → SM → Prop} (h : rX12_bestOf (pI s 248 0 (0 : Int32)) (-1 : Int32) ∧ ((0 ≤ (vX12_bestOf (pI s 248 0 (0 : Int32)) (-1 : Int32)) → (∀ s1, s1 = (pI (mX12_bestOf (pI s 248 0 (0 : Int32)) (-1 : Int32)) 248 30 (gI (mX12_bestOf (pI s 248 0 (0 : Int32)) (-1 : Int32)) 248 29)) → BI MX12_ring 6 27 [(0, .ref 248), (1, .int (vX12_bestOf (pI s 248 0 (0 : Int32)) (-1 : Int32))), (2, .int (0 : Int32))] s1 Q)) ∧ (¬ 0 ≤ (vX12_bestOf (pI s 248 0 (0 : Int32)) (-1 : Int32)) → Q (-1 : Int32) (mX12_bestOf (pI s 248 0 (0 : Int32)) (-1 : Int32))))) : KI MX12_ring 6 [.ref 248] s Q := by
  show BI MX12_ring 6 0 [(0, .ref 248)] s Q
  refine JT_aload_n (q := 0) dX12_ring_0 rfl rfl ?_
  refine JT_iconst (v := 0) dX12_ring_1 ic_0 ?_
  refine JS_putI dX12_ring_2 flX12_1 BS_248 (Nat.le_of_ble_eq_true rfl) (Nat.le_of_ble_eq_true rfl) ct_12_0 ?_
  refine JT_aload_n (q := 0) dX12_ring_5 rfl rfl ?_
  refine JT_iconst (v := -1) dX12_ring_6 ic_m1 ?_
  obtain ⟨o3, h⟩ := h
  refine JS_callVI (M' := MX12_bestOf) (d' := 5) (As := [.int (-1 : Int32)]) (rest := []) (P := (fun zv9 wm9 => (vX12_bestOf (pI s 248 0 (0 : Int32)) (-1 : Int32)) = zv9 ∧ (mX12_bestOf (pI s 248 0 (0 : Int32)) (-1 : Int32)) = wm9)) dX12_ring_7 cvX12_365 okX12_bestOf rfl (Nat.le_of_ble_eq_true rfl) BS_248 (Nat.le_of_ble_eq_true rfl) (Nat.le_of_ble_eq_true rfl) hci_12 (Nat.le_of_ble_eq_true rfl) (Nat.le_of_ble_eq_true rfl) (pX12_bestOf  ((-1 : Int32)) o3 ⟨rfl, rfl⟩) (fun zv9 wm9 hq9 => ?_)
  obtain ⟨rfl, rfl⟩ := hq9
  refine JT_istore_n (lv' := [(1, .int (vX12_bestOf (pI s 248 0 (0 : Int32)) (-1 : Int32))), (0, .ref 248)]) dX12_ring_10 rfl (Nat.le_of_ble_eq_true rfl) rfl ?_
  refine JT_iload_n (q := 0) dX12_ring_11 rfl rfl ?_
  refine JT_if_ge (tgt := 17) dX12_ring_12 (by decide) (fun hc2 => ?_) (fun hc2 => ?_)
  · have h := h.1 hc2
    refine JT_aload_n (q := 1) dX12_ring_17 rfl rfl ?_
    refine JT_aload_n (q := 1) dX12_ring_18 rfl rfl ?_
    refine JS_getI dX12_ring_19 flX12_362 BS_248 (Nat.le_of_ble_eq_true rfl) (Nat.le_of_ble_eq_true rfl) (Or.inl ct_12_29) ?_
    refine JS_putI dX12_ring_22 flX12_368 BS_248 (Nat.le_of_ble_eq_true rfl) (Nat.le_of_ble_eq_true rfl) ct_12_30 ?_
    obtain ⟨s1, hs1⟩ : ∃ z, z = (pI (mX12_bestOf (pI s 248 0 (0 : Int32)) (-1 : Int32)) 248 30 (gI (mX12_bestOf (pI s 248 0 (0 : Int32)) (-1 : Int32)) 248 29)) := ⟨_, rfl⟩
    replace h := h s1 hs1
    rw [← hs1]
    refine JT_iconst (v := 0) dX12_ring_25 ic_0 ?_
    refine JT_istore_n (lv' := [(2, .int (0 : Int32)), (1, .int (vX12_bestOf (pI s 248 0 (0 : Int32)) (-1 : Int32))), (0, .ref 248)]) dX12_ring_26 rfl (Nat.le_of_ble_eq_true rfl) rfl ?_
    exact JT_sub [2, 1, 0] rfl h
  · have h := h.2 hc2
    refine JT_iconst (v := -1) dX12_ring_15 ic_m1 ?_
    exact JS_iret dX12_ring_16 rfl rfl h
set_option maxRecDepth 1000000 in
theorem gX12_ring  : ∀ n : Nat, (∀ (a1 : Int32) (a2 : Int32) (s : SM) (Q : Int32 → SM → Prop), ((qX12_ring n) s a1 a2) → Q ((lX12_ring n) s a1 a2).1 ((lX12_ring n) s a1 a2).2 → BI MX12_ring 6 27 [(0, .ref 248), (1, .int a1), (2, .int a2)] s Q) := by
  intro n
  induction n with
  | zero => exact fun _ _ _ _ hq _ => absurd hq id
  | succ n ih =>
    intro a1 a2 s Q hr h
    replace hr : uX12_ring_27 (qX12_ring n) s a1 a2 := hr
    replace h : Q (tX12_ring_27 (lX12_ring n) s a1 a2).1 (tX12_ring_27 (lX12_ring n) s a1 a2).2 := h
    unfold uX12_ring_27 at hr
    unfold tX12_ring_27 at h
    refine bX12_ring_27 a1 a2 ?_
    refine ⟨fun c => ?_, fun c => ?_⟩
    · replace h := q3p c h
      first | exact h | contradiction
    · replace hr := hr c
      replace h := q3n c h
      refine ⟨hr.1, ?_⟩
      replace hr := hr.2
      refine ⟨hr.1, ?_⟩
      replace hr := hr.2
      first | exact ih a1 (a2 + 1) _ Q hr h | contradiction
set_option maxRecDepth 1000000 in
theorem pX12_ring  {s : SM} {Q : Int32 → SM → Prop} (hr : rX12_ring s ) (h : Q (vX12_ring s ) (mX12_ring s )) : KI MX12_ring 6 [.ref 248] s Q := by
  replace h : Q (fX12_ring s ).1 (fX12_ring s ).2 := h
  unfold rX12_ring at hr
  unfold fX12_ring at h
  refine bX12_ring  ?_
  refine ⟨hr.1, ?_⟩
  replace hr := hr.2
  refine ⟨fun c => ?_, fun c => ?_⟩
  · replace hr := hr c
    replace h := q3p c h
    intro s1 e9
    replace hr := hr s1 e9
    try rw [← e9] at h
    try dsimp only at h
    first | exact (gX12_ring  FU) (vX12_bestOf (pI s 248 0 (0 : Int32)) (-1 : Int32)) (0 : Int32) _ Q hr h | contradiction
  · replace h := q3n c h
    first | exact h | contradiction
set_option maxRecDepth 1000000 in
theorem bX12_ringOf (a1 : Int32) {s : SM} {Q : Int32 → SM → Prop} (h : (((vX12_isDeal (pI s 248 0 (0 : Int32)) a1) = 0 → Q (-1 : Int32) (pI s 248 0 (0 : Int32))) ∧ (¬ (vX12_isDeal (pI s 248 0 (0 : Int32)) a1) = 0 → rX12_bestOf (pI s 248 0 (0 : Int32)) a1 ∧ Q (vX12_bestOf (pI s 248 0 (0 : Int32)) a1) (mX12_bestOf (pI s 248 0 (0 : Int32)) a1)))) : KI MX12_ringOf 6 [.ref 248, .int a1] s Q := by
  show BI MX12_ringOf 6 0 [(0, .ref 248), (1, .int a1)] s Q
  refine JT_aload_n (q := 0) dX12_ringOf_0 rfl rfl ?_
  refine JT_iconst (v := 0) dX12_ringOf_1 ic_0 ?_
  refine JS_putI dX12_ringOf_2 flX12_1 BS_248 (Nat.le_of_ble_eq_true rfl) (Nat.le_of_ble_eq_true rfl) ct_12_0 ?_
  refine JT_aload_n (q := 0) dX12_ringOf_5 rfl rfl ?_
  refine JT_iload_n (q := 1) dX12_ringOf_6 rfl rfl ?_
  refine JS_callVI (M' := MX12_isDeal) (d' := 1) (As := [.int a1]) (rest := []) (P := (fun zv9 wm9 => (vX12_isDeal (pI s 248 0 (0 : Int32)) a1) = zv9 ∧ (pI s 248 0 (0 : Int32)) = wm9)) dX12_ringOf_7 cvX12_262 okX12_isDeal rfl (Nat.le_of_ble_eq_true rfl) BS_248 (Nat.le_of_ble_eq_true rfl) (Nat.le_of_ble_eq_true rfl) hci_12 (Nat.le_of_ble_eq_true rfl) (Nat.le_of_ble_eq_true rfl) (pX12_isDeal  (a1)  ⟨rfl, rfl⟩) (fun zv9 wm9 hq9 => ?_)
  obtain ⟨rfl, rfl⟩ := hq9
  refine JT_if_eq (tgt := 21) dX12_ringOf_10 (by decide) (fun hc2 => ?_) (fun hc2 => ?_)
  · have h := h.1 hc2
    refine JT_iconst (v := -1) dX12_ringOf_21 ic_m1 ?_
    exact JS_iret dX12_ringOf_22 rfl rfl h
  · have h := h.2 hc2
    refine JT_aload_n (q := 0) dX12_ringOf_13 rfl rfl ?_
    refine JT_iload_n (q := 1) dX12_ringOf_14 rfl rfl ?_
    obtain ⟨o1, h⟩ := h
    refine JS_callVI (M' := MX12_bestOf) (d' := 5) (As := [.int a1]) (rest := []) (P := (fun zv9 wm9 => (vX12_bestOf (pI s 248 0 (0 : Int32)) a1) = zv9 ∧ (mX12_bestOf (pI s 248 0 (0 : Int32)) a1) = wm9)) dX12_ringOf_15 cvX12_365 okX12_bestOf rfl (Nat.le_of_ble_eq_true rfl) BS_248 (Nat.le_of_ble_eq_true rfl) (Nat.le_of_ble_eq_true rfl) hci_12 (Nat.le_of_ble_eq_true rfl) (Nat.le_of_ble_eq_true rfl) (pX12_bestOf  (a1) o1 ⟨rfl, rfl⟩) (fun zv9 wm9 hq9 => ?_)
    obtain ⟨rfl, rfl⟩ := hq9
    refine JT_goto (tgt := 22) dX12_ringOf_18 (by decide) ?_
    exact JS_iret dX12_ringOf_22 rfl rfl h
set_option maxRecDepth 1000000 in
theorem pX12_ringOf (a1 : Int32) {s : SM} {Q : Int32 → SM → Prop} (hr : rX12_ringOf s a1) (h : Q (vX12_ringOf s a1) (mX12_ringOf s a1)) : KI MX12_ringOf 6 [.ref 248, .int a1] s Q := by
  refine bX12_ringOf a1 ?_
  unfold rX12_ringOf at hr
  unfold vX12_ringOf mX12_ringOf at h
  refine ⟨fun c => ?_, fun c => ?_⟩
  · replace h := q2p c h
    first | exact h | contradiction
  · replace hr := hr c
    replace h := q2n c h
    refine ⟨hr, ?_⟩
    first | exact h | contradiction
set_option maxRecDepth 1000000 in
theorem bX12_ringsFor_47 (a1 : Int32) (a2 : Int32) (a3 : Int32) (a4 : Int32) (a5 : Int32) {s : SM} {Q : Int32 → SM → Prop} (h : ((a5 ≤ (1 : Int32) → BI MX12_ringsFor 6 81 [(0, .ref 248), (1, .int a1), (2, .int a2), (3, .int a3), (4, .int a4), (5, .int a5)] s Q) ∧ (¬ a5 ≤ (1 : Int32) → rX12_bestOf s (-1 : Int32) ∧ (((vX12_bestOf s (-1 : Int32)) < 0 → BI MX12_ringsFor 6 81 [(0, .ref 248), (1, .int a1), (2, .int a2), (3, .int a3), (4, .int a4), (5, .int a5)] (mX12_bestOf s (-1 : Int32)) Q) ∧ (¬ (vX12_bestOf s (-1 : Int32)) < 0 → rX12_cuts (mX12_bestOf s (-1 : Int32))  ∧ rX12_whyWrite (mX12_cuts (mX12_bestOf s (-1 : Int32)) ) a1 a2 a3 ∧ BI MX12_ringsFor 6 47 [(0, .ref 248), (1, .int a1), (2, .int a2), (3, .int a3), (4, .int (a4 + 1)), (5, .int (vX12_whyWrite (mX12_cuts (mX12_bestOf s (-1 : Int32)) ) a1 a2 a3))] (mX12_cuts (mX12_bestOf s (-1 : Int32)) ) Q))))) : BI MX12_ringsFor 6 47 [(0, .ref 248), (1, .int a1), (2, .int a2), (3, .int a3), (4, .int a4), (5, .int a5)] s Q := by
  refine JT_iload (q := 5) dX12_ringsFor_47 rfl ?_
  refine JT_iconst (v := 1) dX12_ringsFor_49 ic_1 ?_
  refine JT_icmp_le (tgt := 81) dX12_ringsFor_50 (by decide) (fun hc5 => ?_) (fun hc5 => ?_)
  · have h := h.1 hc5
    exact JT_sub [0, 1, 2, 3, 4, 5] rfl h
  · have h := h.2 hc5
    refine JT_aload_n (q := 0) dX12_ringsFor_53 rfl rfl ?_
    refine JT_iconst (v := -1) dX12_ringsFor_54 ic_m1 ?_
    obtain ⟨o4, h⟩ := h
    refine JS_callVI (M' := MX12_bestOf) (d' := 5) (As := [.int (-1 : Int32)]) (rest := []) (P := (fun zv9 wm9 => (vX12_bestOf s (-1 : Int32)) = zv9 ∧ (mX12_bestOf s (-1 : Int32)) = wm9)) dX12_ringsFor_55 cvX12_365 okX12_bestOf rfl (Nat.le_of_ble_eq_true rfl) BS_248 (Nat.le_of_ble_eq_true rfl) (Nat.le_of_ble_eq_true rfl) hci_12 (Nat.le_of_ble_eq_true rfl) (Nat.le_of_ble_eq_true rfl) (pX12_bestOf  ((-1 : Int32)) o4 ⟨rfl, rfl⟩) (fun zv9 wm9 hq9 => ?_)
    obtain ⟨rfl, rfl⟩ := hq9
    refine JT_if_lt (tgt := 81) dX12_ringsFor_58 (by decide) (fun hc3 => ?_) (fun hc3 => ?_)
    · have h := h.1 hc3
      exact JT_sub [0, 1, 2, 3, 4, 5] rfl h
    · have h := h.2 hc3
      refine JT_aload_n (q := 0) dX12_ringsFor_61 rfl rfl ?_
      obtain ⟨o2, h⟩ := h
      refine JS_callVI (M' := MX12_cuts) (d' := 3) (As := []) (rest := []) (P := (fun zv9 wm9 => (vX12_cuts (mX12_bestOf s (-1 : Int32)) ) = zv9 ∧ (mX12_cuts (mX12_bestOf s (-1 : Int32)) ) = wm9)) dX12_ringsFor_62 cvX12_371 okX12_cuts rfl (Nat.le_of_ble_eq_true rfl) BS_248 (Nat.le_of_ble_eq_true rfl) (Nat.le_of_ble_eq_true rfl) hci_12 (Nat.le_of_ble_eq_true rfl) (Nat.le_of_ble_eq_true rfl) (pX12_cuts   o2 ⟨rfl, rfl⟩) (fun zv9 wm9 hq9 => ?_)
      obtain ⟨rfl, rfl⟩ := hq9
      refine JT_pop dX12_ringsFor_65 rfl ?_
      refine JT_iinc (q := 4) (v := (a4 + 1)) (lv' := [(4, .int (a4 + 1)), (0, .ref 248), (1, .int a1), (2, .int a2), (3, .int a3), (5, .int a5)]) dX12_ringsFor_66 rfl (by rfl) (Nat.le_of_ble_eq_true rfl) rfl ?_
      refine JT_aload_n (q := 1) dX12_ringsFor_69 rfl rfl ?_
      refine JT_iload_n (q := 2) dX12_ringsFor_70 rfl rfl ?_
      refine JT_iload_n (q := 3) dX12_ringsFor_71 rfl rfl ?_
      refine JT_iload_n (q := 4) dX12_ringsFor_72 rfl rfl ?_
      obtain ⟨o1, h⟩ := h
      refine JS_callVI (M' := MX12_whyWrite) (d' := 4) (As := [.int a1, .int a2, .int a3]) (rest := []) (P := (fun zv9 wm9 => (vX12_whyWrite (mX12_cuts (mX12_bestOf s (-1 : Int32)) ) a1 a2 a3) = zv9 ∧ (mX12_cuts (mX12_bestOf s (-1 : Int32)) ) = wm9)) dX12_ringsFor_73 cvX12_326 okX12_whyWrite rfl (Nat.le_of_ble_eq_true rfl) BS_248 (Nat.le_of_ble_eq_true rfl) (Nat.le_of_ble_eq_true rfl) hci_12 (Nat.le_of_ble_eq_true rfl) (Nat.le_of_ble_eq_true rfl) (pX12_whyWrite  (a1) (a2) (a3) o1 ⟨rfl, rfl⟩) (fun zv9 wm9 hq9 => ?_)
      obtain ⟨rfl, rfl⟩ := hq9
      refine JT_istore (lv' := [(5, .int (vX12_whyWrite (mX12_cuts (mX12_bestOf s (-1 : Int32)) ) a1 a2 a3)), (4, .int (a4 + 1)), (0, .ref 248), (1, .int a1), (2, .int a2), (3, .int a3)]) dX12_ringsFor_76 (Nat.le_of_ble_eq_true rfl) rfl ?_
      refine JT_goto (tgt := 47) dX12_ringsFor_78 (by decide) ?_
      exact JT_sub [2, 3, 4, 5, 1, 0] rfl h
set_option maxRecDepth 1000000 in
theorem bX12_ringsFor_81 (a1 : Int32) (a2 : Int32) (a3 : Int32) (a4 : Int32) (a5 : Int32) {s : SM} {Q : Int32 → SM → Prop} (h : rX12_backAll s  ∧ Q (if a5 = 0 then a4 else (-1 : Int32)) (mX12_backAll s )) : BI MX12_ringsFor 6 81 [(0, .ref 248), (1, .int a1), (2, .int a2), (3, .int a3), (4, .int a4), (5, .int a5)] s Q := by
  refine JT_aload_n (q := 0) dX12_ringsFor_81 rfl rfl ?_
  obtain ⟨o3, h⟩ := h
  refine JS_callVV (M' := MX12_backAll) (d' := 0) (As := []) (rest := []) (P := (fun wm9 => (mX12_backAll s ) = wm9)) dX12_ringsFor_82 cvX12_383 okX12_backAll rfl (Nat.le_of_ble_eq_true rfl) BS_248 (Nat.le_of_ble_eq_true rfl) (Nat.le_of_ble_eq_true rfl) hci_12 (Nat.le_of_ble_eq_true rfl) (Nat.le_of_ble_eq_true rfl) (pX12_backAll   o3 rfl) (fun wm9 hq9 => ?_)
  subst hq9
  refine JT_iload (q := 5) dX12_ringsFor_85 rfl ?_
  have hj1 : ∀ v : Int32, v = (if a5 = 0 then a4 else (-1 : Int32)) → JT MX12_ringsFor 6 0 0 96 [(0, .ref 248), (1, .int a1), (2, .int a2), (3, .int a3), (4, .int a4), (5, .int a5)] [.int v] (std (mX12_backAll s )) (KQ Q) := by
    intro v hv
    subst hv
    exact JS_iret dX12_ringsFor_96 rfl rfl h
  refine JT_if_ne (tgt := 95) dX12_ringsFor_87 (by decide) (fun hc2 => ?_) (fun hc2 => ?_)
  · refine JT_iconst (v := -1) dX12_ringsFor_95 ic_m1 ?_
    exact hj1 _ (by rw [if_neg hc2])
  · refine JT_iload (q := 4) dX12_ringsFor_90 rfl ?_
    refine JT_goto (tgt := 96) dX12_ringsFor_92 (by decide) ?_
    exact hj1 _ (by rw [if_pos hc2])
set_option maxRecDepth 1000000 in
theorem bX12_ringsFor (a1 : Int32) (a2 : Int32) (a3 : Int32) {s : SM} {Q : Int32 → SM → Prop} (h : (((vX12_isBody (pI s 248 0 (0 : Int32)) a1) = 0 → Q (-1 : Int32) (pI s 248 0 (0 : Int32))) ∧ (¬ (vX12_isBody (pI s 248 0 (0 : Int32)) a1) = 0 → (((vX12_isBody (pI s 248 0 (0 : Int32)) a2) = 0 → Q (-1 : Int32) (pI s 248 0 (0 : Int32))) ∧ (¬ (vX12_isBody (pI s 248 0 (0 : Int32)) a2) = 0 → ((¬ (vX12_isKind (pI s 248 0 (0 : Int32)) a3) = 0 → rX12_keepsAll (pI s 248 0 (0 : Int32))  ∧ rX12_whyWrite (mX12_keepsAll (pI s 248 0 (0 : Int32)) ) a1 a2 a3 ∧ BI MX12_ringsFor 6 47 [(0, .ref 248), (1, .int a1), (2, .int a2), (3, .int a3), (4, .int (0 : Int32)), (5, .int (vX12_whyWrite (mX12_keepsAll (pI s 248 0 (0 : Int32)) ) a1 a2 a3))] (mX12_keepsAll (pI s 248 0 (0 : Int32)) ) Q) ∧ ((vX12_isKind (pI s 248 0 (0 : Int32)) a3) = 0 → Q (-1 : Int32) (pI s 248 0 (0 : Int32))))))))) : KI MX12_ringsFor 6 [.ref 248, .int a1, .int a2, .int a3] s Q := by
  show BI MX12_ringsFor 6 0 [(0, .ref 248), (1, .int a1), (2, .int a2), (3, .int a3)] s Q
  refine JT_aload_n (q := 0) dX12_ringsFor_0 rfl rfl ?_
  refine JT_iconst (v := 0) dX12_ringsFor_1 ic_0 ?_
  refine JS_putI dX12_ringsFor_2 flX12_1 BS_248 (Nat.le_of_ble_eq_true rfl) (Nat.le_of_ble_eq_true rfl) ct_12_0 ?_
  refine JT_aload_n (q := 0) dX12_ringsFor_5 rfl rfl ?_
  refine JT_iload_n (q := 1) dX12_ringsFor_6 rfl rfl ?_
  refine JS_callVI (M' := MX12_isBody) (d' := 1) (As := [.int a1]) (rest := []) (P := (fun zv9 wm9 => (vX12_isBody (pI s 248 0 (0 : Int32)) a1) = zv9 ∧ (pI s 248 0 (0 : Int32)) = wm9)) dX12_ringsFor_7 cvX12_287 okX12_isBody rfl (Nat.le_of_ble_eq_true rfl) BS_248 (Nat.le_of_ble_eq_true rfl) (Nat.le_of_ble_eq_true rfl) hci_12 (Nat.le_of_ble_eq_true rfl) (Nat.le_of_ble_eq_true rfl) (pX12_isBody  (a1)  ⟨rfl, rfl⟩) (fun zv9 wm9 hq9 => ?_)
  obtain ⟨rfl, rfl⟩ := hq9
  refine JT_if_eq (tgt := 29) dX12_ringsFor_10 (by decide) (fun hc7 => ?_) (fun hc7 => ?_)
  · have h := h.1 hc7
    refine JT_iconst (v := -1) dX12_ringsFor_29 ic_m1 ?_
    exact JS_iret dX12_ringsFor_30 rfl rfl h
  · have h := h.2 hc7
    refine JT_aload_n (q := 0) dX12_ringsFor_13 rfl rfl ?_
    refine JT_iload_n (q := 2) dX12_ringsFor_14 rfl rfl ?_
    refine JS_callVI (M' := MX12_isBody) (d' := 1) (As := [.int a2]) (rest := []) (P := (fun zv9 wm9 => (vX12_isBody (pI s 248 0 (0 : Int32)) a2) = zv9 ∧ (pI s 248 0 (0 : Int32)) = wm9)) dX12_ringsFor_15 cvX12_287 okX12_isBody rfl (Nat.le_of_ble_eq_true rfl) BS_248 (Nat.le_of_ble_eq_true rfl) (Nat.le_of_ble_eq_true rfl) hci_12 (Nat.le_of_ble_eq_true rfl) (Nat.le_of_ble_eq_true rfl) (pX12_isBody  (a2)  ⟨rfl, rfl⟩) (fun zv9 wm9 hq9 => ?_)
    obtain ⟨rfl, rfl⟩ := hq9
    refine JT_if_eq (tgt := 29) dX12_ringsFor_18 (by decide) (fun hc5 => ?_) (fun hc5 => ?_)
    · have h := h.1 hc5
      refine JT_iconst (v := -1) dX12_ringsFor_29 ic_m1 ?_
      exact JS_iret dX12_ringsFor_30 rfl rfl h
    · have h := h.2 hc5
      refine JT_aload_n (q := 0) dX12_ringsFor_21 rfl rfl ?_
      refine JT_iload_n (q := 3) dX12_ringsFor_22 rfl rfl ?_
      refine JS_callVI (M' := MX12_isKind) (d' := 1) (As := [.int a3]) (rest := []) (P := (fun zv9 wm9 => (vX12_isKind (pI s 248 0 (0 : Int32)) a3) = zv9 ∧ (pI s 248 0 (0 : Int32)) = wm9)) dX12_ringsFor_23 cvX12_306 okX12_isKind rfl (Nat.le_of_ble_eq_true rfl) BS_248 (Nat.le_of_ble_eq_true rfl) (Nat.le_of_ble_eq_true rfl) hci_12 (Nat.le_of_ble_eq_true rfl) (Nat.le_of_ble_eq_true rfl) (pX12_isKind  (a3)  ⟨rfl, rfl⟩) (fun zv9 wm9 hq9 => ?_)
      obtain ⟨rfl, rfl⟩ := hq9
      refine JT_if_ne (tgt := 31) dX12_ringsFor_26 (by decide) (fun hc3 => ?_) (fun hc3 => ?_)
      · have h := h.1 hc3
        refine JT_aload_n (q := 0) dX12_ringsFor_31 rfl rfl ?_
        obtain ⟨o2, h⟩ := h
        refine JS_callVV (M' := MX12_keepsAll) (d' := 0) (As := []) (rest := []) (P := (fun wm9 => (mX12_keepsAll (pI s 248 0 (0 : Int32)) ) = wm9)) dX12_ringsFor_32 cvX12_380 okX12_keepsAll rfl (Nat.le_of_ble_eq_true rfl) BS_248 (Nat.le_of_ble_eq_true rfl) (Nat.le_of_ble_eq_true rfl) hci_12 (Nat.le_of_ble_eq_true rfl) (Nat.le_of_ble_eq_true rfl) (pX12_keepsAll   o2 rfl) (fun wm9 hq9 => ?_)
        subst hq9
        refine JT_iconst (v := 0) dX12_ringsFor_35 ic_0 ?_
        refine JT_istore (lv' := [(4, .int (0 : Int32)), (0, .ref 248), (1, .int a1), (2, .int a2), (3, .int a3)]) dX12_ringsFor_36 (Nat.le_of_ble_eq_true rfl) rfl ?_
        refine JT_aload_n (q := 1) dX12_ringsFor_38 rfl rfl ?_
        refine JT_iload_n (q := 2) dX12_ringsFor_39 rfl rfl ?_
        refine JT_iload_n (q := 3) dX12_ringsFor_40 rfl rfl ?_
        refine JT_iload_n (q := 4) dX12_ringsFor_41 rfl rfl ?_
        obtain ⟨o1, h⟩ := h
        refine JS_callVI (M' := MX12_whyWrite) (d' := 4) (As := [.int a1, .int a2, .int a3]) (rest := []) (P := (fun zv9 wm9 => (vX12_whyWrite (mX12_keepsAll (pI s 248 0 (0 : Int32)) ) a1 a2 a3) = zv9 ∧ (mX12_keepsAll (pI s 248 0 (0 : Int32)) ) = wm9)) dX12_ringsFor_42 cvX12_326 okX12_whyWrite rfl (Nat.le_of_ble_eq_true rfl) BS_248 (Nat.le_of_ble_eq_true rfl) (Nat.le_of_ble_eq_true rfl) hci_12 (Nat.le_of_ble_eq_true rfl) (Nat.le_of_ble_eq_true rfl) (pX12_whyWrite  (a1) (a2) (a3) o1 ⟨rfl, rfl⟩) (fun zv9 wm9 hq9 => ?_)
        obtain ⟨rfl, rfl⟩ := hq9
        refine JT_istore (lv' := [(5, .int (vX12_whyWrite (mX12_keepsAll (pI s 248 0 (0 : Int32)) ) a1 a2 a3)), (4, .int (0 : Int32)), (0, .ref 248), (1, .int a1), (2, .int a2), (3, .int a3)]) dX12_ringsFor_45 (Nat.le_of_ble_eq_true rfl) rfl ?_
        exact JT_sub [2, 3, 4, 5, 1, 0] rfl h
      · have h := h.2 hc3
        refine JT_iconst (v := -1) dX12_ringsFor_29 ic_m1 ?_
        exact JS_iret dX12_ringsFor_30 rfl rfl h
set_option maxRecDepth 1000000 in
theorem gX12_ringsFor  : ∀ n : Nat, (∀ (a1 : Int32) (a2 : Int32) (a3 : Int32) (a4 : Int32) (a5 : Int32) (s : SM) (Q : Int32 → SM → Prop), ((qX12_ringsFor n).1 s a1 a2 a3 a4 a5) → Q ((lX12_ringsFor n).1 s a1 a2 a3 a4 a5).1 ((lX12_ringsFor n).1 s a1 a2 a3 a4 a5).2 → BI MX12_ringsFor 6 47 [(0, .ref 248), (1, .int a1), (2, .int a2), (3, .int a3), (4, .int a4), (5, .int a5)] s Q) ∧ (∀ (a1 : Int32) (a2 : Int32) (a3 : Int32) (a4 : Int32) (a5 : Int32) (s : SM) (Q : Int32 → SM → Prop), ((qX12_ringsFor n).2 s a1 a2 a3 a4 a5) → Q ((lX12_ringsFor n).2 s a1 a2 a3 a4 a5).1 ((lX12_ringsFor n).2 s a1 a2 a3 a4 a5).2 → BI MX12_ringsFor 6 81 [(0, .ref 248), (1, .int a1), (2, .int a2), (3, .int a3), (4, .int a4), (5, .int a5)] s Q) := by
  intro n
  induction n with
  | zero => exact ⟨fun _ _ _ _ _ _ _ hq _ => absurd hq id, fun _ _ _ _ _ _ _ hq _ => absurd hq id⟩
  | succ n ih =>
    refine ⟨?_, ?_⟩
    · intro a1 a2 a3 a4 a5 s Q hr h
      replace hr : uX12_ringsFor_47 (qX12_ringsFor n) s a1 a2 a3 a4 a5 := hr
      replace h : Q (tX12_ringsFor_47 (lX12_ringsFor n) s a1 a2 a3 a4 a5).1 (tX12_ringsFor_47 (lX12_ringsFor n) s a1 a2 a3 a4 a5).2 := h
      unfold uX12_ringsFor_47 at hr
      unfold tX12_ringsFor_47 at h
      refine bX12_ringsFor_47 a1 a2 a3 a4 a5 ?_
      refine ⟨fun c => ?_, fun c => ?_⟩
      · replace hr := hr.1 c
        replace h := q3p c h
        first | exact ih.2 a1 a2 a3 a4 a5 _ Q hr h | contradiction
      · replace hr := hr.2 c
        replace h := q3n c h
        refine ⟨hr.1, ?_⟩
        replace hr := hr.2
        refine ⟨fun c => ?_, fun c => ?_⟩
        · replace hr := hr.1 c
          replace h := q3p c h
          first | exact ih.2 a1 a2 a3 a4 a5 _ Q hr h | contradiction
        · replace hr := hr.2 c
          replace h := q3n c h
          refine ⟨hr.1, ?_⟩
          replace hr := hr.2
          refine ⟨hr.1, ?_⟩
          replace hr := hr.2
          first | exact ih.1 a1 a2 a3 (a4 + 1) (vX12_whyWrite (mX12_cuts (mX12_bestOf s (-1 : Int32)) ) a1 a2 a3) _ Q hr h | contradiction
    · intro a1 a2 a3 a4 a5 s Q hr h
      replace hr : uX12_ringsFor_81 (qX12_ringsFor n) s a1 a2 a3 a4 a5 := hr
      replace h : Q (tX12_ringsFor_81 (lX12_ringsFor n) s a1 a2 a3 a4 a5).1 (tX12_ringsFor_81 (lX12_ringsFor n) s a1 a2 a3 a4 a5).2 := h
      unfold uX12_ringsFor_81 at hr
      unfold tX12_ringsFor_81 at h
      refine bX12_ringsFor_81 a1 a2 a3 a4 a5 ?_
      refine ⟨hr, ?_⟩
      first | exact h | contradiction
set_option maxRecDepth 1000000 in
theorem pX12_ringsFor (a1 : Int32) (a2 : Int32) (a3 : Int32) {s : SM} {Q : Int32 → SM → Prop} (hr : rX12_ringsFor s a1 a2 a3) (h : Q (vX12_ringsFor s a1 a2 a3) (mX12_ringsFor s a1 a2 a3)) : KI MX12_ringsFor 6 [.ref 248, .int a1, .int a2, .int a3] s Q := by
  replace h : Q (fX12_ringsFor s a1 a2 a3).1 (fX12_ringsFor s a1 a2 a3).2 := h
  unfold rX12_ringsFor at hr
  unfold fX12_ringsFor at h
  refine bX12_ringsFor a1 a2 a3 ?_
  refine ⟨fun c => ?_, fun c => ?_⟩
  · replace h := q3p c h
    first | exact h | contradiction
  · replace hr := hr c
    replace h := q3n c h
    refine ⟨fun c => ?_, fun c => ?_⟩
    · replace h := q3p c h
      first | exact h | contradiction
    · replace hr := hr c
      replace h := q3n c h
      refine ⟨fun c => ?_, fun c => ?_⟩
      · replace hr := hr c
        replace h := q3n c h
        refine ⟨hr.1, ?_⟩
        replace hr := hr.2
        refine ⟨hr.1, ?_⟩
        replace hr := hr.2
        first | exact (gX12_ringsFor  FU).1 a1 a2 a3 (0 : Int32) (vX12_whyWrite (mX12_keepsAll (pI s 248 0 (0 : Int32)) ) a1 a2 a3) _ Q hr h | contradiction
      · replace h := q3p c h
        first | exact h | contradiction
set_option maxRecDepth 1000000 in
theorem bX1_take_43 {L2 P2 : Nat} (hL2 : (L2, P2) ∈ LX) (a3 : Int32) (a4 : Int32) {s : SM} {Q : Int32 → SM → Prop} (h : ((a3 ≤ a4 → Q (1 : Int32) s) ∧ (¬ a3 ≤ a4 → rX9_byteOr s ((2 : Int32) * a4) (0 : Int32) ∧ rX9_byteOr s (((2 : Int32) * a4) + (1 : Int32)) (0 : Int32) ∧ rX1_findNeeded s a4 ((((vX9_byteOr s ((2 : Int32) * a4) (0 : Int32)) * (256 : Int32)) + (vX9_byteOr s (((2 : Int32) * a4) + (1 : Int32)) (0 : Int32))) - (10000 : Int32)) ∧ (∀ s1, s1 = (mX1_findNeeded s a4 ((((vX9_byteOr s ((2 : Int32) * a4) (0 : Int32)) * (256 : Int32)) + (vX9_byteOr s (((2 : Int32) * a4) + (1 : Int32)) (0 : Int32))) - (10000 : Int32))) → BI MX1_take 6 43 [(0, .ref 233), (1, .ref 3), (2, .ref L2), (3, .int a3), (4, .int (a4 + 1))] s1 Q)))) : BI MX1_take 6 43 [(0, .ref 233), (1, .ref 3), (2, .ref L2), (3, .int a3), (4, .int a4)] s Q := by
  refine JT_iload (q := 4) dX1_take_43 rfl ?_
  refine JT_iload_n (q := 3) dX1_take_45 rfl rfl ?_
  refine JT_icmp_ge (tgt := 94) dX1_take_46 (by decide) (fun hc5 => ?_) (fun hc5 => ?_)
  · have h := h.1 hc5
    refine JT_iconst (v := 1) dX1_take_94 ic_1 ?_
    exact JS_iret dX1_take_95 rfl (n01 (Or.inr rfl)) h
  · have h := h.2 hc5
    refine JT_aload_n (q := 1) dX1_take_49 rfl rfl ?_
    refine JT_iconst (v := 2) dX1_take_50 ic_2 ?_
    refine JT_iload (q := 4) dX1_take_51 rfl ?_
    refine JT_imul dX1_take_53 ?_
    refine JT_iconst (v := 0) dX1_take_54 ic_0 ?_
    obtain ⟨o4, h⟩ := h
    refine JS_callVI (M' := MX9_byteOr) (d' := 0) (As := [.int ((2 : Int32) * a4), .int (0 : Int32)]) (rest := []) (P := (fun zv9 wm9 => (vX9_byteOr s ((2 : Int32) * a4) (0 : Int32)) = zv9 ∧ s = wm9)) dX1_take_55 cvX1_59 okX9_byteOr rfl (Nat.le_of_ble_eq_true rfl) BS_3 (Nat.le_of_ble_eq_true rfl) (Nat.le_of_ble_eq_true rfl) hci_9 (Nat.le_of_ble_eq_true rfl) (Nat.le_of_ble_eq_true rfl) (pX9_byteOr  (((2 : Int32) * a4)) ((0 : Int32)) o4 ⟨rfl, rfl⟩) (fun zv9 wm9 hq9 => ?_)
    obtain ⟨rfl, rfl⟩ := hq9
    refine JT_sipush (v := 256) dX1_take_58 sp_256 ?_
    refine JT_imul dX1_take_61 ?_
    refine JT_aload_n (q := 1) dX1_take_62 rfl rfl ?_
    refine JT_iconst (v := 2) dX1_take_63 ic_2 ?_
    refine JT_iload (q := 4) dX1_take_64 rfl ?_
    refine JT_imul dX1_take_66 ?_
    refine JT_iconst (v := 1) dX1_take_67 ic_1 ?_
    refine JT_iadd dX1_take_68 ?_
    refine JT_iconst (v := 0) dX1_take_69 ic_0 ?_
    obtain ⟨o3, h⟩ := h
    refine JS_callVI (M' := MX9_byteOr) (d' := 0) (As := [.int (((2 : Int32) * a4) + (1 : Int32)), .int (0 : Int32)]) (rest := [.int ((vX9_byteOr s ((2 : Int32) * a4) (0 : Int32)) * (256 : Int32))]) (P := (fun zv9 wm9 => (vX9_byteOr s (((2 : Int32) * a4) + (1 : Int32)) (0 : Int32)) = zv9 ∧ s = wm9)) dX1_take_70 cvX1_59 okX9_byteOr rfl (Nat.le_of_ble_eq_true rfl) BS_3 (Nat.le_of_ble_eq_true rfl) (Nat.le_of_ble_eq_true rfl) hci_9 (Nat.le_of_ble_eq_true rfl) (Nat.le_of_ble_eq_true rfl) (pX9_byteOr  ((((2 : Int32) * a4) + (1 : Int32))) ((0 : Int32)) o3 ⟨rfl, rfl⟩) (fun zv9 wm9 hq9 => ?_)
    obtain ⟨rfl, rfl⟩ := hq9
    refine JT_iadd dX1_take_73 ?_
    refine JT_sipush (v := 10000) dX1_take_74 sp_10000 ?_
    refine JT_isub dX1_take_77 ?_
    refine JT_istore (lv' := [(5, .int ((((vX9_byteOr s ((2 : Int32) * a4) (0 : Int32)) * (256 : Int32)) + (vX9_byteOr s (((2 : Int32) * a4) + (1 : Int32)) (0 : Int32))) - (10000 : Int32))), (0, .ref 233), (1, .ref 3), (2, .ref L2), (3, .int a3), (4, .int a4)]) dX1_take_78 (Nat.le_of_ble_eq_true rfl) rfl ?_
    refine JT_aload_n (q := 1) dX1_take_80 rfl rfl ?_
    refine JT_iload (q := 5) dX1_take_81 rfl ?_
    refine JT_iload (q := 0) dX1_take_83 rfl ?_
    obtain ⟨o2, h⟩ := h
    refine JS_callVV (M' := MX1_findNeeded) (d' := 3) (As := [.int a4, .int ((((vX9_byteOr s ((2 : Int32) * a4) (0 : Int32)) * (256 : Int32)) + (vX9_byteOr s (((2 : Int32) * a4) + (1 : Int32)) (0 : Int32))) - (10000 : Int32))]) (rest := []) (P := (fun wm9 => (mX1_findNeeded s a4 ((((vX9_byteOr s ((2 : Int32) * a4) (0 : Int32)) * (256 : Int32)) + (vX9_byteOr s (((2 : Int32) * a4) + (1 : Int32)) (0 : Int32))) - (10000 : Int32))) = wm9)) dX1_take_85 cvX1_63 okX1_findNeeded rfl (Nat.le_of_ble_eq_true rfl) BS_233 (Nat.le_of_ble_eq_true rfl) (Nat.le_of_ble_eq_true rfl) hci_1 (Nat.le_of_ble_eq_true rfl) (Nat.le_of_ble_eq_true rfl) (pX1_findNeeded  (a4) (((((vX9_byteOr s ((2 : Int32) * a4) (0 : Int32)) * (256 : Int32)) + (vX9_byteOr s (((2 : Int32) * a4) + (1 : Int32)) (0 : Int32))) - (10000 : Int32))) o2 rfl) (fun wm9 hq9 => ?_)
    subst hq9
    obtain ⟨s1, hs1⟩ : ∃ z, z = (mX1_findNeeded s a4 ((((vX9_byteOr s ((2 : Int32) * a4) (0 : Int32)) * (256 : Int32)) + (vX9_byteOr s (((2 : Int32) * a4) + (1 : Int32)) (0 : Int32))) - (10000 : Int32))) := ⟨_, rfl⟩
    replace h := h s1 hs1
    rw [← hs1]
    refine JT_iinc (q := 5) (v := (a4 + 1)) (lv' := [(4, .int (a4 + 1)), (5, .int ((((vX9_byteOr s ((2 : Int32) * a4) (0 : Int32)) * (256 : Int32)) + (vX9_byteOr s (((2 : Int32) * a4) + (1 : Int32)) (0 : Int32))) - (10000 : Int32))), (0, .ref 233), (1, .ref 3), (2, .ref L2), (3, .int a3)]) dX1_take_88 rfl (by rfl) (Nat.le_of_ble_eq_true rfl) rfl ?_
    refine JT_goto (tgt := 43) dX1_take_91 (by decide) ?_
    exact JT_sub [2, 3, 4, 5, 0] rfl h
set_option maxRecDepth 1000000 in
theorem bX1_take {L2 P2 : Nat} (hL2 : (L2, P2) ∈ LX) {s : SM} {Q : Int32 → SM → Prop} (h : gD (pD s 2 L2) 2 = some (gDx (pD s 2 L2) 2) ∧ ((gDx (pD s 2 L2) 2), rfx (gDx (pD s 2 L2) 2) 8) ∈ LX ∧ ((¬ (gI (pD s 2 L2) 3 1) = ((2 : Int32) * (gI (pD s 2 L2) (rfx (gDx (pD s 2 L2) 2) 8) 6)) → Q (0 : Int32) (pD s 2 L2)) ∧ ((gI (pD s 2 L2) 3 1) = ((2 : Int32) * (gI (pD s 2 L2) (rfx (gDx (pD s 2 L2) 2) 8) 6)) → rX1_findLost (pD s 2 L2)  ∧ ((¬ (vX1_findLost (pD s 2 L2) ) = 0 → BI MX1_take 6 43 [(0, .ref 233), (1, .ref 3), (2, .ref L2), (3, .int (gI (pD s 2 L2) (rfx (gDx (pD s 2 L2) 2) 8) 6)), (4, .int (0 : Int32))] (pI (mX1_findLost (pD s 2 L2) ) 233 10 (1 : Int32)) Q) ∧ ((vX1_findLost (pD s 2 L2) ) = 0 → Q (0 : Int32) (mX1_findLost (pD s 2 L2) )))))) : KI MX1_take 6 [.ref 233, .ref 3, .ref L2] s Q := by
  show BI MX1_take 6 0 [(0, .ref 233), (1, .ref 3), (2, .ref L2)] s Q
  refine JT_aload_n (q := 0) dX1_take_0 rfl rfl ?_
  refine JT_aload_n (q := 2) dX1_take_1 rfl rfl ?_
  refine JS_putD (kk := 2) dX1_take_2 flX1_30 BS_233 (Nat.le_of_ble_eq_true rfl) (Nat.le_of_ble_eq_true rfl) (Or.inl ⟨_, ct_1_11⟩) rfl ?_
  refine JT_aload_n (q := 0) dX1_take_5 rfl rfl ?_
  obtain ⟨hr1, hL2, h⟩ := h
  refine JS_getR (x := (gDx (pD s 2 L2) 2)) dX1_take_6 flX1_30 BS_233 (Nat.le_of_ble_eq_true rfl) (Nat.le_of_ble_eq_true rfl) (Or.inl ⟨_, ct_1_11⟩) (RF_233_11.trans hr1) ?_
  refine JS_getR (x := (rfx (gDx (pD s 2 L2) 2) 8)) dX1_take_9 flX1_34 (lxB hL2) (lx2 hL2) (lxN hL2) (Or.inl ⟨_, ct_4_8⟩) (lxR8 hL2) ?_
  refine JS_getI dX1_take_12 flX1_40 (pxB (lxP hL2)) (px2 (lxP hL2)) (pxN (lxP hL2)) (Or.inl ct_6_6) ?_
  refine JT_istore_n (lv' := [(3, .int (gI (pD s 2 L2) (rfx (gDx (pD s 2 L2) 2) 8) 6)), (0, .ref 233), (1, .ref 3), (2, .ref L2)]) dX1_take_15 rfl (Nat.le_of_ble_eq_true rfl) rfl ?_
  refine JT_aload_n (q := 2) dX1_take_16 rfl rfl ?_
  refine JS_getI dX1_take_17 flX1_46 BS_3 (Nat.le_of_ble_eq_true rfl) (Nat.le_of_ble_eq_true rfl) (Or.inl ct_9_1) ?_
  refine JT_iconst (v := 2) dX1_take_20 ic_2 ?_
  refine JT_iload_n (q := 0) dX1_take_21 rfl rfl ?_
  refine JT_imul dX1_take_22 ?_
  refine JT_icmp_ne (tgt := 33) dX1_take_23 (by decide) (fun hc5 => ?_) (fun hc5 => ?_)
  · have h := h.1 hc5
    refine JT_iconst (v := 0) dX1_take_33 ic_0 ?_
    exact JS_iret dX1_take_34 rfl (n01 (Or.inl rfl)) h
  · have h := h.2 hc5
    refine JT_aload_n (q := 1) dX1_take_26 rfl rfl ?_
    obtain ⟨o4, h⟩ := h
    refine JS_callVI (M' := MX1_findLost) (d' := 5) (As := []) (rest := []) (P := (fun zv9 wm9 => (vX1_findLost (pD s 2 L2) ) = zv9 ∧ (mX1_findLost (pD s 2 L2) ) = wm9)) dX1_take_27 cvX1_51 okX1_findLost rfl (Nat.le_of_ble_eq_true rfl) BS_233 (Nat.le_of_ble_eq_true rfl) (Nat.le_of_ble_eq_true rfl) hci_1 (Nat.le_of_ble_eq_true rfl) (Nat.le_of_ble_eq_true rfl) (pX1_findLost   o4 ⟨rfl, rfl⟩) (fun zv9 wm9 hq9 => ?_)
    obtain ⟨rfl, rfl⟩ := hq9
    refine JT_if_ne (tgt := 35) dX1_take_30 (by decide) (fun hc3 => ?_) (fun hc3 => ?_)
    · have h := h.1 hc3
      refine JT_aload_n (q := 1) dX1_take_35 rfl rfl ?_
      refine JT_iconst (v := 1) dX1_take_36 ic_1 ?_
      refine JS_putZ dX1_take_37 flX1_55 BS_233 (Nat.le_of_ble_eq_true rfl) (Nat.le_of_ble_eq_true rfl) ct_1_10 (Or.inr rfl) ?_
      refine JT_iconst (v := 0) dX1_take_40 ic_0 ?_
      refine JT_istore (lv' := [(4, .int (0 : Int32)), (3, .int (gI (pD s 2 L2) (rfx (gDx (pD s 2 L2) 2) 8) 6)), (0, .ref 233), (1, .ref 3), (2, .ref L2)]) dX1_take_41 (Nat.le_of_ble_eq_true rfl) rfl ?_
      exact JT_sub [2, 3, 4, 1, 0] rfl h
    · have h := h.2 hc3
      refine JT_iconst (v := 0) dX1_take_33 ic_0 ?_
      exact JS_iret dX1_take_34 rfl (n01 (Or.inl rfl)) h
set_option maxRecDepth 1000000 in
theorem gX1_take {L2 P2 : Nat} (hL2 : (L2, P2) ∈ LX) : ∀ n : Nat, (∀ (a3 : Int32) (a4 : Int32) (s : SM) (Q : Int32 → SM → Prop), ((qX1_take n) s L2 P2 a3 a4) → Q ((lX1_take n) s L2 P2 a3 a4).1 ((lX1_take n) s L2 P2 a3 a4).2 → BI MX1_take 6 43 [(0, .ref 233), (1, .ref 3), (2, .ref L2), (3, .int a3), (4, .int a4)] s Q) := by
  intro n
  induction n with
  | zero => exact fun _ _ _ _ hq _ => absurd hq id
  | succ n ih =>
    intro a3 a4 s Q hr h
    replace hr : uX1_take_43 (qX1_take n) s L2 P2 a3 a4 := hr
    replace h : Q (tX1_take_43 (lX1_take n) s L2 P2 a3 a4).1 (tX1_take_43 (lX1_take n) s L2 P2 a3 a4).2 := h
    unfold uX1_take_43 at hr
    unfold tX1_take_43 at h
    refine bX1_take_43 hL2 a3 a4 ?_
    refine ⟨fun c => ?_, fun c => ?_⟩
    · replace h := q3p c h
      first | exact h | contradiction
    · replace hr := hr c
      replace h := q3n c h
      refine ⟨hr.1, ?_⟩
      replace hr := hr.2
      refine ⟨hr.1, ?_⟩
      replace hr := hr.2
      refine ⟨hr.1, ?_⟩
      replace hr := hr.2
      intro s1 e9
      replace hr := hr s1 e9
      try rw [← e9] at h
      try dsimp only at h
      first | exact ih a3 (a4 + 1) _ Q hr h | contradiction
set_option maxRecDepth 1000000 in
theorem pX1_take {L2 P2 : Nat} (hL2 : (L2, P2) ∈ LX) {s : SM} {Q : Int32 → SM → Prop} (hr : rX1_take s L2 P2) (h : Q (vX1_take s L2 P2) (mX1_take s L2 P2)) : KI MX1_take 6 [.ref 233, .ref 3, .ref L2] s Q := by
  replace h : Q (fX1_take s L2 P2).1 (fX1_take s L2 P2).2 := h
  unfold rX1_take at hr
  unfold fX1_take at h
  refine bX1_take hL2 ?_
  refine ⟨hr.1, ?_⟩
  replace hr := hr.2
  refine ⟨hr.1, ?_⟩
  replace hr := hr.2
  refine ⟨fun c => ?_, fun c => ?_⟩
  · replace h := q3n c h
    first | exact h | contradiction
  · replace hr := hr c
    replace h := q3p c h
    refine ⟨hr.1, ?_⟩
    replace hr := hr.2
    refine ⟨fun c => ?_, fun c => ?_⟩
    · replace hr := hr c
      replace h := q3n c h
      first | exact (gX1_take hL2 FU) (gI (pD s 2 L2) (rfx (gDx (pD s 2 L2) 2) 8) 6) (0 : Int32) _ Q hr h | contradiction
    · replace h := q3p c h
      first | exact h | contradiction
set_option maxRecDepth 1000000 in
theorem bX6_readFrom_10 {p0 : Nat} (hp0 : p0 ∈ PX) (a2 : Int32) {s : SM} {Q : Int32 → SM → Prop} (h : (((600 : Int32) < a2 → Q (0 : Int32) s) ∧ (¬ (600 : Int32) < a2 → rX9_nextToken s  ∧ (((vX9_isEnd (mX9_nextToken s ) ) = 0 → rX6_readLine (mX9_nextToken s ) p0 ∧ ((¬ (vX6_readLine (mX9_nextToken s ) p0) = 0 → BI MX6_readFrom 6 10 [(0, .ref p0), (1, .ref 3), (2, .int (a2 + 1))] (pI (mX6_readLine (mX9_nextToken s ) p0) p0 10 ((gI (mX6_readLine (mX9_nextToken s ) p0) p0 10) + (1 : Int32))) Q) ∧ ((vX6_readLine (mX9_nextToken s ) p0) = 0 → Q (0 : Int32) (mX6_readLine (mX9_nextToken s ) p0)))) ∧ (¬ (vX9_isEnd (mX9_nextToken s ) ) = 0 → Q (vX9_isAllRead (mX9_nextToken s ) ) (mX9_isAllRead (mX9_nextToken s ) )))))) : BI MX6_readFrom 6 10 [(0, .ref p0), (1, .ref 3), (2, .int a2)] s Q := by
  refine JT_iload_n (q := 2) dX6_readFrom_10 rfl rfl ?_
  refine JT_sipush (v := 600) dX6_readFrom_11 sp_600 ?_
  refine JT_icmp_gt (tgt := 59) dX6_readFrom_14 (by decide) (fun hc7 => ?_) (fun hc7 => ?_)
  · have h := h.1 hc7
    refine JT_iconst (v := 0) dX6_readFrom_59 ic_0 ?_
    exact JS_iret dX6_readFrom_60 rfl (n01 (Or.inl rfl)) h
  · have h := h.2 hc7
    refine JT_aload_n (q := 1) dX6_readFrom_17 rfl rfl ?_
    obtain ⟨o6, h⟩ := h
    refine JS_callVV (M' := MX9_nextToken) (d' := 2) (As := []) (rest := []) (P := (fun wm9 => (mX9_nextToken s ) = wm9)) dX6_readFrom_18 cvX6_84 okX9_nextToken rfl (Nat.le_of_ble_eq_true rfl) BS_3 (Nat.le_of_ble_eq_true rfl) (Nat.le_of_ble_eq_true rfl) hci_9 (Nat.le_of_ble_eq_true rfl) (Nat.le_of_ble_eq_true rfl) (pX9_nextToken   o6 rfl) (fun wm9 hq9 => ?_)
    subst hq9
    refine JT_aload_n (q := 1) dX6_readFrom_21 rfl rfl ?_
    refine JS_callVI (M' := MX9_isEnd) (d' := 0) (As := []) (rest := []) (P := (fun zv9 wm9 => (vX9_isEnd (mX9_nextToken s ) ) = zv9 ∧ (mX9_nextToken s ) = wm9)) dX6_readFrom_22 cvX6_87 okX9_isEnd rfl (Nat.le_of_ble_eq_true rfl) BS_3 (Nat.le_of_ble_eq_true rfl) (Nat.le_of_ble_eq_true rfl) hci_9 (Nat.le_of_ble_eq_true rfl) (Nat.le_of_ble_eq_true rfl) (pX9_isEnd    ⟨rfl, rfl⟩) (fun zv9 wm9 hq9 => ?_)
    obtain ⟨rfl, rfl⟩ := hq9
    refine JT_if_eq (tgt := 33) dX6_readFrom_25 (by decide) (fun hc4 => ?_) (fun hc4 => ?_)
    · have h := h.1 hc4
      refine JT_aload_n (q := 0) dX6_readFrom_33 rfl rfl ?_
      refine JT_aload_n (q := 1) dX6_readFrom_34 rfl rfl ?_
      obtain ⟨o2, h⟩ := h
      refine JS_callVI (M' := MX6_readLine) (d' := 5) (As := [.ref 3]) (rest := []) (P := (fun zv9 wm9 => (vX6_readLine (mX9_nextToken s ) p0) = zv9 ∧ (mX6_readLine (mX9_nextToken s ) p0) = wm9)) dX6_readFrom_35 cvX6_94 okX6_readLine rfl (Nat.le_of_ble_eq_true rfl) (pxB hp0) (px2 hp0) (pxN hp0) hci_6 (Nat.le_of_ble_eq_true rfl) (Nat.le_of_ble_eq_true rfl) (pX6_readLine hp0  o2 ⟨rfl, rfl⟩) (fun zv9 wm9 hq9 => ?_)
      obtain ⟨rfl, rfl⟩ := hq9
      refine JT_if_ne (tgt := 43) dX6_readFrom_38 (by decide) (fun hc1 => ?_) (fun hc1 => ?_)
      · have h := h.1 hc1
        refine JT_aload_n (q := 0) dX6_readFrom_43 rfl rfl ?_
        refine JT_dup dX6_readFrom_44 rfl ?_
        refine JS_getI dX6_readFrom_45 flX6_44 (pxB hp0) (px2 hp0) (pxN hp0) (Or.inl ct_6_10) ?_
        refine JT_iconst (v := 1) dX6_readFrom_48 ic_1 ?_
        refine JT_iadd dX6_readFrom_49 ?_
        refine JS_putI dX6_readFrom_50 flX6_44 (pxB hp0) (px2 hp0) (pxN hp0) ct_6_10 ?_
        refine JT_iinc (q := 2) (v := (a2 + 1)) (lv' := [(2, .int (a2 + 1)), (0, .ref p0), (1, .ref 3)]) dX6_readFrom_53 rfl (by rfl) (Nat.le_of_ble_eq_true rfl) rfl ?_
        refine JT_goto (tgt := 10) dX6_readFrom_56 (by decide) ?_
        exact JT_sub [1, 2, 0] rfl h
      · have h := h.2 hc1
        refine JT_iconst (v := 0) dX6_readFrom_41 ic_0 ?_
        exact JS_iret dX6_readFrom_42 rfl (n01 (Or.inl rfl)) h
    · have h := h.2 hc4
      refine JT_aload_n (q := 1) dX6_readFrom_28 rfl rfl ?_
      refine JS_callVI (M' := MX9_isAllRead) (d' := 1) (As := []) (rest := []) (P := (fun zv9 wm9 => (vX9_isAllRead (mX9_nextToken s ) ) = zv9 ∧ (mX9_isAllRead (mX9_nextToken s ) ) = wm9)) dX6_readFrom_29 cvX6_91 okX9_isAllRead rfl (Nat.le_of_ble_eq_true rfl) BS_3 (Nat.le_of_ble_eq_true rfl) (Nat.le_of_ble_eq_true rfl) hci_9 (Nat.le_of_ble_eq_true rfl) (Nat.le_of_ble_eq_true rfl) (pX9_isAllRead    ⟨rfl, rfl⟩) (fun zv9 wm9 hq9 => ?_)
      obtain ⟨rfl, rfl⟩ := hq9
      exact JS_iret dX6_readFrom_32 rfl (n01 (zX9_isAllRead (mX9_nextToken s ) )) h
set_option maxRecDepth 1000000 in
theorem bX6_readFrom {p0 : Nat} (hp0 : p0 ∈ PX) {s : SM} {Q : Int32 → SM → Prop} (h : BI MX6_readFrom 6 10 [(0, .ref p0), (1, .ref 3), (2, .int (0 : Int32))] (mX9_begin (mX6_forget s p0) ) Q) : KI MX6_readFrom 6 [.ref p0, .ref 3] s Q := by
  show BI MX6_readFrom 6 0 [(0, .ref p0), (1, .ref 3)] s Q
  refine JT_aload_n (q := 0) dX6_readFrom_0 rfl rfl ?_
  refine JS_callVV (M' := MX6_forget) (d' := 0) (As := []) (rest := []) (P := (fun wm9 => (mX6_forget s p0) = wm9)) dX6_readFrom_1 cvX6_76 okX6_forget rfl (Nat.le_of_ble_eq_true rfl) (pxB hp0) (px2 hp0) (pxN hp0) hci_6 (Nat.le_of_ble_eq_true rfl) (Nat.le_of_ble_eq_true rfl) (pX6_forget hp0   rfl) (fun wm9 hq9 => ?_)
  subst hq9
  refine JT_aload_n (q := 1) dX6_readFrom_4 rfl rfl ?_
  refine JS_callVV (M' := MX9_begin) (d' := 0) (As := []) (rest := []) (P := (fun wm9 => (mX9_begin (mX6_forget s p0) ) = wm9)) dX6_readFrom_5 cvX6_79 okX9_begin rfl (Nat.le_of_ble_eq_true rfl) BS_3 (Nat.le_of_ble_eq_true rfl) (Nat.le_of_ble_eq_true rfl) hci_9 (Nat.le_of_ble_eq_true rfl) (Nat.le_of_ble_eq_true rfl) (pX9_begin    rfl) (fun wm9 hq9 => ?_)
  subst hq9
  refine JT_iconst (v := 0) dX6_readFrom_8 ic_0 ?_
  refine JT_istore_n (lv' := [(2, .int (0 : Int32)), (0, .ref p0), (1, .ref 3)]) dX6_readFrom_9 rfl (Nat.le_of_ble_eq_true rfl) rfl ?_
  exact JT_sub [1, 2, 0] rfl h
set_option maxRecDepth 1000000 in
theorem gX6_readFrom {p0 : Nat} (hp0 : p0 ∈ PX) : ∀ n : Nat, (∀ (a2 : Int32) (s : SM) (Q : Int32 → SM → Prop), ((qX6_readFrom n) s p0 a2) → Q ((lX6_readFrom n) s p0 a2).1 ((lX6_readFrom n) s p0 a2).2 → BI MX6_readFrom 6 10 [(0, .ref p0), (1, .ref 3), (2, .int a2)] s Q) := by
  intro n
  induction n with
  | zero => exact fun _ _ _ hq _ => absurd hq id
  | succ n ih =>
    intro a2 s Q hr h
    replace hr : uX6_readFrom_10 (qX6_readFrom n) s p0 a2 := hr
    replace h : Q (tX6_readFrom_10 (lX6_readFrom n) s p0 a2).1 (tX6_readFrom_10 (lX6_readFrom n) s p0 a2).2 := h
    unfold uX6_readFrom_10 at hr
    unfold tX6_readFrom_10 at h
    refine bX6_readFrom_10 hp0 a2 ?_
    refine ⟨fun c => ?_, fun c => ?_⟩
    · replace h := q3p c h
      first | exact h | contradiction
    · replace hr := hr c
      replace h := q3n c h
      refine ⟨hr.1, ?_⟩
      replace hr := hr.2
      refine ⟨fun c => ?_, fun c => ?_⟩
      · replace hr := hr c
        replace h := q3p c h
        refine ⟨hr.1, ?_⟩
        replace hr := hr.2
        refine ⟨fun c => ?_, fun c => ?_⟩
        · replace hr := hr c
          replace h := q3n c h
          first | exact ih (a2 + 1) _ Q hr h | contradiction
        · replace h := q3p c h
          first | exact h | contradiction
      · replace h := q3n c h
        first | exact h | contradiction
set_option maxRecDepth 1000000 in
theorem pX6_readFrom {p0 : Nat} (hp0 : p0 ∈ PX) {s : SM} {Q : Int32 → SM → Prop} (hr : rX6_readFrom s p0) (h : Q (vX6_readFrom s p0) (mX6_readFrom s p0)) : KI MX6_readFrom 6 [.ref p0, .ref 3] s Q := by
  replace h : Q (fX6_readFrom s p0).1 (fX6_readFrom s p0).2 := h
  unfold rX6_readFrom at hr
  unfold fX6_readFrom at h
  refine bX6_readFrom hp0 ?_
  first | exact (gX6_readFrom hp0 FU) (0 : Int32) _ Q hr h | contradiction
set_option maxRecDepth 1000000 in
theorem bX11_book  {s : SM} {Q : Int32 → SM → Prop} (h : rX0_readFrom s 25 5 ∧ ((¬ (vX0_readFrom s 25 5) = 0 → Q (gI (mX0_copyFrom (pI (pI (mX0_readFrom s 25 5) 2 18 (gI (mX0_readFrom s 25 5) 3 2)) 3 1 (0 : Int32)) 19 25) 19 0) (mX0_copyFrom (pI (pI (mX0_readFrom s 25 5) 2 18 (gI (mX0_readFrom s 25 5) 3 2)) 3 1 (0 : Int32)) 19 25)) ∧ ((vX0_readFrom s 25 5) = 0 → Q ((-1 : Int32) - (gI (pI (pI (mX0_readFrom s 25 5) 2 18 (gI (mX0_readFrom s 25 5) 3 2)) 3 1 (0 : Int32)) 3 3)) (pI (pI (mX0_readFrom s 25 5) 2 18 (gI (mX0_readFrom s 25 5) 3 2)) 3 1 (0 : Int32))))) : KI MX11_book 7 [.ref 2] s Q := by
  show BI MX11_book 7 0 [(0, .ref 2)] s Q
  refine JT_aload_n (q := 0) dX11_book_0 rfl rfl ?_
  refine JS_getR (x := 25) dX11_book_1 flX11_33 BS_2 (Nat.le_of_ble_eq_true rfl) (Nat.le_of_ble_eq_true rfl) (Or.inl ⟨_, ct_11_4⟩) RF_2_4 ?_
  refine JT_aload_n (q := 0) dX11_book_4 rfl rfl ?_
  refine JS_getR (x := 3) dX11_book_5 flX11_10 BS_2 (Nat.le_of_ble_eq_true rfl) (Nat.le_of_ble_eq_true rfl) (Or.inl ⟨_, ct_11_0⟩) RF_2_0 ?_
  refine JT_aload_n (q := 0) dX11_book_8 rfl rfl ?_
  refine JS_getR (x := 5) dX11_book_9 flX11_19 BS_2 (Nat.le_of_ble_eq_true rfl) (Nat.le_of_ble_eq_true rfl) (Or.inl ⟨_, ct_11_1⟩) RF_2_1 ?_
  obtain ⟨o3, h⟩ := h
  refine JS_callVI (M' := MX0_readFrom) (d' := 6) (As := [.ref 3, .ref 5]) (rest := []) (P := (fun zv9 wm9 => (vX0_readFrom s 25 5) = zv9 ∧ (mX0_readFrom s 25 5) = wm9)) dX11_book_12 cvX11_144 okX0_readFrom rfl (Nat.le_of_ble_eq_true rfl) BS_25 (Nat.le_of_ble_eq_true rfl) (Nat.le_of_ble_eq_true rfl) hci_0 (Nat.le_of_ble_eq_true rfl) (Nat.le_of_ble_eq_true rfl) (pX0_readFrom hk_25 hp_5  o3 ⟨rfl, rfl⟩) (fun zv9 wm9 hq9 => ?_)
  obtain ⟨rfl, rfl⟩ := hq9
  refine JT_istore_n (lv' := [(1, .int (vX0_readFrom s 25 5)), (0, .ref 2)]) dX11_book_15 rfl (Nat.le_of_ble_eq_true rfl) rfl ?_
  refine JT_aload_n (q := 1) dX11_book_16 rfl rfl ?_
  refine JT_aload_n (q := 1) dX11_book_17 rfl rfl ?_
  refine JS_getR (x := 3) dX11_book_18 flX11_10 BS_2 (Nat.le_of_ble_eq_true rfl) (Nat.le_of_ble_eq_true rfl) (Or.inl ⟨_, ct_11_0⟩) RF_2_0 ?_
  refine JS_getI dX11_book_21 flX11_116 BS_3 (Nat.le_of_ble_eq_true rfl) (Nat.le_of_ble_eq_true rfl) (Or.inl ct_9_2) ?_
  refine JS_putI dX11_book_24 flX11_119 BS_2 (Nat.le_of_ble_eq_true rfl) (Nat.le_of_ble_eq_true rfl) ct_11_18 ?_
  refine JT_aload_n (q := 1) dX11_book_27 rfl rfl ?_
  refine JS_getR (x := 3) dX11_book_28 flX11_10 BS_2 (Nat.le_of_ble_eq_true rfl) (Nat.le_of_ble_eq_true rfl) (Or.inl ⟨_, ct_11_0⟩) RF_2_0 ?_
  refine JT_iconst (v := 0) dX11_book_31 ic_0 ?_
  refine JS_putI dX11_book_32 flX11_104 BS_3 (Nat.le_of_ble_eq_true rfl) (Nat.le_of_ble_eq_true rfl) ct_9_1 ?_
  refine JT_iload_n (q := 0) dX11_book_35 rfl rfl ?_
  refine JT_if_ne (tgt := 49) dX11_book_36 (by decide) (fun hc2 => ?_) (fun hc2 => ?_)
  · have h := h.1 hc2
    refine JT_aload_n (q := 1) dX11_book_49 rfl rfl ?_
    refine JS_getR (x := 19) dX11_book_50 flX11_29 BS_2 (Nat.le_of_ble_eq_true rfl) (Nat.le_of_ble_eq_true rfl) (Or.inl ⟨_, ct_11_3⟩) RF_2_3 ?_
    refine JT_aload_n (q := 1) dX11_book_53 rfl rfl ?_
    refine JS_getR (x := 25) dX11_book_54 flX11_33 BS_2 (Nat.le_of_ble_eq_true rfl) (Nat.le_of_ble_eq_true rfl) (Or.inl ⟨_, ct_11_4⟩) RF_2_4 ?_
    refine JS_callVV (M' := MX0_copyFrom) (d' := 1) (As := [.ref 25]) (rest := []) (P := (fun wm9 => (mX0_copyFrom (pI (pI (mX0_readFrom s 25 5) 2 18 (gI (mX0_readFrom s 25 5) 3 2)) 3 1 (0 : Int32)) 19 25) = wm9)) dX11_book_57 cvX11_147 okX0_copyFrom rfl (Nat.le_of_ble_eq_true rfl) BS_19 (Nat.le_of_ble_eq_true rfl) (Nat.le_of_ble_eq_true rfl) hci_0 (Nat.le_of_ble_eq_true rfl) (Nat.le_of_ble_eq_true rfl) (pX0_copyFrom hk_19 hk_25   rfl) (fun wm9 hq9 => ?_)
    subst hq9
    refine JT_aload_n (q := 1) dX11_book_60 rfl rfl ?_
    refine JS_getR (x := 19) dX11_book_61 flX11_29 BS_2 (Nat.le_of_ble_eq_true rfl) (Nat.le_of_ble_eq_true rfl) (Or.inl ⟨_, ct_11_3⟩) RF_2_3 ?_
    refine JS_getI dX11_book_64 flX11_134 BS_19 (Nat.le_of_ble_eq_true rfl) (Nat.le_of_ble_eq_true rfl) (Or.inl ct_0_0) ?_
    exact JS_iret dX11_book_67 rfl rfl h
  · have h := h.2 hc2
    refine JT_iconst (v := -1) dX11_book_39 ic_m1 ?_
    refine JT_aload_n (q := 1) dX11_book_40 rfl rfl ?_
    refine JS_getR (x := 3) dX11_book_41 flX11_10 BS_2 (Nat.le_of_ble_eq_true rfl) (Nat.le_of_ble_eq_true rfl) (Or.inl ⟨_, ct_11_0⟩) RF_2_0 ?_
    refine JS_getI dX11_book_44 flX11_122 BS_3 (Nat.le_of_ble_eq_true rfl) (Nat.le_of_ble_eq_true rfl) (Or.inl ct_9_3) ?_
    refine JT_isub dX11_book_47 ?_
    exact JS_iret dX11_book_48 rfl rfl h
set_option maxRecDepth 1000000 in
theorem pX11_book  {s : SM} {Q : Int32 → SM → Prop} (hr : rX11_book s ) (h : Q (vX11_book s ) (mX11_book s )) : KI MX11_book 7 [.ref 2] s Q := by
  refine bX11_book  ?_
  unfold rX11_book at hr
  unfold vX11_book mX11_book at h
  refine ⟨hr, ?_⟩
  refine ⟨fun c => ?_, fun c => ?_⟩
  · replace h := q2n c h
    first | exact h | contradiction
  · replace h := q2p c h
    first | exact h | contradiction
set_option maxRecDepth 1000000 in
theorem bX11_port  {s : SM} {Q : Int32 → SM → Prop} (h : rX6_readFrom s 12 ∧ ((¬ (vX6_readFrom s 12) = 0 → (∀ s1, s1 = (pI (pI (pI (mX6_readFrom s 12) 2 18 (gI (mX6_readFrom s 12) 3 2)) 3 1 (0 : Int32)) 2 19 ((gI (pI (pI (mX6_readFrom s 12) 2 18 (gI (mX6_readFrom s 12) 3 2)) 3 1 (0 : Int32)) 2 19) + (1 : Int32))) → rX4_begin (pI (mX6_copyFrom (pI s1 12 11 (gI s1 2 19)) 5 12) 19 0 (0 : Int32)) 31 5 ∧ Q (gI (mX2_forget (mX4_begin (pI (mX6_copyFrom (pI s1 12 11 (gI s1 2 19)) 5 12) 19 0 (0 : Int32)) 31 5) ) 5 10) (mX2_forget (mX4_begin (pI (mX6_copyFrom (pI s1 12 11 (gI s1 2 19)) 5 12) 19 0 (0 : Int32)) 31 5) ))) ∧ ((vX6_readFrom s 12) = 0 → Q ((-1 : Int32) - (gI (pI (pI (mX6_readFrom s 12) 2 18 (gI (mX6_readFrom s 12) 3 2)) 3 1 (0 : Int32)) 3 3)) (pI (pI (mX6_readFrom s 12) 2 18 (gI (mX6_readFrom s 12) 3 2)) 3 1 (0 : Int32))))) : KI MX11_port 7 [.ref 2] s Q := by
  show BI MX11_port 7 0 [(0, .ref 2)] s Q
  refine JT_aload_n (q := 0) dX11_port_0 rfl rfl ?_
  refine JS_getR (x := 12) dX11_port_1 flX11_23 BS_2 (Nat.le_of_ble_eq_true rfl) (Nat.le_of_ble_eq_true rfl) (Or.inl ⟨_, ct_11_2⟩) RF_2_2 ?_
  refine JT_aload_n (q := 0) dX11_port_4 rfl rfl ?_
  refine JS_getR (x := 3) dX11_port_5 flX11_10 BS_2 (Nat.le_of_ble_eq_true rfl) (Nat.le_of_ble_eq_true rfl) (Or.inl ⟨_, ct_11_0⟩) RF_2_0 ?_
  obtain ⟨o6, h⟩ := h
  refine JS_callVI (M' := MX6_readFrom) (d' := 6) (As := [.ref 3]) (rest := []) (P := (fun zv9 wm9 => (vX6_readFrom s 12) = zv9 ∧ (mX6_readFrom s 12) = wm9)) dX11_port_8 cvX11_112 okX6_readFrom rfl (Nat.le_of_ble_eq_true rfl) BS_12 (Nat.le_of_ble_eq_true rfl) (Nat.le_of_ble_eq_true rfl) hci_6 (Nat.le_of_ble_eq_true rfl) (Nat.le_of_ble_eq_true rfl) (pX6_readFrom hp_12  o6 ⟨rfl, rfl⟩) (fun zv9 wm9 hq9 => ?_)
  obtain ⟨rfl, rfl⟩ := hq9
  refine JT_istore_n (lv' := [(1, .int (vX6_readFrom s 12)), (0, .ref 2)]) dX11_port_11 rfl (Nat.le_of_ble_eq_true rfl) rfl ?_
  refine JT_aload_n (q := 1) dX11_port_12 rfl rfl ?_
  refine JT_aload_n (q := 1) dX11_port_13 rfl rfl ?_
  refine JS_getR (x := 3) dX11_port_14 flX11_10 BS_2 (Nat.le_of_ble_eq_true rfl) (Nat.le_of_ble_eq_true rfl) (Or.inl ⟨_, ct_11_0⟩) RF_2_0 ?_
  refine JS_getI dX11_port_17 flX11_116 BS_3 (Nat.le_of_ble_eq_true rfl) (Nat.le_of_ble_eq_true rfl) (Or.inl ct_9_2) ?_
  refine JS_putI dX11_port_20 flX11_119 BS_2 (Nat.le_of_ble_eq_true rfl) (Nat.le_of_ble_eq_true rfl) ct_11_18 ?_
  refine JT_aload_n (q := 1) dX11_port_23 rfl rfl ?_
  refine JS_getR (x := 3) dX11_port_24 flX11_10 BS_2 (Nat.le_of_ble_eq_true rfl) (Nat.le_of_ble_eq_true rfl) (Or.inl ⟨_, ct_11_0⟩) RF_2_0 ?_
  refine JT_iconst (v := 0) dX11_port_27 ic_0 ?_
  refine JS_putI dX11_port_28 flX11_104 BS_3 (Nat.le_of_ble_eq_true rfl) (Nat.le_of_ble_eq_true rfl) ct_9_1 ?_
  refine JT_iload_n (q := 0) dX11_port_31 rfl rfl ?_
  refine JT_if_ne (tgt := 45) dX11_port_32 (by decide) (fun hc5 => ?_) (fun hc5 => ?_)
  · have h := h.1 hc5
    refine JT_aload_n (q := 1) dX11_port_45 rfl rfl ?_
    refine JT_dup dX11_port_46 rfl ?_
    refine JS_getI dX11_port_47 flX11_125 BS_2 (Nat.le_of_ble_eq_true rfl) (Nat.le_of_ble_eq_true rfl) (Or.inl ct_11_19) ?_
    refine JT_iconst (v := 1) dX11_port_50 ic_1 ?_
    refine JT_iadd dX11_port_51 ?_
    refine JS_putI dX11_port_52 flX11_125 BS_2 (Nat.le_of_ble_eq_true rfl) (Nat.le_of_ble_eq_true rfl) ct_11_19 ?_
    obtain ⟨s1, hs1⟩ : ∃ z, z = (pI (pI (pI (mX6_readFrom s 12) 2 18 (gI (mX6_readFrom s 12) 3 2)) 3 1 (0 : Int32)) 2 19 ((gI (pI (pI (mX6_readFrom s 12) 2 18 (gI (mX6_readFrom s 12) 3 2)) 3 1 (0 : Int32)) 2 19) + (1 : Int32))) := ⟨_, rfl⟩
    replace h := h s1 hs1
    rw [← hs1]
    refine JT_aload_n (q := 1) dX11_port_55 rfl rfl ?_
    refine JS_getR (x := 12) dX11_port_56 flX11_23 BS_2 (Nat.le_of_ble_eq_true rfl) (Nat.le_of_ble_eq_true rfl) (Or.inl ⟨_, ct_11_2⟩) RF_2_2 ?_
    refine JT_aload_n (q := 1) dX11_port_59 rfl rfl ?_
    refine JS_getI dX11_port_60 flX11_125 BS_2 (Nat.le_of_ble_eq_true rfl) (Nat.le_of_ble_eq_true rfl) (Or.inl ct_11_19) ?_
    refine JS_putI dX11_port_63 flX11_128 BS_12 (Nat.le_of_ble_eq_true rfl) (Nat.le_of_ble_eq_true rfl) ct_6_11 ?_
    refine JT_aload_n (q := 1) dX11_port_66 rfl rfl ?_
    refine JS_getR (x := 5) dX11_port_67 flX11_19 BS_2 (Nat.le_of_ble_eq_true rfl) (Nat.le_of_ble_eq_true rfl) (Or.inl ⟨_, ct_11_1⟩) RF_2_1 ?_
    refine JT_aload_n (q := 1) dX11_port_70 rfl rfl ?_
    refine JS_getR (x := 12) dX11_port_71 flX11_23 BS_2 (Nat.le_of_ble_eq_true rfl) (Nat.le_of_ble_eq_true rfl) (Or.inl ⟨_, ct_11_2⟩) RF_2_2 ?_
    refine JS_callVV (M' := MX6_copyFrom) (d' := 1) (As := [.ref 12]) (rest := []) (P := (fun wm9 => (mX6_copyFrom (pI s1 12 11 (gI s1 2 19)) 5 12) = wm9)) dX11_port_74 cvX11_131 okX6_copyFrom rfl (Nat.le_of_ble_eq_true rfl) BS_5 (Nat.le_of_ble_eq_true rfl) (Nat.le_of_ble_eq_true rfl) hci_6 (Nat.le_of_ble_eq_true rfl) (Nat.le_of_ble_eq_true rfl) (pX6_copyFrom hp_5 hp_12   rfl) (fun wm9 hq9 => ?_)
    subst hq9
    refine JT_aload_n (q := 1) dX11_port_77 rfl rfl ?_
    refine JS_getR (x := 19) dX11_port_78 flX11_29 BS_2 (Nat.le_of_ble_eq_true rfl) (Nat.le_of_ble_eq_true rfl) (Or.inl ⟨_, ct_11_3⟩) RF_2_3 ?_
    refine JT_iconst (v := 0) dX11_port_81 ic_0 ?_
    refine JS_putI dX11_port_82 flX11_134 BS_19 (Nat.le_of_ble_eq_true rfl) (Nat.le_of_ble_eq_true rfl) ct_0_0 ?_
    refine JT_aload_n (q := 1) dX11_port_85 rfl rfl ?_
    refine JS_getR (x := 31) dX11_port_86 flX11_41 BS_2 (Nat.le_of_ble_eq_true rfl) (Nat.le_of_ble_eq_true rfl) (Or.inl ⟨_, ct_11_5⟩) RF_2_5 ?_
    obtain ⟨o3, h⟩ := h
    refine JS_callVV (M' := MX4_begin) (d' := 0) (As := []) (rest := []) (P := (fun wm9 => (mX4_begin (pI (mX6_copyFrom (pI s1 12 11 (gI s1 2 19)) 5 12) 19 0 (0 : Int32)) 31 5) = wm9)) dX11_port_89 cvX11_137 okX4_begin rfl (Nat.le_of_ble_eq_true rfl) BS_31 (Nat.le_of_ble_eq_true rfl) (Nat.le_of_ble_eq_true rfl) hci_4 (Nat.le_of_ble_eq_true rfl) (Nat.le_of_ble_eq_true rfl) (pX4_begin hL_31  o3 rfl) (fun wm9 hq9 => ?_)
    subst hq9
    refine JT_aload_n (q := 1) dX11_port_92 rfl rfl ?_
    refine JS_getR (x := 55) dX11_port_93 flX11_51 BS_2 (Nat.le_of_ble_eq_true rfl) (Nat.le_of_ble_eq_true rfl) (Or.inl ⟨_, ct_11_7⟩) RF_2_7 ?_
    refine JS_callVV (M' := MX2_forget) (d' := 0) (As := []) (rest := []) (P := (fun wm9 => (mX2_forget (mX4_begin (pI (mX6_copyFrom (pI s1 12 11 (gI s1 2 19)) 5 12) 19 0 (0 : Int32)) 31 5) ) = wm9)) dX11_port_96 cvX11_140 okX2_forget rfl (Nat.le_of_ble_eq_true rfl) BS_55 (Nat.le_of_ble_eq_true rfl) (Nat.le_of_ble_eq_true rfl) hci_2 (Nat.le_of_ble_eq_true rfl) (Nat.le_of_ble_eq_true rfl) (pX2_forget    rfl) (fun wm9 hq9 => ?_)
    subst hq9
    refine JT_aload_n (q := 1) dX11_port_99 rfl rfl ?_
    refine JS_getR (x := 5) dX11_port_100 flX11_19 BS_2 (Nat.le_of_ble_eq_true rfl) (Nat.le_of_ble_eq_true rfl) (Or.inl ⟨_, ct_11_1⟩) RF_2_1 ?_
    refine JS_getI dX11_port_103 flX11_143 BS_5 (Nat.le_of_ble_eq_true rfl) (Nat.le_of_ble_eq_true rfl) (Or.inl ct_6_10) ?_
    exact JS_iret dX11_port_106 rfl rfl h
  · have h := h.2 hc5
    refine JT_iconst (v := -1) dX11_port_35 ic_m1 ?_
    refine JT_aload_n (q := 1) dX11_port_36 rfl rfl ?_
    refine JS_getR (x := 3) dX11_port_37 flX11_10 BS_2 (Nat.le_of_ble_eq_true rfl) (Nat.le_of_ble_eq_true rfl) (Or.inl ⟨_, ct_11_0⟩) RF_2_0 ?_
    refine JS_getI dX11_port_40 flX11_122 BS_3 (Nat.le_of_ble_eq_true rfl) (Nat.le_of_ble_eq_true rfl) (Or.inl ct_9_3) ?_
    refine JT_isub dX11_port_43 ?_
    exact JS_iret dX11_port_44 rfl rfl h
set_option maxRecDepth 1000000 in
theorem pX11_port  {s : SM} {Q : Int32 → SM → Prop} (hr : rX11_port s ) (h : Q (vX11_port s ) (mX11_port s )) : KI MX11_port 7 [.ref 2] s Q := by
  refine bX11_port  ?_
  unfold rX11_port at hr
  unfold vX11_port mX11_port at h
  refine ⟨hr.1, ?_⟩
  replace hr := hr.2
  refine ⟨fun c => ?_, fun c => ?_⟩
  · replace hr := hr c
    replace h := q2n c h
    intro s1 e9
    replace hr := hr s1 e9
    try rw [← e9] at h
    try dsimp only at h
    refine ⟨hr, ?_⟩
    first | exact h | contradiction
  · replace h := q2p c h
    first | exact h | contradiction
