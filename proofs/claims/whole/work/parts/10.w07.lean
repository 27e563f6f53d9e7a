set_option maxRecDepth 20000 in
theorem bX4_tryWrite {L0 P0 : Nat} (hL0 : (L0, P0) ∈ LX) (a1 : Int32) (a2 : Int32) (a3 : Int32) (a4 : Int32) {s : SM} {Q : Int32 → SM → Prop} (h : rX4_wrongToWrite s L0 P0 a1 a2 a4 ∧ (((vX4_wrongToWrite s L0 P0 a1 a2 a4) = 0 → vp_in a4 6 ∧ rX4_bearerFor (mX4_wrongToWrite s L0 P0 a1 a2 a4) L0 P0 a1 (gI (mX4_wrongToWrite s L0 P0 a1 a2 a4) (P0 + 5) (a4).toNatClampNeg) ∧ vp_in a4 6 ∧ rX4_debtBearerFor (mX4_wrongToWrite s L0 P0 a1 a2 a4) L0 P0 a2 (gI (mX4_wrongToWrite s L0 P0 a1 a2 a4) (P0 + 5) (a4).toNatClampNeg) (vX4_bearerFor (mX4_wrongToWrite s L0 P0 a1 a2 a4) L0 P0 a1 (gI (mX4_wrongToWrite s L0 P0 a1 a2 a4) (P0 + 5) (a4).toNatClampNeg)) ∧ (∀ s3, s3 = (mX4_debtBearerFor (mX4_wrongToWrite s L0 P0 a1 a2 a4) L0 P0 a2 (gI (mX4_wrongToWrite s L0 P0 a1 a2 a4) (P0 + 5) (a4).toNatClampNeg) (vX4_bearerFor (mX4_wrongToWrite s L0 P0 a1 a2 a4) L0 P0 a1 (gI (mX4_wrongToWrite s L0 P0 a1 a2 a4) (P0 + 5) (a4).toNatClampNeg))) → vp_in (vX4_bearerFor (mX4_wrongToWrite s L0 P0 a1 a2 a4) L0 P0 a1 (gI (mX4_wrongToWrite s L0 P0 a1 a2 a4) (P0 + 5) (a4).toNatClampNeg)) 9 ∧ vp_in a4 6 ∧ vp_in (vX4_bearerFor (mX4_wrongToWrite s L0 P0 a1 a2 a4) L0 P0 a1 (gI (mX4_wrongToWrite s L0 P0 a1 a2 a4) (P0 + 5) (a4).toNatClampNeg)) 9 ∧ (∀ s7, s7 = (pI s3 (L0 + 7) ((vX4_bearerFor (mX4_wrongToWrite s L0 P0 a1 a2 a4) L0 P0 a1 (gI (mX4_wrongToWrite s L0 P0 a1 a2 a4) (P0 + 5) (a4).toNatClampNeg))).toNatClampNeg ((gI s3 (L0 + 7) ((vX4_bearerFor (mX4_wrongToWrite s L0 P0 a1 a2 a4) L0 P0 a1 (gI (mX4_wrongToWrite s L0 P0 a1 a2 a4) (P0 + 5) (a4).toNatClampNeg))).toNatClampNeg) - (gI s3 (P0 + 5) (a4).toNatClampNeg))) → vp_in (vX4_debtBearerFor (mX4_wrongToWrite s L0 P0 a1 a2 a4) L0 P0 a2 (gI (mX4_wrongToWrite s L0 P0 a1 a2 a4) (P0 + 5) (a4).toNatClampNeg) (vX4_bearerFor (mX4_wrongToWrite s L0 P0 a1 a2 a4) L0 P0 a1 (gI (mX4_wrongToWrite s L0 P0 a1 a2 a4) (P0 + 5) (a4).toNatClampNeg))) 9 ∧ vp_in a4 6 ∧ vp_in (vX4_debtBearerFor (mX4_wrongToWrite s L0 P0 a1 a2 a4) L0 P0 a2 (gI (mX4_wrongToWrite s L0 P0 a1 a2 a4) (P0 + 5) (a4).toNatClampNeg) (vX4_bearerFor (mX4_wrongToWrite s L0 P0 a1 a2 a4) L0 P0 a1 (gI (mX4_wrongToWrite s L0 P0 a1 a2 a4) (P0 + 5) (a4).toNatClampNeg))) 9 ∧ (∀ s11, s11 = (pI s7 (L0 + 7) ((vX4_debtBearerFor (mX4_wrongToWrite s L0 P0 a1 a2 a4) L0 P0 a2 (gI (mX4_wrongToWrite s L0 P0 a1 a2 a4) (P0 + 5) (a4).toNatClampNeg) (vX4_bearerFor (mX4_wrongToWrite s L0 P0 a1 a2 a4) L0 P0 a1 (gI (mX4_wrongToWrite s L0 P0 a1 a2 a4) (P0 + 5) (a4).toNatClampNeg)))).toNatClampNeg ((gI s7 (L0 + 7) ((vX4_debtBearerFor (mX4_wrongToWrite s L0 P0 a1 a2 a4) L0 P0 a2 (gI (mX4_wrongToWrite s L0 P0 a1 a2 a4) (P0 + 5) (a4).toNatClampNeg) (vX4_bearerFor (mX4_wrongToWrite s L0 P0 a1 a2 a4) L0 P0 a1 (gI (mX4_wrongToWrite s L0 P0 a1 a2 a4) (P0 + 5) (a4).toNatClampNeg)))).toNatClampNeg) - (gI s7 (P0 + 5) (a4).toNatClampNeg))) → vp_in (gI s11 L0 9) 60 ∧ vp_in (gI (pI s11 (L0 + 1) ((gI s11 L0 9)).toNatClampNeg a1) L0 9) 60 ∧ (∀ s14, s14 = (pI (pI s11 (L0 + 1) ((gI s11 L0 9)).toNatClampNeg a1) (L0 + 2) ((gI (pI s11 (L0 + 1) ((gI s11 L0 9)).toNatClampNeg a1) L0 9)).toNatClampNeg a2) → vp_in (gI s14 L0 9) 60 ∧ vp_in (gI (pI s14 (L0 + 3) ((gI s14 L0 9)).toNatClampNeg a3) L0 9) 60 ∧ (∀ s17, s17 = (pI (pI s14 (L0 + 3) ((gI s14 L0 9)).toNatClampNeg a3) (L0 + 4) ((gI (pI s14 (L0 + 3) ((gI s14 L0 9)).toNatClampNeg a3) L0 9)).toNatClampNeg a4) → vp_in (gI s17 L0 9) 60 ∧ vp_in (gI (pI s17 (L0 + 5) ((gI s17 L0 9)).toNatClampNeg (gI s17 L0 10)) L0 9) 60 ∧ (∀ s20, s20 = (pI (pI s17 (L0 + 5) ((gI s17 L0 9)).toNatClampNeg (gI s17 L0 10)) (L0 + 6) ((gI (pI s17 (L0 + 5) ((gI s17 L0 9)).toNatClampNeg (gI s17 L0 10)) L0 9)).toNatClampNeg (0 : Int32)) → vp_in (gI s20 L0 9) 60 ∧ (∀ s22, s22 = (pI s20 (L0 + 9) ((gI s20 L0 9)).toNatClampNeg (vX4_bearerFor (mX4_wrongToWrite s L0 P0 a1 a2 a4) L0 P0 a1 (gI (mX4_wrongToWrite s L0 P0 a1 a2 a4) (P0 + 5) (a4).toNatClampNeg))) → vp_in (gI s22 L0 9) 60 ∧ (∀ s24, s24 = (pI s22 (L0 + 10) ((gI s22 L0 9)).toNatClampNeg (vX4_debtBearerFor (mX4_wrongToWrite s L0 P0 a1 a2 a4) L0 P0 a2 (gI (mX4_wrongToWrite s L0 P0 a1 a2 a4) (P0 + 5) (a4).toNatClampNeg) (vX4_bearerFor (mX4_wrongToWrite s L0 P0 a1 a2 a4) L0 P0 a1 (gI (mX4_wrongToWrite s L0 P0 a1 a2 a4) (P0 + 5) (a4).toNatClampNeg)))) → vp_in (gI s24 L0 9) 60 ∧ (∀ s26, s26 = (pI (pI s24 (L0 + 11) ((gI s24 L0 9)).toNatClampNeg (0 : Int32)) L0 9 ((gI (pI s24 (L0 + 11) ((gI s24 L0 9)).toNatClampNeg (0 : Int32)) L0 9) + (1 : Int32))) → Q (0 : Int32) s26)))))))))) ∧ (¬ (vX4_wrongToWrite s L0 P0 a1 a2 a4) = 0 → Q (vX4_wrongToWrite s L0 P0 a1 a2 a4) (mX4_wrongToWrite s L0 P0 a1 a2 a4)))) : KI MX4_tryWrite 4 [.ref L0, .int a1, .int a2, .int a3, .int a4] s Q := by
  show BI MX4_tryWrite 4 0 [(0, .ref L0), (1, .int a1), (2, .int a2), (3, .int a3), (4, .int a4)] s Q
  refine JT_aload_n (q := 0) dX4_tryWrite_0 rfl rfl ?_
  refine JT_iload_n (q := 1) dX4_tryWrite_1 rfl rfl ?_
  refine JT_iload_n (q := 2) dX4_tryWrite_2 rfl rfl ?_
  refine JT_iload (q := 4) dX4_tryWrite_3 rfl ?_
  obtain ⟨o30, h⟩ := h
  refine JS_callVI (M' := MX4_wrongToWrite) (d' := 3) (As := [.int a1, .int a2, .int a4]) (rest := []) (P := (fun zv9 wm9 => (vX4_wrongToWrite s L0 P0 a1 a2 a4) = zv9 ∧ (mX4_wrongToWrite s L0 P0 a1 a2 a4) = wm9)) dX4_tryWrite_5 cvX4_135 okX4_wrongToWrite rfl (Nat.le_of_ble_eq_true rfl) (lxB hL0) (lx2 hL0) (lxN hL0) hci_4 (Nat.le_of_ble_eq_true rfl) (Nat.le_of_ble_eq_true rfl) (pX4_wrongToWrite hL0 (a1) (a2) (a4) o30 ⟨rfl, rfl⟩) (fun zv9 wm9 hq9 => ?_)
  obtain ⟨rfl, rfl⟩ := hq9
  refine JT_istore (lv' := [(5, .int (vX4_wrongToWrite s L0 P0 a1 a2 a4)), (0, .ref L0), (1, .int a1), (2, .int a2), (3, .int a3), (4, .int a4)]) dX4_tryWrite_8 (Nat.le_of_ble_eq_true rfl) rfl ?_
  refine JT_iload (q := 0) dX4_tryWrite_10 rfl ?_
  refine JT_if_eq (tgt := 18) dX4_tryWrite_12 (by decide) (fun hc29 => ?_) (fun hc29 => ?_)
  · have h := h.1 hc29
    refine JT_aload_n (q := 1) dX4_tryWrite_18 rfl rfl ?_
    refine JT_iload_n (q := 2) dX4_tryWrite_19 rfl rfl ?_
    refine JT_aload_n (q := 1) dX4_tryWrite_20 rfl rfl ?_
    refine JS_getR (x := P0) dX4_tryWrite_21 flX4_45 (lxB hL0) (lx2 hL0) (lxN hL0) (Or.inl ⟨_, ct_4_8⟩) (lxR8 hL0) ?_
    refine JS_getR (x := (P0 + 5)) dX4_tryWrite_24 flX4_128 (pxB (lxP hL0)) (px2 (lxP hL0)) (pxN (lxP hL0)) (Or.inr ⟨_, ct_6_4⟩) (pxR4 (lxP hL0)) ?_
    refine JT_iload (q := 5) dX4_tryWrite_27 rfl ?_
    obtain ⟨o1, h⟩ := h
    refine JS_iald dX4_tryWrite_29 (pxB5 (lxP hL0)) (px2k (lxP hL0) _) (pxNk (lxP hL0) (Nat.le_of_ble_eq_true rfl)) o1 ?_
    obtain ⟨o28, h⟩ := h
    refine JS_callVI (M' := MX4_bearerFor) (d' := 1) (As := [.int a1, .int (gI (mX4_wrongToWrite s L0 P0 a1 a2 a4) (P0 + 5) (a4).toNatClampNeg)]) (rest := []) (P := (fun zv9 wm9 => (vX4_bearerFor (mX4_wrongToWrite s L0 P0 a1 a2 a4) L0 P0 a1 (gI (mX4_wrongToWrite s L0 P0 a1 a2 a4) (P0 + 5) (a4).toNatClampNeg)) = zv9 ∧ (mX4_wrongToWrite s L0 P0 a1 a2 a4) = wm9)) dX4_tryWrite_30 cvX4_125 okX4_bearerFor rfl (Nat.le_of_ble_eq_true rfl) (lxB hL0) (lx2 hL0) (lxN hL0) hci_4 (Nat.le_of_ble_eq_true rfl) (Nat.le_of_ble_eq_true rfl) (pX4_bearerFor hL0 (a1) ((gI (mX4_wrongToWrite s L0 P0 a1 a2 a4) (P0 + 5) (a4).toNatClampNeg)) o28 ⟨rfl, rfl⟩) (fun zv9 wm9 hq9 => ?_)
    obtain ⟨rfl, rfl⟩ := hq9
    refine JT_istore (lv' := [(6, .int (vX4_bearerFor (mX4_wrongToWrite s L0 P0 a1 a2 a4) L0 P0 a1 (gI (mX4_wrongToWrite s L0 P0 a1 a2 a4) (P0 + 5) (a4).toNatClampNeg))), (5, .int (vX4_wrongToWrite s L0 P0 a1 a2 a4)), (0, .ref L0), (1, .int a1), (2, .int a2), (3, .int a3), (4, .int a4)]) dX4_tryWrite_33 (Nat.le_of_ble_eq_true rfl) rfl ?_
    refine JT_aload_n (q := 2) dX4_tryWrite_35 rfl rfl ?_
    refine JT_iload_n (q := 4) dX4_tryWrite_36 rfl rfl ?_
    refine JT_aload_n (q := 2) dX4_tryWrite_37 rfl rfl ?_
    refine JS_getR (x := P0) dX4_tryWrite_38 flX4_45 (lxB hL0) (lx2 hL0) (lxN hL0) (Or.inl ⟨_, ct_4_8⟩) (lxR8 hL0) ?_
    refine JS_getR (x := (P0 + 5)) dX4_tryWrite_41 flX4_128 (pxB (lxP hL0)) (px2 (lxP hL0)) (pxN (lxP hL0)) (Or.inr ⟨_, ct_6_4⟩) (pxR4 (lxP hL0)) ?_
    refine JT_iload (q := 6) dX4_tryWrite_44 rfl ?_
    obtain ⟨o2, h⟩ := h
    refine JS_iald dX4_tryWrite_46 (pxB5 (lxP hL0)) (px2k (lxP hL0) _) (pxNk (lxP hL0) (Nat.le_of_ble_eq_true rfl)) o2 ?_
    refine JT_iload (q := 0) dX4_tryWrite_47 rfl ?_
    obtain ⟨o27, h⟩ := h
    refine JS_callVI (M' := MX4_debtBearerFor) (d' := 2) (As := [.int a2, .int (gI (mX4_wrongToWrite s L0 P0 a1 a2 a4) (P0 + 5) (a4).toNatClampNeg), .int (vX4_bearerFor (mX4_wrongToWrite s L0 P0 a1 a2 a4) L0 P0 a1 (gI (mX4_wrongToWrite s L0 P0 a1 a2 a4) (P0 + 5) (a4).toNatClampNeg))]) (rest := []) (P := (fun zv9 wm9 => (vX4_debtBearerFor (mX4_wrongToWrite s L0 P0 a1 a2 a4) L0 P0 a2 (gI (mX4_wrongToWrite s L0 P0 a1 a2 a4) (P0 + 5) (a4).toNatClampNeg) (vX4_bearerFor (mX4_wrongToWrite s L0 P0 a1 a2 a4) L0 P0 a1 (gI (mX4_wrongToWrite s L0 P0 a1 a2 a4) (P0 + 5) (a4).toNatClampNeg))) = zv9 ∧ (mX4_debtBearerFor (mX4_wrongToWrite s L0 P0 a1 a2 a4) L0 P0 a2 (gI (mX4_wrongToWrite s L0 P0 a1 a2 a4) (P0 + 5) (a4).toNatClampNeg) (vX4_bearerFor (mX4_wrongToWrite s L0 P0 a1 a2 a4) L0 P0 a1 (gI (mX4_wrongToWrite s L0 P0 a1 a2 a4) (P0 + 5) (a4).toNatClampNeg))) = wm9)) dX4_tryWrite_49 cvX4_131 okX4_debtBearerFor rfl (Nat.le_of_ble_eq_true rfl) (lxB hL0) (lx2 hL0) (lxN hL0) hci_4 (Nat.le_of_ble_eq_true rfl) (Nat.le_of_ble_eq_true rfl) (pX4_debtBearerFor hL0 (a2) ((gI (mX4_wrongToWrite s L0 P0 a1 a2 a4) (P0 + 5) (a4).toNatClampNeg)) ((vX4_bearerFor (mX4_wrongToWrite s L0 P0 a1 a2 a4) L0 P0 a1 (gI (mX4_wrongToWrite s L0 P0 a1 a2 a4) (P0 + 5) (a4).toNatClampNeg))) o27 ⟨rfl, rfl⟩) (fun zv9 wm9 hq9 => ?_)
    obtain ⟨rfl, rfl⟩ := hq9
    obtain ⟨s3, hs3⟩ : ∃ z, z = (mX4_debtBearerFor (mX4_wrongToWrite s L0 P0 a1 a2 a4) L0 P0 a2 (gI (mX4_wrongToWrite s L0 P0 a1 a2 a4) (P0 + 5) (a4).toNatClampNeg) (vX4_bearerFor (mX4_wrongToWrite s L0 P0 a1 a2 a4) L0 P0 a1 (gI (mX4_wrongToWrite s L0 P0 a1 a2 a4) (P0 + 5) (a4).toNatClampNeg))) := ⟨_, rfl⟩
    replace h := h s3 hs3
    rw [← hs3]
    refine JT_istore (lv' := [(7, .int (vX4_debtBearerFor (mX4_wrongToWrite s L0 P0 a1 a2 a4) L0 P0 a2 (gI (mX4_wrongToWrite s L0 P0 a1 a2 a4) (P0 + 5) (a4).toNatClampNeg) (vX4_bearerFor (mX4_wrongToWrite s L0 P0 a1 a2 a4) L0 P0 a1 (gI (mX4_wrongToWrite s L0 P0 a1 a2 a4) (P0 + 5) (a4).toNatClampNeg)))), (6, .int (vX4_bearerFor (mX4_wrongToWrite s L0 P0 a1 a2 a4) L0 P0 a1 (gI (mX4_wrongToWrite s L0 P0 a1 a2 a4) (P0 + 5) (a4).toNatClampNeg))), (5, .int (vX4_wrongToWrite s L0 P0 a1 a2 a4)), (0, .ref L0), (1, .int a1), (2, .int a2), (3, .int a3), (4, .int a4)]) dX4_tryWrite_52 (Nat.le_of_ble_eq_true rfl) rfl ?_
    refine JT_aload_n (q := 3) dX4_tryWrite_54 rfl rfl ?_
    refine JS_getR (x := (L0 + 7)) dX4_tryWrite_55 flX4_30 (lxB hL0) (lx2 hL0) (lxN hL0) (Or.inr ⟨_, ct_4_6⟩) (lxR6 hL0) ?_
    refine JT_iload (q := 1) dX4_tryWrite_58 rfl ?_
    refine JT_dup2 dX4_tryWrite_60 rfl rfl ?_
    obtain ⟨o4, h⟩ := h
    refine JS_iald dX4_tryWrite_61 (lxB7 hL0) (lx2k hL0 _) (lxNk hL0 (Nat.le_of_ble_eq_true rfl)) o4 ?_
    refine JT_aload_n (q := 3) dX4_tryWrite_62 rfl rfl ?_
    refine JS_getR (x := P0) dX4_tryWrite_63 flX4_45 (lxB hL0) (lx2 hL0) (lxN hL0) (Or.inl ⟨_, ct_4_8⟩) (lxR8 hL0) ?_
    refine JS_getR (x := (P0 + 5)) dX4_tryWrite_66 flX4_128 (pxB (lxP hL0)) (px2 (lxP hL0)) (pxN (lxP hL0)) (Or.inr ⟨_, ct_6_4⟩) (pxR4 (lxP hL0)) ?_
    refine JT_iload (q := 7) dX4_tryWrite_69 rfl ?_
    obtain ⟨o5, h⟩ := h
    refine JS_iald dX4_tryWrite_71 (pxB5 (lxP hL0)) (px2k (lxP hL0) _) (pxNk (lxP hL0) (Nat.le_of_ble_eq_true rfl)) o5 ?_
    refine JT_isub dX4_tryWrite_72 ?_
    obtain ⟨o6, h⟩ := h
    refine JS_iast dX4_tryWrite_73 (lxB7 hL0) (lx2k hL0 _) (lxNk hL0 (Nat.le_of_ble_eq_true rfl)) o6 ?_
    obtain ⟨s7, hs7⟩ : ∃ z, z = (pI s3 (L0 + 7) ((vX4_bearerFor (mX4_wrongToWrite s L0 P0 a1 a2 a4) L0 P0 a1 (gI (mX4_wrongToWrite s L0 P0 a1 a2 a4) (P0 + 5) (a4).toNatClampNeg))).toNatClampNeg ((gI s3 (L0 + 7) ((vX4_bearerFor (mX4_wrongToWrite s L0 P0 a1 a2 a4) L0 P0 a1 (gI (mX4_wrongToWrite s L0 P0 a1 a2 a4) (P0 + 5) (a4).toNatClampNeg))).toNatClampNeg) - (gI s3 (P0 + 5) (a4).toNatClampNeg))) := ⟨_, rfl⟩
    replace h := h s7 hs7
    rw [← hs7]
    refine JT_aload_n (q := 3) dX4_tryWrite_74 rfl rfl ?_
    refine JS_getR (x := (L0 + 7)) dX4_tryWrite_75 flX4_30 (lxB hL0) (lx2 hL0) (lxN hL0) (Or.inr ⟨_, ct_4_6⟩) (lxR6 hL0) ?_
    refine JT_iload (q := 0) dX4_tryWrite_78 rfl ?_
    refine JT_dup2 dX4_tryWrite_80 rfl rfl ?_
    obtain ⟨o8, h⟩ := h
    refine JS_iald dX4_tryWrite_81 (lxB7 hL0) (lx2k hL0 _) (lxNk hL0 (Nat.le_of_ble_eq_true rfl)) o8 ?_
    refine JT_aload_n (q := 3) dX4_tryWrite_82 rfl rfl ?_
    refine JS_getR (x := P0) dX4_tryWrite_83 flX4_45 (lxB hL0) (lx2 hL0) (lxN hL0) (Or.inl ⟨_, ct_4_8⟩) (lxR8 hL0) ?_
    refine JS_getR (x := (P0 + 5)) dX4_tryWrite_86 flX4_128 (pxB (lxP hL0)) (px2 (lxP hL0)) (pxN (lxP hL0)) (Or.inr ⟨_, ct_6_4⟩) (pxR4 (lxP hL0)) ?_
    refine JT_iload (q := 7) dX4_tryWrite_89 rfl ?_
    obtain ⟨o9, h⟩ := h
    refine JS_iald dX4_tryWrite_91 (pxB5 (lxP hL0)) (px2k (lxP hL0) _) (pxNk (lxP hL0) (Nat.le_of_ble_eq_true rfl)) o9 ?_
    refine JT_isub dX4_tryWrite_92 ?_
    obtain ⟨o10, h⟩ := h
    refine JS_iast dX4_tryWrite_93 (lxB7 hL0) (lx2k hL0 _) (lxNk hL0 (Nat.le_of_ble_eq_true rfl)) o10 ?_
    obtain ⟨s11, hs11⟩ : ∃ z, z = (pI s7 (L0 + 7) ((vX4_debtBearerFor (mX4_wrongToWrite s L0 P0 a1 a2 a4) L0 P0 a2 (gI (mX4_wrongToWrite s L0 P0 a1 a2 a4) (P0 + 5) (a4).toNatClampNeg) (vX4_bearerFor (mX4_wrongToWrite s L0 P0 a1 a2 a4) L0 P0 a1 (gI (mX4_wrongToWrite s L0 P0 a1 a2 a4) (P0 + 5) (a4).toNatClampNeg)))).toNatClampNeg ((gI s7 (L0 + 7) ((vX4_debtBearerFor (mX4_wrongToWrite s L0 P0 a1 a2 a4) L0 P0 a2 (gI (mX4_wrongToWrite s L0 P0 a1 a2 a4) (P0 + 5) (a4).toNatClampNeg) (vX4_bearerFor (mX4_wrongToWrite s L0 P0 a1 a2 a4) L0 P0 a1 (gI (mX4_wrongToWrite s L0 P0 a1 a2 a4) (P0 + 5) (a4).toNatClampNeg)))).toNatClampNeg) - (gI s7 (P0 + 5) (a4).toNatClampNeg))) := ⟨_, rfl⟩
    replace h := h s11 hs11
    rw [← hs11]
    refine JT_aload_n (q := 3) dX4_tryWrite_94 rfl rfl ?_
    refine JS_getR (x := (L0 + 1)) dX4_tryWrite_95 flX4_9 (lxB hL0) (lx2 hL0) (lxN hL0) (Or.inr ⟨_, ct_4_0⟩) (lxR0 hL0) ?_
    refine JT_aload_n (q := 3) dX4_tryWrite_98 rfl rfl ?_
    refine JS_getI dX4_tryWrite_99 flX4_49 (lxB hL0) (lx2 hL0) (lxN hL0) (Or.inl ct_4_9) ?_
    refine JT_iload_n (q := 4) dX4_tryWrite_102 rfl rfl ?_
    obtain ⟨o12, h⟩ := h
    refine JS_iast dX4_tryWrite_103 (lxB1 hL0) (lx2k hL0 _) (lxNk hL0 (Nat.le_of_ble_eq_true rfl)) o12 ?_
    refine JT_aload_n (q := 3) dX4_tryWrite_104 rfl rfl ?_
    refine JS_getR (x := (L0 + 2)) dX4_tryWrite_105 flX4_15 (lxB hL0) (lx2 hL0) (lxN hL0) (Or.inr ⟨_, ct_4_1⟩) (lxR1 hL0) ?_
    refine JT_aload_n (q := 3) dX4_tryWrite_108 rfl rfl ?_
    refine JS_getI dX4_tryWrite_109 flX4_49 (lxB hL0) (lx2 hL0) (lxN hL0) (Or.inl ct_4_9) ?_
    refine JT_iload_n (q := 5) dX4_tryWrite_112 rfl rfl ?_
    obtain ⟨o13, h⟩ := h
    refine JS_iast dX4_tryWrite_113 (lxB2 hL0) (lx2k hL0 _) (lxNk hL0 (Nat.le_of_ble_eq_true rfl)) o13 ?_
    obtain ⟨s14, hs14⟩ : ∃ z, z = (pI (pI s11 (L0 + 1) ((gI s11 L0 9)).toNatClampNeg a1) (L0 + 2) ((gI (pI s11 (L0 + 1) ((gI s11 L0 9)).toNatClampNeg a1) L0 9)).toNatClampNeg a2) := ⟨_, rfl⟩
    replace h := h s14 hs14
    rw [← hs14]
    refine JT_aload_n (q := 3) dX4_tryWrite_114 rfl rfl ?_
    refine JS_getR (x := (L0 + 3)) dX4_tryWrite_115 flX4_18 (lxB hL0) (lx2 hL0) (lxN hL0) (Or.inr ⟨_, ct_4_2⟩) (lxR2 hL0) ?_
    refine JT_aload_n (q := 3) dX4_tryWrite_118 rfl rfl ?_
    refine JS_getI dX4_tryWrite_119 flX4_49 (lxB hL0) (lx2 hL0) (lxN hL0) (Or.inl ct_4_9) ?_
    refine JT_iload_n (q := 6) dX4_tryWrite_122 rfl rfl ?_
    obtain ⟨o15, h⟩ := h
    refine JS_iast dX4_tryWrite_123 (lxB3 hL0) (lx2k hL0 _) (lxNk hL0 (Nat.le_of_ble_eq_true rfl)) o15 ?_
    refine JT_aload_n (q := 3) dX4_tryWrite_124 rfl rfl ?_
    refine JS_getR (x := (L0 + 4)) dX4_tryWrite_125 flX4_21 (lxB hL0) (lx2 hL0) (lxN hL0) (Or.inr ⟨_, ct_4_3⟩) (lxR3 hL0) ?_
    refine JT_aload_n (q := 3) dX4_tryWrite_128 rfl rfl ?_
    refine JS_getI dX4_tryWrite_129 flX4_49 (lxB hL0) (lx2 hL0) (lxN hL0) (Or.inl ct_4_9) ?_
    refine JT_iload (q := 7) dX4_tryWrite_132 rfl ?_
    obtain ⟨o16, h⟩ := h
    refine JS_iast dX4_tryWrite_134 (lxB4 hL0) (lx2k hL0 _) (lxNk hL0 (Nat.le_of_ble_eq_true rfl)) o16 ?_
    obtain ⟨s17, hs17⟩ : ∃ z, z = (pI (pI s14 (L0 + 3) ((gI s14 L0 9)).toNatClampNeg a3) (L0 + 4) ((gI (pI s14 (L0 + 3) ((gI s14 L0 9)).toNatClampNeg a3) L0 9)).toNatClampNeg a4) := ⟨_, rfl⟩
    replace h := h s17 hs17
    rw [← hs17]
    refine JT_aload_n (q := 3) dX4_tryWrite_135 rfl rfl ?_
    refine JS_getR (x := (L0 + 5)) dX4_tryWrite_136 flX4_24 (lxB hL0) (lx2 hL0) (lxN hL0) (Or.inr ⟨_, ct_4_4⟩) (lxR4 hL0) ?_
    refine JT_aload_n (q := 3) dX4_tryWrite_139 rfl rfl ?_
    refine JS_getI dX4_tryWrite_140 flX4_49 (lxB hL0) (lx2 hL0) (lxN hL0) (Or.inl ct_4_9) ?_
    refine JT_aload_n (q := 3) dX4_tryWrite_143 rfl rfl ?_
    refine JS_getI dX4_tryWrite_144 flX4_53 (lxB hL0) (lx2 hL0) (lxN hL0) (Or.inl ct_4_10) ?_
    obtain ⟨o18, h⟩ := h
    refine JS_iast dX4_tryWrite_147 (lxB5 hL0) (lx2k hL0 _) (lxNk hL0 (Nat.le_of_ble_eq_true rfl)) o18 ?_
    refine JT_aload_n (q := 3) dX4_tryWrite_148 rfl rfl ?_
    refine JS_getR (x := (L0 + 6)) dX4_tryWrite_149 flX4_27 (lxB hL0) (lx2 hL0) (lxN hL0) (Or.inr ⟨_, ct_4_5⟩) (lxR5 hL0) ?_
    refine JT_aload_n (q := 3) dX4_tryWrite_152 rfl rfl ?_
    refine JS_getI dX4_tryWrite_153 flX4_49 (lxB hL0) (lx2 hL0) (lxN hL0) (Or.inl ct_4_9) ?_
    refine JT_iconst (v := 0) dX4_tryWrite_156 ic_0 ?_
    obtain ⟨o19, h⟩ := h
    refine JS_iast dX4_tryWrite_157 (lxB6 hL0) (lx2k hL0 _) (lxNk hL0 (Nat.le_of_ble_eq_true rfl)) o19 ?_
    obtain ⟨s20, hs20⟩ : ∃ z, z = (pI (pI s17 (L0 + 5) ((gI s17 L0 9)).toNatClampNeg (gI s17 L0 10)) (L0 + 6) ((gI (pI s17 (L0 + 5) ((gI s17 L0 9)).toNatClampNeg (gI s17 L0 10)) L0 9)).toNatClampNeg (0 : Int32)) := ⟨_, rfl⟩
    replace h := h s20 hs20
    rw [← hs20]
    refine JT_aload_n (q := 3) dX4_tryWrite_158 rfl rfl ?_
    refine JS_getR (x := (L0 + 9)) dX4_tryWrite_159 flX4_36 (lxB hL0) (lx2 hL0) (lxN hL0) (Or.inr ⟨_, ct_4_11⟩) (lxR11 hL0) ?_
    refine JT_aload_n (q := 3) dX4_tryWrite_162 rfl rfl ?_
    refine JS_getI dX4_tryWrite_163 flX4_49 (lxB hL0) (lx2 hL0) (lxN hL0) (Or.inl ct_4_9) ?_
    refine JT_iload (q := 1) dX4_tryWrite_166 rfl ?_
    obtain ⟨o21, h⟩ := h
    refine JS_iast dX4_tryWrite_168 (lxB9 hL0) (lx2k hL0 _) (lxNk hL0 (Nat.le_of_ble_eq_true rfl)) o21 ?_
    obtain ⟨s22, hs22⟩ : ∃ z, z = (pI s20 (L0 + 9) ((gI s20 L0 9)).toNatClampNeg (vX4_bearerFor (mX4_wrongToWrite s L0 P0 a1 a2 a4) L0 P0 a1 (gI (mX4_wrongToWrite s L0 P0 a1 a2 a4) (P0 + 5) (a4).toNatClampNeg))) := ⟨_, rfl⟩
    replace h := h s22 hs22
    rw [← hs22]
    refine JT_aload_n (q := 3) dX4_tryWrite_169 rfl rfl ?_
    refine JS_getR (x := (L0 + 10)) dX4_tryWrite_170 flX4_39 (lxB hL0) (lx2 hL0) (lxN hL0) (Or.inr ⟨_, ct_4_12⟩) (lxR12 hL0) ?_
    refine JT_aload_n (q := 3) dX4_tryWrite_173 rfl rfl ?_
    refine JS_getI dX4_tryWrite_174 flX4_49 (lxB hL0) (lx2 hL0) (lxN hL0) (Or.inl ct_4_9) ?_
    refine JT_iload (q := 0) dX4_tryWrite_177 rfl ?_
    obtain ⟨o23, h⟩ := h
    refine JS_iast dX4_tryWrite_179 (lxB10 hL0) (lx2k hL0 _) (lxNk hL0 (Nat.le_of_ble_eq_true rfl)) o23 ?_
    obtain ⟨s24, hs24⟩ : ∃ z, z = (pI s22 (L0 + 10) ((gI s22 L0 9)).toNatClampNeg (vX4_debtBearerFor (mX4_wrongToWrite s L0 P0 a1 a2 a4) L0 P0 a2 (gI (mX4_wrongToWrite s L0 P0 a1 a2 a4) (P0 + 5) (a4).toNatClampNeg) (vX4_bearerFor (mX4_wrongToWrite s L0 P0 a1 a2 a4) L0 P0 a1 (gI (mX4_wrongToWrite s L0 P0 a1 a2 a4) (P0 + 5) (a4).toNatClampNeg)))) := ⟨_, rfl⟩
    replace h := h s24 hs24
    rw [← hs24]
    refine JT_aload_n (q := 3) dX4_tryWrite_180 rfl rfl ?_
    refine JS_getR (x := (L0 + 11)) dX4_tryWrite_181 flX4_42 (lxB hL0) (lx2 hL0) (lxN hL0) (Or.inr ⟨_, ct_4_13⟩) (lxR13 hL0) ?_
    refine JT_aload_n (q := 3) dX4_tryWrite_184 rfl rfl ?_
    refine JS_getI dX4_tryWrite_185 flX4_49 (lxB hL0) (lx2 hL0) (lxN hL0) (Or.inl ct_4_9) ?_
    refine JT_iconst (v := 0) dX4_tryWrite_188 ic_0 ?_
    obtain ⟨o25, h⟩ := h
    refine JS_iast dX4_tryWrite_189 (lxB11 hL0) (lx2k hL0 _) (lxNk hL0 (Nat.le_of_ble_eq_true rfl)) o25 ?_
    refine JT_aload_n (q := 3) dX4_tryWrite_190 rfl rfl ?_
    refine JT_dup dX4_tryWrite_191 rfl ?_
    refine JS_getI dX4_tryWrite_192 flX4_49 (lxB hL0) (lx2 hL0) (lxN hL0) (Or.inl ct_4_9) ?_
    refine JT_iconst (v := 1) dX4_tryWrite_195 ic_1 ?_
    refine JT_iadd dX4_tryWrite_196 ?_
    refine JS_putI dX4_tryWrite_197 flX4_49 (lxB hL0) (lx2 hL0) (lxN hL0) ct_4_9 ?_
    obtain ⟨s26, hs26⟩ : ∃ z, z = (pI (pI s24 (L0 + 11) ((gI s24 L0 9)).toNatClampNeg (0 : Int32)) L0 9 ((gI (pI s24 (L0 + 11) ((gI s24 L0 9)).toNatClampNeg (0 : Int32)) L0 9) + (1 : Int32))) := ⟨_, rfl⟩
    replace h := h s26 hs26
    rw [← hs26]
    refine JT_iconst (v := 0) dX4_tryWrite_200 ic_0 ?_
    exact JS_iret dX4_tryWrite_201 rfl rfl h
  · have h := h.2 hc29
    refine JT_iload (q := 0) dX4_tryWrite_15 rfl ?_
    exact JS_iret dX4_tryWrite_17 rfl rfl h
set_option maxRecDepth 20000 in
def vX4_tryWrite (s : SM) (L0 P0 : Nat) (a1 : Int32) (a2 : Int32) (a3 : Int32) (a4 : Int32) : Int32 := (if (vX4_wrongToWrite s L0 P0 a1 a2 a4) = 0 then (0 : Int32) else (vX4_wrongToWrite s L0 P0 a1 a2 a4))
set_option maxRecDepth 20000 in
def mX4_tryWrite (s : SM) (L0 P0 : Nat) (a1 : Int32) (a2 : Int32) (a3 : Int32) (a4 : Int32) : SM := (if (vX4_wrongToWrite s L0 P0 a1 a2 a4) = 0 then ((fun (s3 : SM) => ((fun (s7 : SM) => ((fun (s11 : SM) => ((fun (s14 : SM) => ((fun (s17 : SM) => ((fun (s20 : SM) => ((fun (s22 : SM) => ((fun (s24 : SM) => ((fun (s26 : SM) => s26) (pI (pI s24 (L0 + 11) ((gI s24 L0 9)).toNatClampNeg (0 : Int32)) L0 9 ((gI (pI s24 (L0 + 11) ((gI s24 L0 9)).toNatClampNeg (0 : Int32)) L0 9) + (1 : Int32))))) (pI s22 (L0 + 10) ((gI s22 L0 9)).toNatClampNeg (vX4_debtBearerFor (mX4_wrongToWrite s L0 P0 a1 a2 a4) L0 P0 a2 (gI (mX4_wrongToWrite s L0 P0 a1 a2 a4) (P0 + 5) (a4).toNatClampNeg) (vX4_bearerFor (mX4_wrongToWrite s L0 P0 a1 a2 a4) L0 P0 a1 (gI (mX4_wrongToWrite s L0 P0 a1 a2 a4) (P0 + 5) (a4).toNatClampNeg)))))) (pI s20 (L0 + 9) ((gI s20 L0 9)).toNatClampNeg (vX4_bearerFor (mX4_wrongToWrite s L0 P0 a1 a2 a4) L0 P0 a1 (gI (mX4_wrongToWrite s L0 P0 a1 a2 a4) (P0 + 5) (a4).toNatClampNeg))))) (pI (pI s17 (L0 + 5) ((gI s17 L0 9)).toNatClampNeg (gI s17 L0 10)) (L0 + 6) ((gI (pI s17 (L0 + 5) ((gI s17 L0 9)).toNatClampNeg (gI s17 L0 10)) L0 9)).toNatClampNeg (0 : Int32)))) (pI (pI s14 (L0 + 3) ((gI s14 L0 9)).toNatClampNeg a3) (L0 + 4) ((gI (pI s14 (L0 + 3) ((gI s14 L0 9)).toNatClampNeg a3) L0 9)).toNatClampNeg a4))) (pI (pI s11 (L0 + 1) ((gI s11 L0 9)).toNatClampNeg a1) (L0 + 2) ((gI (pI s11 (L0 + 1) ((gI s11 L0 9)).toNatClampNeg a1) L0 9)).toNatClampNeg a2))) (pI s7 (L0 + 7) ((vX4_debtBearerFor (mX4_wrongToWrite s L0 P0 a1 a2 a4) L0 P0 a2 (gI (mX4_wrongToWrite s L0 P0 a1 a2 a4) (P0 + 5) (a4).toNatClampNeg) (vX4_bearerFor (mX4_wrongToWrite s L0 P0 a1 a2 a4) L0 P0 a1 (gI (mX4_wrongToWrite s L0 P0 a1 a2 a4) (P0 + 5) (a4).toNatClampNeg)))).toNatClampNeg ((gI s7 (L0 + 7) ((vX4_debtBearerFor (mX4_wrongToWrite s L0 P0 a1 a2 a4) L0 P0 a2 (gI (mX4_wrongToWrite s L0 P0 a1 a2 a4) (P0 + 5) (a4).toNatClampNeg) (vX4_bearerFor (mX4_wrongToWrite s L0 P0 a1 a2 a4) L0 P0 a1 (gI (mX4_wrongToWrite s L0 P0 a1 a2 a4) (P0 + 5) (a4).toNatClampNeg)))).toNatClampNeg) - (gI s7 (P0 + 5) (a4).toNatClampNeg))))) (pI s3 (L0 + 7) ((vX4_bearerFor (mX4_wrongToWrite s L0 P0 a1 a2 a4) L0 P0 a1 (gI (mX4_wrongToWrite s L0 P0 a1 a2 a4) (P0 + 5) (a4).toNatClampNeg))).toNatClampNeg ((gI s3 (L0 + 7) ((vX4_bearerFor (mX4_wrongToWrite s L0 P0 a1 a2 a4) L0 P0 a1 (gI (mX4_wrongToWrite s L0 P0 a1 a2 a4) (P0 + 5) (a4).toNatClampNeg))).toNatClampNeg) - (gI s3 (P0 + 5) (a4).toNatClampNeg))))) (mX4_debtBearerFor (mX4_wrongToWrite s L0 P0 a1 a2 a4) L0 P0 a2 (gI (mX4_wrongToWrite s L0 P0 a1 a2 a4) (P0 + 5) (a4).toNatClampNeg) (vX4_bearerFor (mX4_wrongToWrite s L0 P0 a1 a2 a4) L0 P0 a1 (gI (mX4_wrongToWrite s L0 P0 a1 a2 a4) (P0 + 5) (a4).toNatClampNeg)))) else (mX4_wrongToWrite s L0 P0 a1 a2 a4))
set_option maxRecDepth 20000 in
def rX4_tryWrite (s : SM) (L0 P0 : Nat) (a1 : Int32) (a2 : Int32) (a3 : Int32) (a4 : Int32) : Prop := rX4_wrongToWrite s L0 P0 a1 a2 a4 ∧ ((vX4_wrongToWrite s L0 P0 a1 a2 a4) = 0 → vp_in a4 6 ∧ rX4_bearerFor (mX4_wrongToWrite s L0 P0 a1 a2 a4) L0 P0 a1 (gI (mX4_wrongToWrite s L0 P0 a1 a2 a4) (P0 + 5) (a4).toNatClampNeg) ∧ vp_in a4 6 ∧ rX4_debtBearerFor (mX4_wrongToWrite s L0 P0 a1 a2 a4) L0 P0 a2 (gI (mX4_wrongToWrite s L0 P0 a1 a2 a4) (P0 + 5) (a4).toNatClampNeg) (vX4_bearerFor (mX4_wrongToWrite s L0 P0 a1 a2 a4) L0 P0 a1 (gI (mX4_wrongToWrite s L0 P0 a1 a2 a4) (P0 + 5) (a4).toNatClampNeg)) ∧ (∀ s3, s3 = (mX4_debtBearerFor (mX4_wrongToWrite s L0 P0 a1 a2 a4) L0 P0 a2 (gI (mX4_wrongToWrite s L0 P0 a1 a2 a4) (P0 + 5) (a4).toNatClampNeg) (vX4_bearerFor (mX4_wrongToWrite s L0 P0 a1 a2 a4) L0 P0 a1 (gI (mX4_wrongToWrite s L0 P0 a1 a2 a4) (P0 + 5) (a4).toNatClampNeg))) → vp_in (vX4_bearerFor (mX4_wrongToWrite s L0 P0 a1 a2 a4) L0 P0 a1 (gI (mX4_wrongToWrite s L0 P0 a1 a2 a4) (P0 + 5) (a4).toNatClampNeg)) 9 ∧ vp_in a4 6 ∧ vp_in (vX4_bearerFor (mX4_wrongToWrite s L0 P0 a1 a2 a4) L0 P0 a1 (gI (mX4_wrongToWrite s L0 P0 a1 a2 a4) (P0 + 5) (a4).toNatClampNeg)) 9 ∧ (∀ s7, s7 = (pI s3 (L0 + 7) ((vX4_bearerFor (mX4_wrongToWrite s L0 P0 a1 a2 a4) L0 P0 a1 (gI (mX4_wrongToWrite s L0 P0 a1 a2 a4) (P0 + 5) (a4).toNatClampNeg))).toNatClampNeg ((gI s3 (L0 + 7) ((vX4_bearerFor (mX4_wrongToWrite s L0 P0 a1 a2 a4) L0 P0 a1 (gI (mX4_wrongToWrite s L0 P0 a1 a2 a4) (P0 + 5) (a4).toNatClampNeg))).toNatClampNeg) - (gI s3 (P0 + 5) (a4).toNatClampNeg))) → vp_in (vX4_debtBearerFor (mX4_wrongToWrite s L0 P0 a1 a2 a4) L0 P0 a2 (gI (mX4_wrongToWrite s L0 P0 a1 a2 a4) (P0 + 5) (a4).toNatClampNeg) (vX4_bearerFor (mX4_wrongToWrite s L0 P0 a1 a2 a4) L0 P0 a1 (gI (mX4_wrongToWrite s L0 P0 a1 a2 a4) (P0 + 5) (a4).toNatClampNeg))) 9 ∧ vp_in a4 6 ∧ vp_in (vX4_debtBearerFor (mX4_wrongToWrite s L0 P0 a1 a2 a4) L0 P0 a2 (gI (mX4_wrongToWrite s L0 P0 a1 a2 a4) (P0 + 5) (a4).toNatClampNeg) (vX4_bearerFor (mX4_wrongToWrite s L0 P0 a1 a2 a4) L0 P0 a1 (gI (mX4_wrongToWrite s L0 P0 a1 a2 a4) (P0 + 5) (a4).toNatClampNeg))) 9 ∧ (∀ s11, s11 = (pI s7 (L0 + 7) ((vX4_debtBearerFor (mX4_wrongToWrite s L0 P0 a1 a2 a4) L0 P0 a2 (gI (mX4_wrongToWrite s L0 P0 a1 a2 a4) (P0 + 5) (a4).toNatClampNeg) (vX4_bearerFor (mX4_wrongToWrite s L0 P0 a1 a2 a4) L0 P0 a1 (gI (mX4_wrongToWrite s L0 P0 a1 a2 a4) (P0 + 5) (a4).toNatClampNeg)))).toNatClampNeg ((gI s7 (L0 + 7) ((vX4_debtBearerFor (mX4_wrongToWrite s L0 P0 a1 a2 a4) L0 P0 a2 (gI (mX4_wrongToWrite s L0 P0 a1 a2 a4) (P0 + 5) (a4).toNatClampNeg) (vX4_bearerFor (mX4_wrongToWrite s L0 P0 a1 a2 a4) L0 P0 a1 (gI (mX4_wrongToWrite s L0 P0 a1 a2 a4) (P0 + 5) (a4).toNatClampNeg)))).toNatClampNeg) - (gI s7 (P0 + 5) (a4).toNatClampNeg))) → vp_in (gI s11 L0 9) 60 ∧ vp_in (gI (pI s11 (L0 + 1) ((gI s11 L0 9)).toNatClampNeg a1) L0 9) 60 ∧ (∀ s14, s14 = (pI (pI s11 (L0 + 1) ((gI s11 L0 9)).toNatClampNeg a1) (L0 + 2) ((gI (pI s11 (L0 + 1) ((gI s11 L0 9)).toNatClampNeg a1) L0 9)).toNatClampNeg a2) → vp_in (gI s14 L0 9) 60 ∧ vp_in (gI (pI s14 (L0 + 3) ((gI s14 L0 9)).toNatClampNeg a3) L0 9) 60 ∧ (∀ s17, s17 = (pI (pI s14 (L0 + 3) ((gI s14 L0 9)).toNatClampNeg a3) (L0 + 4) ((gI (pI s14 (L0 + 3) ((gI s14 L0 9)).toNatClampNeg a3) L0 9)).toNatClampNeg a4) → vp_in (gI s17 L0 9) 60 ∧ vp_in (gI (pI s17 (L0 + 5) ((gI s17 L0 9)).toNatClampNeg (gI s17 L0 10)) L0 9) 60 ∧ (∀ s20, s20 = (pI (pI s17 (L0 + 5) ((gI s17 L0 9)).toNatClampNeg (gI s17 L0 10)) (L0 + 6) ((gI (pI s17 (L0 + 5) ((gI s17 L0 9)).toNatClampNeg (gI s17 L0 10)) L0 9)).toNatClampNeg (0 : Int32)) → vp_in (gI s20 L0 9) 60 ∧ (∀ s22, s22 = (pI s20 (L0 + 9) ((gI s20 L0 9)).toNatClampNeg (vX4_bearerFor (mX4_wrongToWrite s L0 P0 a1 a2 a4) L0 P0 a1 (gI (mX4_wrongToWrite s L0 P0 a1 a2 a4) (P0 + 5) (a4).toNatClampNeg))) → vp_in (gI s22 L0 9) 60 ∧ (∀ s24, s24 = (pI s22 (L0 + 10) ((gI s22 L0 9)).toNatClampNeg (vX4_debtBearerFor (mX4_wrongToWrite s L0 P0 a1 a2 a4) L0 P0 a2 (gI (mX4_wrongToWrite s L0 P0 a1 a2 a4) (P0 + 5) (a4).toNatClampNeg) (vX4_bearerFor (mX4_wrongToWrite s L0 P0 a1 a2 a4) L0 P0 a1 (gI (mX4_wrongToWrite s L0 P0 a1 a2 a4) (P0 + 5) (a4).toNatClampNeg)))) → vp_in (gI s24 L0 9) 60)))))))))
set_option maxRecDepth 20000 in
theorem pX4_tryWrite {L0 P0 : Nat} (hL0 : (L0, P0) ∈ LX) (a1 : Int32) (a2 : Int32) (a3 : Int32) (a4 : Int32) {s : SM} {Q : Int32 → SM → Prop} (hr : rX4_tryWrite s L0 P0 a1 a2 a3 a4) (h : Q (vX4_tryWrite s L0 P0 a1 a2 a3 a4) (mX4_tryWrite s L0 P0 a1 a2 a3 a4)) : KI MX4_tryWrite 4 [.ref L0, .int a1, .int a2, .int a3, .int a4] s Q := by
  refine bX4_tryWrite hL0 a1 a2 a3 a4 ?_
  unfold rX4_tryWrite at hr
  unfold vX4_tryWrite mX4_tryWrite at h
  refine ⟨hr.1, ?_⟩
  replace hr := hr.2
  refine ⟨fun c => ?_, fun c => ?_⟩
  · replace hr := hr c
    try simp only [if_pos c] at h
    refine ⟨hr.1, ?_⟩
    replace hr := hr.2
    refine ⟨hr.1, ?_⟩
    replace hr := hr.2
    refine ⟨hr.1, ?_⟩
    replace hr := hr.2
    refine ⟨hr.1, ?_⟩
    replace hr := hr.2
    intro s3 e9
    replace hr := hr s3 e9
    subst e9
    refine ⟨hr.1, ?_⟩
    replace hr := hr.2
    refine ⟨hr.1, ?_⟩
    replace hr := hr.2
    refine ⟨hr.1, ?_⟩
    replace hr := hr.2
    intro s7 e9
    replace hr := hr s7 e9
    subst e9
    refine ⟨hr.1, ?_⟩
    replace hr := hr.2
    refine ⟨hr.1, ?_⟩
    replace hr := hr.2
    refine ⟨hr.1, ?_⟩
    replace hr := hr.2
    intro s11 e9
    replace hr := hr s11 e9
    subst e9
    refine ⟨hr.1, ?_⟩
    replace hr := hr.2
    refine ⟨hr.1, ?_⟩
    replace hr := hr.2
    intro s14 e9
    replace hr := hr s14 e9
    subst e9
    refine ⟨hr.1, ?_⟩
    replace hr := hr.2
    refine ⟨hr.1, ?_⟩
    replace hr := hr.2
    intro s17 e9
    replace hr := hr s17 e9
    subst e9
    refine ⟨hr.1, ?_⟩
    replace hr := hr.2
    refine ⟨hr.1, ?_⟩
    replace hr := hr.2
    intro s20 e9
    replace hr := hr s20 e9
    subst e9
    refine ⟨hr.1, ?_⟩
    replace hr := hr.2
    intro s22 e9
    replace hr := hr s22 e9
    subst e9
    refine ⟨hr.1, ?_⟩
    replace hr := hr.2
    intro s24 e9
    replace hr := hr s24 e9
    subst e9
    refine ⟨hr, ?_⟩
    intro s26 e9
    subst e9
    first | exact h | contradiction
  · try simp only [if_neg c] at h
    first | exact h | contradiction
set_option maxRecDepth 20000 in
theorem bX6_readBody_114 {p0 : Nat} (hp0 : p0 ∈ PX) {s : SM} {Q : Int32 → SM → Prop} (h : Q (vX9_isStop (pI s p0 6 ((gI s p0 6) + (1 : Int32))) ) (mX9_isStop (pI s p0 6 ((gI s p0 6) + (1 : Int32))) )) : BI MX6_readBody 4 114 [(0, .ref p0), (1, .ref 3)] s Q := by
  refine JT_aload_n (q := 0) dX6_readBody_114 rfl rfl ?_
  refine JT_dup dX6_readBody_115 rfl ?_
  refine JS_getI dX6_readBody_116 flX6_35 (pxB hp0) (px2 hp0) (pxN hp0) (Or.inl ct_6_6) ?_
  refine JT_iconst (v := 1) dX6_readBody_119 ic_1 ?_
  refine JT_iadd dX6_readBody_120 ?_
  refine JS_putI dX6_readBody_121 flX6_35 (pxB hp0) (px2 hp0) (pxN hp0) ct_6_6 ?_
  refine JT_aload_n (q := 1) dX6_readBody_124 rfl rfl ?_
  refine JS_callVI (M' := MX9_isStop) (d' := 1) (As := []) (rest := []) (P := (fun zv9 wm9 => (vX9_isStop (pI s p0 6 ((gI s p0 6) + (1 : Int32))) ) = zv9 ∧ (mX9_isStop (pI s p0 6 ((gI s p0 6) + (1 : Int32))) ) = wm9)) dX6_readBody_125 cvX6_148 okX9_isStop rfl (Nat.le_of_ble_eq_true rfl) BS_3 (Nat.le_of_ble_eq_true rfl) (Nat.le_of_ble_eq_true rfl) hci_9 (Nat.le_of_ble_eq_true rfl) (Nat.le_of_ble_eq_true rfl) (pX9_isStop    ⟨rfl, rfl⟩) (fun zv9 wm9 hq9 => ?_)
  obtain ⟨rfl, rfl⟩ := hq9
  exact JS_iret dX6_readBody_128 rfl (n01 (zX9_isStop (pI s p0 6 ((gI s p0 6) + (1 : Int32))) )) h
set_option maxRecDepth 20000 in
theorem bX6_readBody {p0 : Nat} (hp0 : p0 ∈ PX) {s : SM} {Q : Int32 → SM → Prop} (h : (((gI s p0 6) < (9 : Int32) → KI MX9_takeNewName 3 [.ref 3, .ref p0] s (fun x2 s1 => ((¬ x2 = 0 → vp_in (gI s1 p0 6) 9 ∧ KI MX9_takeNumber 3 [.ref 3, .int (1 : Int32), .int (99 : Int32)] (pL s1 (p0 + 1) ((gI s1 p0 6)).toNatClampNeg (gL s1 3 4)) (fun x5 s4 => ((¬ x5 = 0 → vp_in (gI s4 p0 6) 9 ∧ vp_in (gI (pI s4 (p0 + 2) ((gI s4 p0 6)).toNatClampNeg (gI s4 3 5)) p0 6) 9 ∧ (∀ s8, s8 = (pI (pI s4 (p0 + 2) ((gI s4 p0 6)).toNatClampNeg (gI s4 3 5)) (p0 + 3) ((gI (pI s4 (p0 + 2) ((gI s4 p0 6)).toNatClampNeg (gI s4 3 5)) p0 6)).toNatClampNeg (-1 : Int32)) → KV MX9_nextToken 2 [.ref 3] s8 (fun s9 => (((vX9_says s9 (7039342 : Int64)) = 0 → BI MX6_readBody 4 114 [(0, .ref p0), (1, .ref 3)] s9 Q) ∧ (¬ (vX9_says s9 (7039342 : Int64)) = 0 → KI MX9_takeBody 3 [.ref 3, .ref p0] s9 (fun x12 s11 => ((¬ x12 = 0 → vp_in (gI s11 p0 6) 9 ∧ KV MX9_nextToken 2 [.ref 3] (pI s11 (p0 + 3) ((gI s11 p0 6)).toNatClampNeg (gI s11 3 6)) (fun s14 => BI MX6_readBody 4 114 [(0, .ref p0), (1, .ref 3)] s14 Q)) ∧ (x12 = 0 → Q (0 : Int32) s11)))))))) ∧ (x5 = 0 → Q (0 : Int32) s4)))) ∧ (x2 = 0 → Q (0 : Int32) s1)))) ∧ (¬ (gI s p0 6) < (9 : Int32) → Q (vX9_refuse s (4 : Int32)) (mX9_refuse s (4 : Int32))))) : KI MX6_readBody 4 [.ref p0, .ref 3] s Q := by
  show BI MX6_readBody 4 0 [(0, .ref p0), (1, .ref 3)] s Q
  refine JT_aload_n (q := 0) dX6_readBody_0 rfl rfl ?_
  refine JS_getI dX6_readBody_1 flX6_35 (pxB hp0) (px2 hp0) (pxN hp0) (Or.inl ct_6_6) ?_
  refine JT_bipush (v := 9) dX6_readBody_4 bp_9 ?_
  refine JT_icmp_lt (tgt := 15) dX6_readBody_6 (by decide) (fun hc22 => ?_) (fun hc22 => ?_)
  · have h := h.1 hc22
    refine JT_aload_n (q := 1) dX6_readBody_15 rfl rfl ?_
    refine JT_aload_n (q := 0) dX6_readBody_16 rfl rfl ?_
    refine JS_callVI (M' := MX9_takeNewName) (d' := 3) (As := [.ref p0]) (rest := []) dX6_readBody_17 cvX6_125 okX9_takeNewName rfl (Nat.le_of_ble_eq_true rfl) BS_3 (Nat.le_of_ble_eq_true rfl) (Nat.le_of_ble_eq_true rfl) hci_9 (Nat.le_of_ble_eq_true rfl) (Nat.le_of_ble_eq_true rfl) h (fun x2 s1 h => ?_)
    refine JT_if_ne (tgt := 25) dX6_readBody_20 (by decide) (fun hc20 => ?_) (fun hc20 => ?_)
    · have h := h.1 hc20
      refine JT_aload_n (q := 0) dX6_readBody_25 rfl rfl ?_
      refine JS_getR (x := (p0 + 1)) dX6_readBody_26 flX6_9 (pxB hp0) (px2 hp0) (pxN hp0) (Or.inr ⟨_, ct_6_0⟩) (pxR0 hp0) ?_
      refine JT_aload_n (q := 0) dX6_readBody_29 rfl rfl ?_
      refine JS_getI dX6_readBody_30 flX6_35 (pxB hp0) (px2 hp0) (pxN hp0) (Or.inl ct_6_6) ?_
      refine JT_aload_n (q := 1) dX6_readBody_33 rfl rfl ?_
      refine JS_getL dX6_readBody_34 flX6_129 BS_3 (Nat.le_of_ble_eq_true rfl) (Nat.le_of_ble_eq_true rfl) ct_9_4 ?_
      obtain ⟨o3, h⟩ := h
      refine JS_last dX6_readBody_37 (pxB1 hp0) (px2k hp0 _) (pxNk hp0 (Nat.le_of_ble_eq_true rfl)) o3 ?_
      refine JT_aload_n (q := 1) dX6_readBody_38 rfl rfl ?_
      refine JT_iconst (v := 1) dX6_readBody_39 ic_1 ?_
      refine JT_bipush (v := 99) dX6_readBody_40 bp_99 ?_
      refine JS_callVI (M' := MX9_takeNumber) (d' := 3) (As := [.int (1 : Int32), .int (99 : Int32)]) (rest := []) dX6_readBody_42 cvX6_133 okX9_takeNumber rfl (Nat.le_of_ble_eq_true rfl) BS_3 (Nat.le_of_ble_eq_true rfl) (Nat.le_of_ble_eq_true rfl) hci_9 (Nat.le_of_ble_eq_true rfl) (Nat.le_of_ble_eq_true rfl) h (fun x5 s4 h => ?_)
      refine JT_if_ne (tgt := 50) dX6_readBody_45 (by decide) (fun hc19 => ?_) (fun hc19 => ?_)
      · have h := h.1 hc19
        refine JT_aload_n (q := 0) dX6_readBody_50 rfl rfl ?_
        refine JS_getR (x := (p0 + 2)) dX6_readBody_51 flX6_15 (pxB hp0) (px2 hp0) (pxN hp0) (Or.inr ⟨_, ct_6_1⟩) (pxR1 hp0) ?_
        refine JT_aload_n (q := 0) dX6_readBody_54 rfl rfl ?_
        refine JS_getI dX6_readBody_55 flX6_35 (pxB hp0) (px2 hp0) (pxN hp0) (Or.inl ct_6_6) ?_
        refine JT_aload_n (q := 1) dX6_readBody_58 rfl rfl ?_
        refine JS_getI dX6_readBody_59 flX6_137 BS_3 (Nat.le_of_ble_eq_true rfl) (Nat.le_of_ble_eq_true rfl) (Or.inl ct_9_5) ?_
        obtain ⟨o6, h⟩ := h
        refine JS_iast dX6_readBody_62 (pxB2 hp0) (px2k hp0 _) (pxNk hp0 (Nat.le_of_ble_eq_true rfl)) o6 ?_
        refine JT_aload_n (q := 0) dX6_readBody_63 rfl rfl ?_
        refine JS_getR (x := (p0 + 3)) dX6_readBody_64 flX6_19 (pxB hp0) (px2 hp0) (pxN hp0) (Or.inr ⟨_, ct_6_2⟩) (pxR2 hp0) ?_
        refine JT_aload_n (q := 0) dX6_readBody_67 rfl rfl ?_
        refine JS_getI dX6_readBody_68 flX6_35 (pxB hp0) (px2 hp0) (pxN hp0) (Or.inl ct_6_6) ?_
        refine JT_iconst (v := -1) dX6_readBody_71 ic_m1 ?_
        obtain ⟨o7, h⟩ := h
        refine JS_iast dX6_readBody_72 (pxB3 hp0) (px2k hp0 _) (pxNk hp0 (Nat.le_of_ble_eq_true rfl)) o7 ?_
        obtain ⟨s8, hs8⟩ : ∃ z, z = (pI (pI s4 (p0 + 2) ((gI s4 p0 6)).toNatClampNeg (gI s4 3 5)) (p0 + 3) ((gI (pI s4 (p0 + 2) ((gI s4 p0 6)).toNatClampNeg (gI s4 3 5)) p0 6)).toNatClampNeg (-1 : Int32)) := ⟨_, rfl⟩
        replace h := h s8 hs8
        rw [← hs8]
        refine JT_aload_n (q := 1) dX6_readBody_73 rfl rfl ?_
        refine JS_callVV (M' := MX9_nextToken) (d' := 2) (As := []) (rest := []) dX6_readBody_74 cvX6_84 okX9_nextToken rfl (Nat.le_of_ble_eq_true rfl) BS_3 (Nat.le_of_ble_eq_true rfl) (Nat.le_of_ble_eq_true rfl) hci_9 (Nat.le_of_ble_eq_true rfl) (Nat.le_of_ble_eq_true rfl) h (fun s9 h => ?_)
        refine JT_aload_n (q := 1) dX6_readBody_77 rfl rfl ?_
        refine JT_ldc2 dX6_readBody_78 kwX6_140 ?_
        refine JS_callVI (M' := MX9_says) (d' := 0) (As := [.long (7039342 : Int64)]) (rest := []) (P := (fun zv9 wm9 => (vX9_says s9 (7039342 : Int64)) = zv9 ∧ s9 = wm9)) dX6_readBody_81 cvX6_100 okX9_says rfl (Nat.le_of_ble_eq_true rfl) BS_3 (Nat.le_of_ble_eq_true rfl) (Nat.le_of_ble_eq_true rfl) hci_9 (Nat.le_of_ble_eq_true rfl) (Nat.le_of_ble_eq_true rfl) (pX9_says  ((7039342 : Int64))  ⟨rfl, rfl⟩) (fun zv9 wm9 hq9 => ?_)
        obtain ⟨rfl, rfl⟩ := hq9
        refine JT_if_eq (tgt := 114) dX6_readBody_84 (by decide) (fun hc17 => ?_) (fun hc17 => ?_)
        · have h := h.1 hc17
          exact JT_sub [0, 1] rfl h
        · have h := h.2 hc17
          refine JT_aload_n (q := 1) dX6_readBody_87 rfl rfl ?_
          refine JT_aload_n (q := 0) dX6_readBody_88 rfl rfl ?_
          refine JS_callVI (M' := MX9_takeBody) (d' := 3) (As := [.ref p0]) (rest := []) dX6_readBody_89 cvX6_142 okX9_takeBody rfl (Nat.le_of_ble_eq_true rfl) BS_3 (Nat.le_of_ble_eq_true rfl) (Nat.le_of_ble_eq_true rfl) hci_9 (Nat.le_of_ble_eq_true rfl) (Nat.le_of_ble_eq_true rfl) h (fun x12 s11 h => ?_)
          refine JT_if_ne (tgt := 97) dX6_readBody_92 (by decide) (fun hc16 => ?_) (fun hc16 => ?_)
          · have h := h.1 hc16
            refine JT_aload_n (q := 0) dX6_readBody_97 rfl rfl ?_
            refine JS_getR (x := (p0 + 3)) dX6_readBody_98 flX6_19 (pxB hp0) (px2 hp0) (pxN hp0) (Or.inr ⟨_, ct_6_2⟩) (pxR2 hp0) ?_
            refine JT_aload_n (q := 0) dX6_readBody_101 rfl rfl ?_
            refine JS_getI dX6_readBody_102 flX6_35 (pxB hp0) (px2 hp0) (pxN hp0) (Or.inl ct_6_6) ?_
            refine JT_aload_n (q := 1) dX6_readBody_105 rfl rfl ?_
            refine JS_getI dX6_readBody_106 flX6_145 BS_3 (Nat.le_of_ble_eq_true rfl) (Nat.le_of_ble_eq_true rfl) (Or.inl ct_9_6) ?_
            obtain ⟨o13, h⟩ := h
            refine JS_iast dX6_readBody_109 (pxB3 hp0) (px2k hp0 _) (pxNk hp0 (Nat.le_of_ble_eq_true rfl)) o13 ?_
            refine JT_aload_n (q := 1) dX6_readBody_110 rfl rfl ?_
            refine JS_callVV (M' := MX9_nextToken) (d' := 2) (As := []) (rest := []) dX6_readBody_111 cvX6_84 okX9_nextToken rfl (Nat.le_of_ble_eq_true rfl) BS_3 (Nat.le_of_ble_eq_true rfl) (Nat.le_of_ble_eq_true rfl) hci_9 (Nat.le_of_ble_eq_true rfl) (Nat.le_of_ble_eq_true rfl) h (fun s14 h => ?_)
            exact JT_sub [0, 1] rfl h
          · have h := h.2 hc16
            refine JT_iconst (v := 0) dX6_readBody_95 ic_0 ?_
            exact JS_iret dX6_readBody_96 rfl (n01 (Or.inl rfl)) h
      · have h := h.2 hc19
        refine JT_iconst (v := 0) dX6_readBody_48 ic_0 ?_
        exact JS_iret dX6_readBody_49 rfl (n01 (Or.inl rfl)) h
    · have h := h.2 hc20
      refine JT_iconst (v := 0) dX6_readBody_23 ic_0 ?_
      exact JS_iret dX6_readBody_24 rfl (n01 (Or.inl rfl)) h
  · have h := h.2 hc22
    refine JT_aload_n (q := 1) dX6_readBody_9 rfl rfl ?_
    refine JT_iconst (v := 4) dX6_readBody_10 ic_4 ?_
    refine JS_callVI (M' := MX9_refuse) (d' := 0) (As := [.int (4 : Int32)]) (rest := []) (P := (fun zv9 wm9 => (vX9_refuse s (4 : Int32)) = zv9 ∧ (mX9_refuse s (4 : Int32)) = wm9)) dX6_readBody_11 cvX6_122 okX9_refuse rfl (Nat.le_of_ble_eq_true rfl) BS_3 (Nat.le_of_ble_eq_true rfl) (Nat.le_of_ble_eq_true rfl) hci_9 (Nat.le_of_ble_eq_true rfl) (Nat.le_of_ble_eq_true rfl) (pX9_refuse  ((4 : Int32))  ⟨rfl, rfl⟩) (fun zv9 wm9 hq9 => ?_)
    obtain ⟨rfl, rfl⟩ := hq9
    exact JS_iret dX6_readBody_14 rfl (n01 (zX9_refuse s (4 : Int32))) h
set_option maxRecDepth 20000 in
theorem bX6_readDotRoom {p0 : Nat} (hp0 : p0 ∈ PX) {s : SM} {Q : Int32 → SM → Prop} (h : (((gI s p0 13) = 0 → KI MX9_takeNumber 3 [.ref 3, .int (0 : Int32), .int (9 : Int32)] s (fun x2 s1 => ((¬ x2 = 0 → KI MX9_takeStop 3 [.ref 3] (pI (pI s1 p0 13 (1 : Int32)) p0 9 (gI (pI s1 p0 13 (1 : Int32)) 3 5)) (fun x4 s3 => (x4 = 0 ∨ x4 = 1) ∧ Q x4 s3)) ∧ (x2 = 0 → Q (0 : Int32) s1)))) ∧ (¬ (gI s p0 13) = 0 → Q (vX9_refuse s (3 : Int32)) (mX9_refuse s (3 : Int32))))) : KI MX6_readDotRoom 4 [.ref p0, .ref 3] s Q := by
  show BI MX6_readDotRoom 4 0 [(0, .ref p0), (1, .ref 3)] s Q
  refine JT_aload_n (q := 0) dX6_readDotRoom_0 rfl rfl ?_
  refine JS_getI dX6_readDotRoom_1 flX6_51 (pxB hp0) (px2 hp0) (pxN hp0) (Or.inr ct_6_13) ?_
  refine JT_if_eq (tgt := 13) dX6_readDotRoom_4 (by decide) (fun hc7 => ?_) (fun hc7 => ?_)
  · have h := h.1 hc7
    refine JT_aload_n (q := 1) dX6_readDotRoom_13 rfl rfl ?_
    refine JT_iconst (v := 0) dX6_readDotRoom_14 ic_0 ?_
    refine JT_bipush (v := 9) dX6_readDotRoom_15 bp_9 ?_
    refine JS_callVI (M' := MX9_takeNumber) (d' := 3) (As := [.int (0 : Int32), .int (9 : Int32)]) (rest := []) dX6_readDotRoom_17 cvX6_133 okX9_takeNumber rfl (Nat.le_of_ble_eq_true rfl) BS_3 (Nat.le_of_ble_eq_true rfl) (Nat.le_of_ble_eq_true rfl) hci_9 (Nat.le_of_ble_eq_true rfl) (Nat.le_of_ble_eq_true rfl) h (fun x2 s1 h => ?_)
    refine JT_if_ne (tgt := 25) dX6_readDotRoom_20 (by decide) (fun hc5 => ?_) (fun hc5 => ?_)
    · have h := h.1 hc5
      refine JT_aload_n (q := 0) dX6_readDotRoom_25 rfl rfl ?_
      refine JT_iconst (v := 1) dX6_readDotRoom_26 ic_1 ?_
      refine JS_putZ dX6_readDotRoom_27 flX6_51 (pxB hp0) (px2 hp0) (pxN hp0) ct_6_13 (Or.inr rfl) ?_
      refine JT_aload_n (q := 0) dX6_readDotRoom_30 rfl rfl ?_
      refine JT_aload_n (q := 1) dX6_readDotRoom_31 rfl rfl ?_
      refine JS_getI dX6_readDotRoom_32 flX6_137 BS_3 (Nat.le_of_ble_eq_true rfl) (Nat.le_of_ble_eq_true rfl) (Or.inl ct_9_5) ?_
      refine JS_putI dX6_readDotRoom_35 flX6_41 (pxB hp0) (px2 hp0) (pxN hp0) ct_6_9 ?_
      refine JT_aload_n (q := 1) dX6_readDotRoom_38 rfl rfl ?_
      refine JS_callVI (M' := MX9_takeStop) (d' := 3) (As := []) (rest := []) dX6_readDotRoom_39 cvX6_163 okX9_takeStop rfl (Nat.le_of_ble_eq_true rfl) BS_3 (Nat.le_of_ble_eq_true rfl) (Nat.le_of_ble_eq_true rfl) hci_9 (Nat.le_of_ble_eq_true rfl) (Nat.le_of_ble_eq_true rfl) h (fun x4 s3 h => ?_)
      exact JS_iret dX6_readDotRoom_42 rfl (n01 h.1) h.2
    · have h := h.2 hc5
      refine JT_iconst (v := 0) dX6_readDotRoom_23 ic_0 ?_
      exact JS_iret dX6_readDotRoom_24 rfl (n01 (Or.inl rfl)) h
  · have h := h.2 hc7
    refine JT_aload_n (q := 1) dX6_readDotRoom_7 rfl rfl ?_
    refine JT_iconst (v := 3) dX6_readDotRoom_8 ic_3 ?_
    refine JS_callVI (M' := MX9_refuse) (d' := 0) (As := [.int (3 : Int32)]) (rest := []) (P := (fun zv9 wm9 => (vX9_refuse s (3 : Int32)) = zv9 ∧ (mX9_refuse s (3 : Int32)) = wm9)) dX6_readDotRoom_9 cvX6_122 okX9_refuse rfl (Nat.le_of_ble_eq_true rfl) BS_3 (Nat.le_of_ble_eq_true rfl) (Nat.le_of_ble_eq_true rfl) hci_9 (Nat.le_of_ble_eq_true rfl) (Nat.le_of_ble_eq_true rfl) (pX9_refuse  ((3 : Int32))  ⟨rfl, rfl⟩) (fun zv9 wm9 hq9 => ?_)
    obtain ⟨rfl, rfl⟩ := hq9
    exact JS_iret dX6_readDotRoom_12 rfl (n01 (zX9_refuse s (3 : Int32))) h
set_option maxRecDepth 20000 in
theorem bX6_readKind_96 {p0 : Nat} (hp0 : p0 ∈ PX) {s : SM} {Q : Int32 → SM → Prop} (h : Q (vX9_isStop (pI s p0 7 ((gI s p0 7) + (1 : Int32))) ) (mX9_isStop (pI s p0 7 ((gI s p0 7) + (1 : Int32))) )) : BI MX6_readKind 4 96 [(0, .ref p0), (1, .ref 3)] s Q := by
  refine JT_aload_n (q := 0) dX6_readKind_96 rfl rfl ?_
  refine JT_dup dX6_readKind_97 rfl ?_
  refine JS_getI dX6_readKind_98 flX6_38 (pxB hp0) (px2 hp0) (pxN hp0) (Or.inl ct_6_7) ?_
  refine JT_iconst (v := 1) dX6_readKind_101 ic_1 ?_
  refine JT_iadd dX6_readKind_102 ?_
  refine JS_putI dX6_readKind_103 flX6_38 (pxB hp0) (px2 hp0) (pxN hp0) ct_6_7 ?_
  refine JT_aload_n (q := 1) dX6_readKind_106 rfl rfl ?_
  refine JS_callVI (M' := MX9_isStop) (d' := 1) (As := []) (rest := []) (P := (fun zv9 wm9 => (vX9_isStop (pI s p0 7 ((gI s p0 7) + (1 : Int32))) ) = zv9 ∧ (mX9_isStop (pI s p0 7 ((gI s p0 7) + (1 : Int32))) ) = wm9)) dX6_readKind_107 cvX6_148 okX9_isStop rfl (Nat.le_of_ble_eq_true rfl) BS_3 (Nat.le_of_ble_eq_true rfl) (Nat.le_of_ble_eq_true rfl) hci_9 (Nat.le_of_ble_eq_true rfl) (Nat.le_of_ble_eq_true rfl) (pX9_isStop    ⟨rfl, rfl⟩) (fun zv9 wm9 hq9 => ?_)
  obtain ⟨rfl, rfl⟩ := hq9
  exact JS_iret dX6_readKind_110 rfl (n01 (zX9_isStop (pI s p0 7 ((gI s p0 7) + (1 : Int32))) )) h
set_option maxRecDepth 20000 in
theorem bX6_readKind {p0 : Nat} (hp0 : p0 ∈ PX) {s : SM} {Q : Int32 → SM → Prop} (h : (((gI s p0 7) < (6 : Int32) → KI MX9_takeNewName 3 [.ref 3, .ref p0] s (fun x2 s1 => ((¬ x2 = 0 → vp_in (gI s1 p0 7) 6 ∧ KI MX9_takeNumber 3 [.ref 3, .int (1 : Int32), .int (9 : Int32)] (pL s1 (p0 + 4) ((gI s1 p0 7)).toNatClampNeg (gL s1 3 4)) (fun x5 s4 => ((¬ x5 = 0 → vp_in (gI s4 p0 7) 6 ∧ KV MX9_nextToken 2 [.ref 3] (pI s4 (p0 + 5) ((gI s4 p0 7)).toNatClampNeg (gI s4 3 5)) (fun s7 => vp_in (gI s7 p0 7) 6 ∧ vp_in (gI (pI s7 (p0 + 6) ((gI s7 p0 7)).toNatClampNeg (vX6_sortTold s7 )) p0 7) 6 ∧ (((gI (pI s7 (p0 + 6) ((gI s7 p0 7)).toNatClampNeg (vX6_sortTold s7 )) (p0 + 6) ((gI (pI s7 (p0 + 6) ((gI s7 p0 7)).toNatClampNeg (vX6_sortTold s7 )) p0 7)).toNatClampNeg) = 0 → BI MX6_readKind 4 96 [(0, .ref p0), (1, .ref 3)] (pI s7 (p0 + 6) ((gI s7 p0 7)).toNatClampNeg (vX6_sortTold s7 )) Q) ∧ (¬ (gI (pI s7 (p0 + 6) ((gI s7 p0 7)).toNatClampNeg (vX6_sortTold s7 )) (p0 + 6) ((gI (pI s7 (p0 + 6) ((gI s7 p0 7)).toNatClampNeg (vX6_sortTold s7 )) p0 7)).toNatClampNeg) = 0 → KV MX9_nextToken 2 [.ref 3] (pI s7 (p0 + 6) ((gI s7 p0 7)).toNatClampNeg (vX6_sortTold s7 )) (fun s11 => BI MX6_readKind 4 96 [(0, .ref p0), (1, .ref 3)] s11 Q))))) ∧ (x5 = 0 → Q (0 : Int32) s4)))) ∧ (x2 = 0 → Q (0 : Int32) s1)))) ∧ (¬ (gI s p0 7) < (6 : Int32) → Q (vX9_refuse s (4 : Int32)) (mX9_refuse s (4 : Int32))))) : KI MX6_readKind 4 [.ref p0, .ref 3] s Q := by
  show BI MX6_readKind 4 0 [(0, .ref p0), (1, .ref 3)] s Q
  refine JT_aload_n (q := 0) dX6_readKind_0 rfl rfl ?_
  refine JS_getI dX6_readKind_1 flX6_38 (pxB hp0) (px2 hp0) (pxN hp0) (Or.inl ct_6_7) ?_
  refine JT_bipush (v := 6) dX6_readKind_4 bp_6 ?_
  refine JT_icmp_lt (tgt := 15) dX6_readKind_6 (by decide) (fun hc18 => ?_) (fun hc18 => ?_)
  · have h := h.1 hc18
    refine JT_aload_n (q := 1) dX6_readKind_15 rfl rfl ?_
    refine JT_aload_n (q := 0) dX6_readKind_16 rfl rfl ?_
    refine JS_callVI (M' := MX9_takeNewName) (d' := 3) (As := [.ref p0]) (rest := []) dX6_readKind_17 cvX6_125 okX9_takeNewName rfl (Nat.le_of_ble_eq_true rfl) BS_3 (Nat.le_of_ble_eq_true rfl) (Nat.le_of_ble_eq_true rfl) hci_9 (Nat.le_of_ble_eq_true rfl) (Nat.le_of_ble_eq_true rfl) h (fun x2 s1 h => ?_)
    refine JT_if_ne (tgt := 25) dX6_readKind_20 (by decide) (fun hc16 => ?_) (fun hc16 => ?_)
    · have h := h.1 hc16
      refine JT_aload_n (q := 0) dX6_readKind_25 rfl rfl ?_
      refine JS_getR (x := (p0 + 4)) dX6_readKind_26 flX6_22 (pxB hp0) (px2 hp0) (pxN hp0) (Or.inr ⟨_, ct_6_3⟩) (pxR3 hp0) ?_
      refine JT_aload_n (q := 0) dX6_readKind_29 rfl rfl ?_
      refine JS_getI dX6_readKind_30 flX6_38 (pxB hp0) (px2 hp0) (pxN hp0) (Or.inl ct_6_7) ?_
      refine JT_aload_n (q := 1) dX6_readKind_33 rfl rfl ?_
      refine JS_getL dX6_readKind_34 flX6_129 BS_3 (Nat.le_of_ble_eq_true rfl) (Nat.le_of_ble_eq_true rfl) ct_9_4 ?_
      obtain ⟨o3, h⟩ := h
      refine JS_last dX6_readKind_37 (pxB4 hp0) (px2k hp0 _) (pxNk hp0 (Nat.le_of_ble_eq_true rfl)) o3 ?_
      refine JT_aload_n (q := 1) dX6_readKind_38 rfl rfl ?_
      refine JT_iconst (v := 1) dX6_readKind_39 ic_1 ?_
      refine JT_bipush (v := 9) dX6_readKind_40 bp_9 ?_
      refine JS_callVI (M' := MX9_takeNumber) (d' := 3) (As := [.int (1 : Int32), .int (9 : Int32)]) (rest := []) dX6_readKind_42 cvX6_133 okX9_takeNumber rfl (Nat.le_of_ble_eq_true rfl) BS_3 (Nat.le_of_ble_eq_true rfl) (Nat.le_of_ble_eq_true rfl) hci_9 (Nat.le_of_ble_eq_true rfl) (Nat.le_of_ble_eq_true rfl) h (fun x5 s4 h => ?_)
      refine JT_if_ne (tgt := 50) dX6_readKind_45 (by decide) (fun hc15 => ?_) (fun hc15 => ?_)
      · have h := h.1 hc15
        refine JT_aload_n (q := 0) dX6_readKind_50 rfl rfl ?_
        refine JS_getR (x := (p0 + 5)) dX6_readKind_51 flX6_25 (pxB hp0) (px2 hp0) (pxN hp0) (Or.inr ⟨_, ct_6_4⟩) (pxR4 hp0) ?_
        refine JT_aload_n (q := 0) dX6_readKind_54 rfl rfl ?_
        refine JS_getI dX6_readKind_55 flX6_38 (pxB hp0) (px2 hp0) (pxN hp0) (Or.inl ct_6_7) ?_
        refine JT_aload_n (q := 1) dX6_readKind_58 rfl rfl ?_
        refine JS_getI dX6_readKind_59 flX6_137 BS_3 (Nat.le_of_ble_eq_true rfl) (Nat.le_of_ble_eq_true rfl) (Or.inl ct_9_5) ?_
        obtain ⟨o6, h⟩ := h
        refine JS_iast dX6_readKind_62 (pxB5 hp0) (px2k hp0 _) (pxNk hp0 (Nat.le_of_ble_eq_true rfl)) o6 ?_
        refine JT_aload_n (q := 1) dX6_readKind_63 rfl rfl ?_
        refine JS_callVV (M' := MX9_nextToken) (d' := 2) (As := []) (rest := []) dX6_readKind_64 cvX6_84 okX9_nextToken rfl (Nat.le_of_ble_eq_true rfl) BS_3 (Nat.le_of_ble_eq_true rfl) (Nat.le_of_ble_eq_true rfl) hci_9 (Nat.le_of_ble_eq_true rfl) (Nat.le_of_ble_eq_true rfl) h (fun s7 h => ?_)
        refine JT_aload_n (q := 0) dX6_readKind_67 rfl rfl ?_
        refine JS_getR (x := (p0 + 6)) dX6_readKind_68 flX6_28 (pxB hp0) (px2 hp0) (pxN hp0) (Or.inr ⟨_, ct_6_5⟩) (pxR5 hp0) ?_
        refine JT_aload_n (q := 0) dX6_readKind_71 rfl rfl ?_
        refine JS_getI dX6_readKind_72 flX6_38 (pxB hp0) (px2 hp0) (pxN hp0) (Or.inl ct_6_7) ?_
        refine JT_aload_n (q := 1) dX6_readKind_75 rfl rfl ?_
        refine JS_callSI (M' := MX6_sortTold) (d' := 1) (As := [.ref 3]) (rest := [.int (gI s7 p0 7), .ref (p0 + 6)]) (P := (fun zv9 wm9 => (vX6_sortTold s7 ) = zv9 ∧ s7 = wm9)) dX6_readKind_76 cvX6_151 okX6_sortTold rfl (Nat.le_of_ble_eq_true rfl) (Nat.le_of_ble_eq_true rfl) (Nat.le_of_ble_eq_true rfl) (pX6_sortTold    ⟨rfl, rfl⟩) (fun zv9 wm9 hq9 => ?_)
        obtain ⟨rfl, rfl⟩ := hq9
        obtain ⟨o9, h⟩ := h
        refine JS_iast dX6_readKind_79 (pxB6 hp0) (px2k hp0 _) (pxNk hp0 (Nat.le_of_ble_eq_true rfl)) o9 ?_
        refine JT_aload_n (q := 0) dX6_readKind_80 rfl rfl ?_
        refine JS_getR (x := (p0 + 6)) dX6_readKind_81 flX6_28 (pxB hp0) (px2 hp0) (pxN hp0) (Or.inr ⟨_, ct_6_5⟩) (pxR5 hp0) ?_
        refine JT_aload_n (q := 0) dX6_readKind_84 rfl rfl ?_
        refine JS_getI dX6_readKind_85 flX6_38 (pxB hp0) (px2 hp0) (pxN hp0) (Or.inl ct_6_7) ?_
        obtain ⟨o10, h⟩ := h
        refine JS_iald dX6_readKind_88 (pxB6 hp0) (px2k hp0 _) (pxNk hp0 (Nat.le_of_ble_eq_true rfl)) o10 ?_
        refine JT_if_eq (tgt := 96) dX6_readKind_89 (by decide) (fun hc13 => ?_) (fun hc13 => ?_)
        · have h := h.1 hc13
          exact JT_sub [0, 1] rfl h
        · have h := h.2 hc13
          refine JT_aload_n (q := 1) dX6_readKind_92 rfl rfl ?_
          refine JS_callVV (M' := MX9_nextToken) (d' := 2) (As := []) (rest := []) dX6_readKind_93 cvX6_84 okX9_nextToken rfl (Nat.le_of_ble_eq_true rfl) BS_3 (Nat.le_of_ble_eq_true rfl) (Nat.le_of_ble_eq_true rfl) hci_9 (Nat.le_of_ble_eq_true rfl) (Nat.le_of_ble_eq_true rfl) h (fun s11 h => ?_)
          exact JT_sub [0, 1] rfl h
      · have h := h.2 hc15
        refine JT_iconst (v := 0) dX6_readKind_48 ic_0 ?_
        exact JS_iret dX6_readKind_49 rfl (n01 (Or.inl rfl)) h
    · have h := h.2 hc16
      refine JT_iconst (v := 0) dX6_readKind_23 ic_0 ?_
      exact JS_iret dX6_readKind_24 rfl (n01 (Or.inl rfl)) h
  · have h := h.2 hc18
    refine JT_aload_n (q := 1) dX6_readKind_9 rfl rfl ?_
    refine JT_iconst (v := 4) dX6_readKind_10 ic_4 ?_
    refine JS_callVI (M' := MX9_refuse) (d' := 0) (As := [.int (4 : Int32)]) (rest := []) (P := (fun zv9 wm9 => (vX9_refuse s (4 : Int32)) = zv9 ∧ (mX9_refuse s (4 : Int32)) = wm9)) dX6_readKind_11 cvX6_122 okX9_refuse rfl (Nat.le_of_ble_eq_true rfl) BS_3 (Nat.le_of_ble_eq_true rfl) (Nat.le_of_ble_eq_true rfl) hci_9 (Nat.le_of_ble_eq_true rfl) (Nat.le_of_ble_eq_true rfl) (pX9_refuse  ((4 : Int32))  ⟨rfl, rfl⟩) (fun zv9 wm9 hq9 => ?_)
    obtain ⟨rfl, rfl⟩ := hq9
    exact JS_iret dX6_readKind_14 rfl (n01 (zX9_refuse s (4 : Int32))) h
set_option maxRecDepth 20000 in
theorem bX6_readLineRoom {p0 : Nat} (hp0 : p0 ∈ PX) {s : SM} {Q : Int32 → SM → Prop} (h : (((gI s p0 12) = 0 → KI MX9_takeNumber 3 [.ref 3, .int (0 : Int32), .int (9 : Int32)] s (fun x2 s1 => ((¬ x2 = 0 → KI MX9_takeStop 3 [.ref 3] (pI (pI s1 p0 12 (1 : Int32)) p0 8 (gI (pI s1 p0 12 (1 : Int32)) 3 5)) (fun x4 s3 => (x4 = 0 ∨ x4 = 1) ∧ Q x4 s3)) ∧ (x2 = 0 → Q (0 : Int32) s1)))) ∧ (¬ (gI s p0 12) = 0 → Q (vX9_refuse s (3 : Int32)) (mX9_refuse s (3 : Int32))))) : KI MX6_readLineRoom 4 [.ref p0, .ref 3] s Q := by
  show BI MX6_readLineRoom 4 0 [(0, .ref p0), (1, .ref 3)] s Q
  refine JT_aload_n (q := 0) dX6_readLineRoom_0 rfl rfl ?_
  refine JS_getI dX6_readLineRoom_1 flX6_47 (pxB hp0) (px2 hp0) (pxN hp0) (Or.inr ct_6_12) ?_
  refine JT_if_eq (tgt := 13) dX6_readLineRoom_4 (by decide) (fun hc7 => ?_) (fun hc7 => ?_)
  · have h := h.1 hc7
    refine JT_aload_n (q := 1) dX6_readLineRoom_13 rfl rfl ?_
    refine JT_iconst (v := 0) dX6_readLineRoom_14 ic_0 ?_
    refine JT_bipush (v := 9) dX6_readLineRoom_15 bp_9 ?_
    refine JS_callVI (M' := MX9_takeNumber) (d' := 3) (As := [.int (0 : Int32), .int (9 : Int32)]) (rest := []) dX6_readLineRoom_17 cvX6_133 okX9_takeNumber rfl (Nat.le_of_ble_eq_true rfl) BS_3 (Nat.le_of_ble_eq_true rfl) (Nat.le_of_ble_eq_true rfl) hci_9 (Nat.le_of_ble_eq_true rfl) (Nat.le_of_ble_eq_true rfl) h (fun x2 s1 h => ?_)
    refine JT_if_ne (tgt := 25) dX6_readLineRoom_20 (by decide) (fun hc5 => ?_) (fun hc5 => ?_)
    · have h := h.1 hc5
      refine JT_aload_n (q := 0) dX6_readLineRoom_25 rfl rfl ?_
      refine JT_iconst (v := 1) dX6_readLineRoom_26 ic_1 ?_
      refine JS_putZ dX6_readLineRoom_27 flX6_47 (pxB hp0) (px2 hp0) (pxN hp0) ct_6_12 (Or.inr rfl) ?_
      refine JT_aload_n (q := 0) dX6_readLineRoom_30 rfl rfl ?_
      refine JT_aload_n (q := 1) dX6_readLineRoom_31 rfl rfl ?_
      refine JS_getI dX6_readLineRoom_32 flX6_137 BS_3 (Nat.le_of_ble_eq_true rfl) (Nat.le_of_ble_eq_true rfl) (Or.inl ct_9_5) ?_
      refine JS_putI dX6_readLineRoom_35 flX6_31 (pxB hp0) (px2 hp0) (pxN hp0) ct_6_8 ?_
      refine JT_aload_n (q := 1) dX6_readLineRoom_38 rfl rfl ?_
      refine JS_callVI (M' := MX9_takeStop) (d' := 3) (As := []) (rest := []) dX6_readLineRoom_39 cvX6_163 okX9_takeStop rfl (Nat.le_of_ble_eq_true rfl) BS_3 (Nat.le_of_ble_eq_true rfl) (Nat.le_of_ble_eq_true rfl) hci_9 (Nat.le_of_ble_eq_true rfl) (Nat.le_of_ble_eq_true rfl) h (fun x4 s3 h => ?_)
      exact JS_iret dX6_readLineRoom_42 rfl (n01 h.1) h.2
    · have h := h.2 hc5
      refine JT_iconst (v := 0) dX6_readLineRoom_23 ic_0 ?_
      exact JS_iret dX6_readLineRoom_24 rfl (n01 (Or.inl rfl)) h
  · have h := h.2 hc7
    refine JT_aload_n (q := 1) dX6_readLineRoom_7 rfl rfl ?_
    refine JT_iconst (v := 3) dX6_readLineRoom_8 ic_3 ?_
    refine JS_callVI (M' := MX9_refuse) (d' := 0) (As := [.int (3 : Int32)]) (rest := []) (P := (fun zv9 wm9 => (vX9_refuse s (3 : Int32)) = zv9 ∧ (mX9_refuse s (3 : Int32)) = wm9)) dX6_readLineRoom_9 cvX6_122 okX9_refuse rfl (Nat.le_of_ble_eq_true rfl) BS_3 (Nat.le_of_ble_eq_true rfl) (Nat.le_of_ble_eq_true rfl) hci_9 (Nat.le_of_ble_eq_true rfl) (Nat.le_of_ble_eq_true rfl) (pX9_refuse  ((3 : Int32))  ⟨rfl, rfl⟩) (fun zv9 wm9 hq9 => ?_)
    obtain ⟨rfl, rfl⟩ := hq9
    exact JS_iret dX6_readLineRoom_12 rfl (n01 (zX9_refuse s (3 : Int32))) h
set_option maxRecDepth 20000 in
theorem bX0_readRest {k0 : Nat} (hk0 : k0 ∈ BX) {p2 : Nat} (hp2 : p2 ∈ PX) (a3 : Int32) {s : SM} {Q : Int32 → SM → Prop} (h : ((a3 = 0 → KI MX0_readTwoBodies 4 [.ref k0, .ref 3, .ref p2] s (fun x3 s2 => ((x3 = 0 → Q (0 : Int32) s2) ∧ (¬ x3 = 0 → KI MX0_readSumAndKind 4 [.ref k0, .ref 3, .ref p2] s2 (fun x5 s4 => Q (if x5 = 0 then (0 : Int32) else (1 : Int32)) s4))))) ∧ (a3 = 1 → KI MX0_readDeal 4 [.ref k0, .ref 3] s (fun x10 s9 => (x10 = 0 ∨ x10 = 1) ∧ Q x10 s9)) ∧ (a3 = 2 → KI MX0_readDeal 4 [.ref k0, .ref 3] s (fun x12 s11 => ((x12 = 0 → Q (0 : Int32) s11) ∧ (¬ x12 = 0 → KI MX0_readSide 3 [.ref k0, .ref 3] s11 (fun x14 s13 => Q (if x14 = 0 then (0 : Int32) else (1 : Int32)) s13))))) ∧ (a3 = 3 → Q (1 : Int32) s) ∧ (a3 = 4 → KI MX0_readTwoBodies 4 [.ref k0, .ref 3, .ref p2] s (fun x19 s18 => (x19 = 0 ∨ x19 = 1) ∧ Q x19 s18)) ∧ ((a3.toInt < 0 ∨ 4 < a3.toInt) → Q (1 : Int32) s))) : KI MX0_readRest 5 [.ref k0, .ref 3, .ref p2, .int a3] s Q := by
  show BI MX0_readRest 5 0 [(0, .ref k0), (1, .ref 3), (2, .ref p2), (3, .int a3)] s Q
  refine JT_iload_n (q := 3) dX0_readRest_0 rfl rfl ?_
  by_cases ho1 : (a3).toInt < 0 ∨ 4 < (a3).toInt
  · have h := h.2.2.2.2.2 ho1
    refine JT_tableOut (tgt := 95) dX0_readRest_1 ho1 (by decide) ?_
    refine JT_iconst (v := 1) dX0_readRest_95 ic_1 ?_
    exact JS_iret dX0_readRest_96 rfl (n01 (Or.inr rfl)) h
  · have hk20 : (a3).toInt = 0 ∨ (a3).toInt = 1 ∨ (a3).toInt = 2 ∨ (a3).toInt = 3 ∨ (a3).toInt = 4 := by omega
    rcases hk20 with hk20 | hk20 | hk20 | hk20 | hk20
    · have h := h.1 (i32_of_toInt hk20)
      refine JT_tableIn (tgt := 36) dX0_readRest_1 (by omega) (by omega) (by rw [hk20]; rfl) (by decide) ?_
      refine JT_aload_n (q := 0) dX0_readRest_36 rfl rfl ?_
      refine JT_aload_n (q := 1) dX0_readRest_37 rfl rfl ?_
      refine JT_aload_n (q := 2) dX0_readRest_38 rfl rfl ?_
      refine JS_callVI (M' := MX0_readTwoBodies) (d' := 4) (As := [.ref 3, .ref p2]) (rest := []) dX0_readRest_39 cvX0_83 okX0_readTwoBodies rfl (Nat.le_of_ble_eq_true rfl) (bxB hk0) (bx2 hk0) (bxN hk0) hci_0 (Nat.le_of_ble_eq_true rfl) (Nat.le_of_ble_eq_true rfl) h (fun x3 s2 h => ?_)
      refine JT_if_eq (tgt := 58) dX0_readRest_42 (by decide) (fun hc8 => ?_) (fun hc8 => ?_)
      · have h := h.1 hc8
        refine JT_iconst (v := 0) dX0_readRest_58 ic_0 ?_
        exact JS_iret dX0_readRest_59 rfl (n01 (Or.inl rfl)) h
      · have h := h.2 hc8
        refine JT_aload_n (q := 0) dX0_readRest_45 rfl rfl ?_
        refine JT_aload_n (q := 1) dX0_readRest_46 rfl rfl ?_
        refine JT_aload_n (q := 2) dX0_readRest_47 rfl rfl ?_
        refine JS_callVI (M' := MX0_readSumAndKind) (d' := 4) (As := [.ref 3, .ref p2]) (rest := []) dX0_readRest_48 cvX0_87 okX0_readSumAndKind rfl (Nat.le_of_ble_eq_true rfl) (bxB hk0) (bx2 hk0) (bxN hk0) hci_0 (Nat.le_of_ble_eq_true rfl) (Nat.le_of_ble_eq_true rfl) h (fun x5 s4 h => ?_)
        have hj6 : ∀ v : Int32, v = (if x5 = 0 then (0 : Int32) else (1 : Int32)) → JT MX0_readRest 5 0 0 59 [(0, .ref k0), (1, .ref 3), (2, .ref p2), (3, .int a3)] [.int v] (std s4) (KQ Q) := by
          intro v hv
          subst hv
          exact JS_iret dX0_readRest_59 rfl (n01 (i01 (Or.inl rfl) (Or.inr rfl))) h
        refine JT_if_eq (tgt := 58) dX0_readRest_51 (by decide) (fun hc7 => ?_) (fun hc7 => ?_)
        · refine JT_iconst (v := 0) dX0_readRest_58 ic_0 ?_
          exact hj6 _ (by rw [if_pos hc7])
        · refine JT_iconst (v := 1) dX0_readRest_54 ic_1 ?_
          refine JT_goto (tgt := 59) dX0_readRest_55 (by decide) ?_
          exact hj6 _ (by rw [if_neg hc7])
    · have h := h.2.1 (i32_of_toInt hk20)
      refine JT_tableIn (tgt := 60) dX0_readRest_1 (by omega) (by omega) (by rw [hk20]; rfl) (by decide) ?_
      refine JT_aload_n (q := 0) dX0_readRest_60 rfl rfl ?_
      refine JT_aload_n (q := 1) dX0_readRest_61 rfl rfl ?_
      refine JS_callVI (M' := MX0_readDeal) (d' := 4) (As := [.ref 3]) (rest := []) dX0_readRest_62 cvX0_90 okX0_readDeal rfl (Nat.le_of_ble_eq_true rfl) (bxB hk0) (bx2 hk0) (bxN hk0) hci_0 (Nat.le_of_ble_eq_true rfl) (Nat.le_of_ble_eq_true rfl) h (fun x10 s9 h => ?_)
      exact JS_iret dX0_readRest_65 rfl (n01 h.1) h.2
    · have h := h.2.2.1 (i32_of_toInt hk20)
      refine JT_tableIn (tgt := 66) dX0_readRest_1 (by omega) (by omega) (by rw [hk20]; rfl) (by decide) ?_
      refine JT_aload_n (q := 0) dX0_readRest_66 rfl rfl ?_
      refine JT_aload_n (q := 1) dX0_readRest_67 rfl rfl ?_
      refine JS_callVI (M' := MX0_readDeal) (d' := 4) (As := [.ref 3]) (rest := []) dX0_readRest_68 cvX0_90 okX0_readDeal rfl (Nat.le_of_ble_eq_true rfl) (bxB hk0) (bx2 hk0) (bxN hk0) hci_0 (Nat.le_of_ble_eq_true rfl) (Nat.le_of_ble_eq_true rfl) h (fun x12 s11 h => ?_)
      refine JT_if_eq (tgt := 86) dX0_readRest_71 (by decide) (fun hc17 => ?_) (fun hc17 => ?_)
      · have h := h.1 hc17
        refine JT_iconst (v := 0) dX0_readRest_86 ic_0 ?_
        exact JS_iret dX0_readRest_87 rfl (n01 (Or.inl rfl)) h
      · have h := h.2 hc17
        refine JT_aload_n (q := 0) dX0_readRest_74 rfl rfl ?_
        refine JT_aload_n (q := 1) dX0_readRest_75 rfl rfl ?_
        refine JS_callVI (M' := MX0_readSide) (d' := 3) (As := [.ref 3]) (rest := []) dX0_readRest_76 cvX0_94 okX0_readSide rfl (Nat.le_of_ble_eq_true rfl) (bxB hk0) (bx2 hk0) (bxN hk0) hci_0 (Nat.le_of_ble_eq_true rfl) (Nat.le_of_ble_eq_true rfl) h (fun x14 s13 h => ?_)
        have hj15 : ∀ v : Int32, v = (if x14 = 0 then (0 : Int32) else (1 : Int32)) → JT MX0_readRest 5 0 0 87 [(0, .ref k0), (1, .ref 3), (2, .ref p2), (3, .int a3)] [.int v] (std s13) (KQ Q) := by
          intro v hv
          subst hv
          exact JS_iret dX0_readRest_87 rfl (n01 (i01 (Or.inl rfl) (Or.inr rfl))) h
        refine JT_if_eq (tgt := 86) dX0_readRest_79 (by decide) (fun hc16 => ?_) (fun hc16 => ?_)
        · refine JT_iconst (v := 0) dX0_readRest_86 ic_0 ?_
          exact hj15 _ (by rw [if_pos hc16])
        · refine JT_iconst (v := 1) dX0_readRest_82 ic_1 ?_
          refine JT_goto (tgt := 87) dX0_readRest_83 (by decide) ?_
          exact hj15 _ (by rw [if_neg hc16])
    · have h := h.2.2.2.1 (i32_of_toInt hk20)
      refine JT_tableIn (tgt := 95) dX0_readRest_1 (by omega) (by omega) (by rw [hk20]; rfl) (by decide) ?_
      refine JT_iconst (v := 1) dX0_readRest_95 ic_1 ?_
      exact JS_iret dX0_readRest_96 rfl (n01 (Or.inr rfl)) h
    · have h := h.2.2.2.2.1 (i32_of_toInt hk20)
      refine JT_tableIn (tgt := 88) dX0_readRest_1 (by omega) (by omega) (by rw [hk20]; rfl) (by decide) ?_
      refine JT_aload_n (q := 0) dX0_readRest_88 rfl rfl ?_
      refine JT_aload_n (q := 1) dX0_readRest_89 rfl rfl ?_
      refine JT_aload_n (q := 2) dX0_readRest_90 rfl rfl ?_
      refine JS_callVI (M' := MX0_readTwoBodies) (d' := 4) (As := [.ref 3, .ref p2]) (rest := []) dX0_readRest_91 cvX0_83 okX0_readTwoBodies rfl (Nat.le_of_ble_eq_true rfl) (bxB hk0) (bx2 hk0) (bxN hk0) hci_0 (Nat.le_of_ble_eq_true rfl) (Nat.le_of_ble_eq_true rfl) h (fun x19 s18 h => ?_)
      exact JS_iret dX0_readRest_94 rfl (n01 h.1) h.2
set_option maxRecDepth 20000 in
theorem bX11_lost_4 (a1 : Int32) (a2 : Int32) (a3 : Int32) {s : SM} {Q : Int32 → SM → Prop} (h : (((gI s 31 9) ≤ a3 → Q (if a1 = (-1 : Int32) then a2 else (-1 : Int32)) s) ∧ (¬ (gI s 31 9) ≤ a3 → rX4_isLost s 31 5 a3 ∧ (((vX4_isLost s 31 5 a3) = 0 → BI MX11_lost 5 4 [(0, .ref 2), (1, .int a1), (2, .int a2), (3, .int (a3 + 1))] s Q) ∧ (¬ (vX4_isLost s 31 5 a3) = 0 → ((¬ a2 = a1 → BI MX11_lost 5 4 [(0, .ref 2), (1, .int a1), (2, .int (a2 + 1)), (3, .int (a3 + 1))] s Q) ∧ (a2 = a1 → Q a3 s))))))) : BI MX11_lost 5 4 [(0, .ref 2), (1, .int a1), (2, .int a2), (3, .int a3)] s Q := by
  refine JT_iload_n (q := 3) dX11_lost_4 rfl rfl ?_
  refine JT_aload_n (q := 0) dX11_lost_5 rfl rfl ?_
  refine JS_getR (x := 31) dX11_lost_6 flX11_41 BS_2 (Nat.le_of_ble_eq_true rfl) (Nat.le_of_ble_eq_true rfl) (Or.inl ⟨_, ct_11_5⟩) RF_2_5 ?_
  refine JS_getI dX11_lost_9 flX11_162 BS_31 (Nat.le_of_ble_eq_true rfl) (Nat.le_of_ble_eq_true rfl) (Or.inl ct_4_9) ?_
  refine JT_icmp_ge (tgt := 42) dX11_lost_12 (by decide) (fun hc6 => ?_) (fun hc6 => ?_)
  · have h := h.1 hc6
    refine JT_iload_n (q := 1) dX11_lost_42 rfl rfl ?_
    refine JT_iconst (v := -1) dX11_lost_43 ic_m1 ?_
    have hj1 : ∀ v : Int32, v = (if a1 = (-1 : Int32) then a2 else (-1 : Int32)) → JT MX11_lost 5 0 0 52 [(0, .ref 2), (1, .int a1), (2, .int a2), (3, .int a3)] [.int v] (std s) (KQ Q) := by
      intro v hv
      subst hv
      exact JS_iret dX11_lost_52 rfl rfl h
    refine JT_icmp_ne (tgt := 51) dX11_lost_44 (by decide) (fun hc2 => ?_) (fun hc2 => ?_)
    · refine JT_iconst (v := -1) dX11_lost_51 ic_m1 ?_
      exact hj1 _ (by rw [if_neg hc2])
    · refine JT_iload_n (q := 2) dX11_lost_47 rfl rfl ?_
      refine JT_goto (tgt := 52) dX11_lost_48 (by decide) ?_
      exact hj1 _ (by rw [if_pos hc2])
  · have h := h.2 hc6
    refine JT_aload_n (q := 0) dX11_lost_15 rfl rfl ?_
    refine JS_getR (x := 31) dX11_lost_16 flX11_41 BS_2 (Nat.le_of_ble_eq_true rfl) (Nat.le_of_ble_eq_true rfl) (Or.inl ⟨_, ct_11_5⟩) RF_2_5 ?_
    refine JT_iload_n (q := 3) dX11_lost_19 rfl rfl ?_
    obtain ⟨o5, h⟩ := h
    refine JS_callVI (M' := MX4_isLost) (d' := 4) (As := [.int a3]) (rest := []) (P := (fun zv9 wm9 => (vX4_isLost s 31 5 a3) = zv9 ∧ s = wm9)) dX11_lost_20 cvX11_398 okX4_isLost rfl (Nat.le_of_ble_eq_true rfl) BS_31 (Nat.le_of_ble_eq_true rfl) (Nat.le_of_ble_eq_true rfl) hci_4 (Nat.le_of_ble_eq_true rfl) (Nat.le_of_ble_eq_true rfl) (pX4_isLost hL_31 (a3) o5 ⟨rfl, rfl⟩) (fun zv9 wm9 hq9 => ?_)
    obtain ⟨rfl, rfl⟩ := hq9
    refine JT_if_eq (tgt := 36) dX11_lost_23 (by decide) (fun hc4 => ?_) (fun hc4 => ?_)
    · have h := h.1 hc4
      refine JT_iinc (q := 3) (v := (a3 + 1)) (lv' := [(3, .int (a3 + 1)), (0, .ref 2), (1, .int a1), (2, .int a2)]) dX11_lost_36 rfl (by rfl) (Nat.le_of_ble_eq_true rfl) rfl ?_
      refine JT_goto (tgt := 4) dX11_lost_39 (by decide) ?_
      exact JT_sub [1, 2, 3, 0] rfl h
    · have h := h.2 hc4
      refine JT_iload_n (q := 2) dX11_lost_26 rfl rfl ?_
      refine JT_iload_n (q := 1) dX11_lost_27 rfl rfl ?_
      refine JT_icmp_ne (tgt := 33) dX11_lost_28 (by decide) (fun hc3 => ?_) (fun hc3 => ?_)
      · have h := h.1 hc3
        refine JT_iinc (q := 2) (v := (a2 + 1)) (lv' := [(2, .int (a2 + 1)), (0, .ref 2), (1, .int a1), (3, .int a3)]) dX11_lost_33 rfl (by rfl) (Nat.le_of_ble_eq_true rfl) rfl ?_
        refine JT_iinc (q := 3) (v := (a3 + 1)) (lv' := [(3, .int (a3 + 1)), (2, .int (a2 + 1)), (0, .ref 2), (1, .int a1)]) dX11_lost_36 rfl (by rfl) (Nat.le_of_ble_eq_true rfl) rfl ?_
        refine JT_goto (tgt := 4) dX11_lost_39 (by decide) ?_
        exact JT_sub [2, 3, 1, 0] rfl h
      · have h := h.2 hc3
        refine JT_iload_n (q := 3) dX11_lost_31 rfl rfl ?_
        exact JS_iret dX11_lost_32 rfl rfl h
set_option maxRecDepth 20000 in
theorem bX11_lost (a1 : Int32) {s : SM} {Q : Int32 → SM → Prop} (h : BI MX11_lost 5 4 [(0, .ref 2), (1, .int a1), (2, .int (0 : Int32)), (3, .int (0 : Int32))] s Q) : KI MX11_lost 5 [.ref 2, .int a1] s Q := by
  show BI MX11_lost 5 0 [(0, .ref 2), (1, .int a1)] s Q
  refine JT_iconst (v := 0) dX11_lost_0 ic_0 ?_
  refine JT_istore_n (lv' := [(2, .int (0 : Int32)), (0, .ref 2), (1, .int a1)]) dX11_lost_1 rfl (Nat.le_of_ble_eq_true rfl) rfl ?_
  refine JT_iconst (v := 0) dX11_lost_2 ic_0 ?_
  refine JT_istore_n (lv' := [(3, .int (0 : Int32)), (2, .int (0 : Int32)), (0, .ref 2), (1, .int a1)]) dX11_lost_3 rfl (Nat.le_of_ble_eq_true rfl) rfl ?_
  exact JT_sub [2, 3, 1, 0] rfl h
set_option maxRecDepth 20000 in
theorem bX11_proof_41 (a1 : Int32) (a2 : Int32) (a3 : Int32) (a4 : Int32) (a5 : Int32) {s : SM} {Q : Int32 → SM → Prop} (h : ((a2 ≤ a5 → Q a4 s) ∧ (¬ a2 ≤ a5 → (((vJ6_bitCount_0f7a4 s a4) ≤ (vJ6_bitCount_0f7a4 s a5) → BI MX11_proof 5 41 [(0, .ref 2), (1, .int a1), (2, .int a2), (3, .int a3), (4, .int a4), (5, .int (a5 + 1))] s Q) ∧ (¬ (vJ6_bitCount_0f7a4 s a4) ≤ (vJ6_bitCount_0f7a4 s a5) → KI MX4_owedSurely 4 [.ref 31, .int a1, .int a5] s (fun x2 s1 => ((¬ x2 = a3 → BI MX11_proof 5 41 [(0, .ref 2), (1, .int a1), (2, .int a2), (3, .int a3), (4, .int a4), (5, .int (a5 + 1))] s1 Q) ∧ (x2 = a3 → BI MX11_proof 5 41 [(0, .ref 2), (1, .int a1), (2, .int a2), (3, .int a3), (4, .int a5), (5, .int (a5 + 1))] s1 Q)))))))) : BI MX11_proof 5 41 [(0, .ref 2), (1, .int a1), (2, .int a2), (3, .int a3), (4, .int a4), (5, .int a5)] s Q := by
  refine JT_iload (q := 5) dX11_proof_41 rfl ?_
  refine JT_iload_n (q := 2) dX11_proof_43 rfl rfl ?_
  refine JT_icmp_ge (tgt := 84) dX11_proof_44 (by decide) (fun hc7 => ?_) (fun hc7 => ?_)
  · have h := h.1 hc7
    refine JT_iload (q := 4) dX11_proof_84 rfl ?_
    exact JS_iret dX11_proof_86 rfl rfl h
  · have h := h.2 hc7
    refine JT_iload (q := 5) dX11_proof_47 rfl ?_
    refine JS_callSI (M' := MJ6_bitCount_0f7a4) (d' := 0) (As := [.int a5]) (rest := []) (P := (fun zv9 wm9 => (vJ6_bitCount_0f7a4 s a5) = zv9 ∧ s = wm9)) dX11_proof_49 cvX11_414 okJ6_bitCount_0f7a4 rfl (Nat.le_of_ble_eq_true rfl) (Nat.le_of_ble_eq_true rfl) (Nat.le_of_ble_eq_true rfl) (pJ6_bitCount_0f7a4  (a5)  ⟨rfl, rfl⟩) (fun zv9 wm9 hq9 => ?_)
    obtain ⟨rfl, rfl⟩ := hq9
    refine JT_iload (q := 4) dX11_proof_52 rfl ?_
    refine JS_callSI (M' := MJ6_bitCount_0f7a4) (d' := 0) (As := [.int a4]) (rest := [.int (vJ6_bitCount_0f7a4 s a5)]) (P := (fun zv9 wm9 => (vJ6_bitCount_0f7a4 s a4) = zv9 ∧ s = wm9)) dX11_proof_54 cvX11_414 okJ6_bitCount_0f7a4 rfl (Nat.le_of_ble_eq_true rfl) (Nat.le_of_ble_eq_true rfl) (Nat.le_of_ble_eq_true rfl) (pJ6_bitCount_0f7a4  (a4)  ⟨rfl, rfl⟩) (fun zv9 wm9 hq9 => ?_)
    obtain ⟨rfl, rfl⟩ := hq9
    refine JT_icmp_ge (tgt := 78) dX11_proof_57 (by decide) (fun hc4 => ?_) (fun hc4 => ?_)
    · have h := h.1 hc4
      refine JT_iinc (q := 5) (v := (a5 + 1)) (lv' := [(5, .int (a5 + 1)), (0, .ref 2), (1, .int a1), (2, .int a2), (3, .int a3), (4, .int a4)]) dX11_proof_78 rfl (by rfl) (Nat.le_of_ble_eq_true rfl) rfl ?_
      refine JT_goto (tgt := 41) dX11_proof_81 (by decide) ?_
      exact JT_sub [1, 2, 3, 4, 5, 0] rfl h
    · have h := h.2 hc4
      refine JT_aload_n (q := 0) dX11_proof_60 rfl rfl ?_
      refine JS_getR (x := 31) dX11_proof_61 flX11_41 BS_2 (Nat.le_of_ble_eq_true rfl) (Nat.le_of_ble_eq_true rfl) (Or.inl ⟨_, ct_11_5⟩) RF_2_5 ?_
      refine JT_iload_n (q := 1) dX11_proof_64 rfl rfl ?_
      refine JT_iload (q := 5) dX11_proof_65 rfl ?_
      refine JS_callVI (M' := MX4_owedSurely) (d' := 4) (As := [.int a1, .int a5]) (rest := []) dX11_proof_67 cvX11_408 okX4_owedSurely rfl (Nat.le_of_ble_eq_true rfl) BS_31 (Nat.le_of_ble_eq_true rfl) (Nat.le_of_ble_eq_true rfl) hci_4 (Nat.le_of_ble_eq_true rfl) (Nat.le_of_ble_eq_true rfl) h (fun x2 s1 h => ?_)
      refine JT_iload_n (q := 3) dX11_proof_70 rfl rfl ?_
      refine JT_icmp_ne (tgt := 78) dX11_proof_71 (by decide) (fun hc3 => ?_) (fun hc3 => ?_)
      · have h := h.1 hc3
        refine JT_iinc (q := 5) (v := (a5 + 1)) (lv' := [(5, .int (a5 + 1)), (0, .ref 2), (1, .int a1), (2, .int a2), (3, .int a3), (4, .int a4)]) dX11_proof_78 rfl (by rfl) (Nat.le_of_ble_eq_true rfl) rfl ?_
        refine JT_goto (tgt := 41) dX11_proof_81 (by decide) ?_
        exact JT_sub [1, 2, 3, 4, 5, 0] rfl h
      · have h := h.2 hc3
        refine JT_iload (q := 5) dX11_proof_74 rfl ?_
        refine JT_istore (lv' := [(4, .int a5), (0, .ref 2), (1, .int a1), (2, .int a2), (3, .int a3), (5, .int a5)]) dX11_proof_76 (Nat.le_of_ble_eq_true rfl) rfl ?_
        refine JT_iinc (q := 5) (v := (a5 + 1)) (lv' := [(5, .int (a5 + 1)), (4, .int a5), (0, .ref 2), (1, .int a1), (2, .int a2), (3, .int a3)]) dX11_proof_78 rfl (by rfl) (Nat.le_of_ble_eq_true rfl) rfl ?_
        refine JT_goto (tgt := 41) dX11_proof_81 (by decide) ?_
        exact JT_sub [2, 3, 4, 5, 1, 0] rfl h
set_option maxRecDepth 20000 in
theorem bX11_proof (a1 : Int32) {s : SM} {Q : Int32 → SM → Prop} (h : ((¬ (vX6_hasBody s 5 a1) = 0 → KI MX4_owedSurely 4 [.ref 31, .int a1, .int (((1 : Int32) <<< ((gI s 5 6) &&& 31)) - (1 : Int32))] s (fun x2 s1 => BI MX11_proof 5 41 [(0, .ref 2), (1, .int a1), (2, .int (((1 : Int32) <<< ((gI s 5 6) &&& 31)) - (1 : Int32))), (3, .int x2), (4, .int (((1 : Int32) <<< ((gI s 5 6) &&& 31)) - (1 : Int32))), (5, .int (0 : Int32))] s1 Q)) ∧ ((vX6_hasBody s 5 a1) = 0 → Q (-1 : Int32) s))) : KI MX11_proof 5 [.ref 2, .int a1] s Q := by
  show BI MX11_proof 5 0 [(0, .ref 2), (1, .int a1)] s Q
  refine JT_aload_n (q := 0) dX11_proof_0 rfl rfl ?_
  refine JS_getR (x := 5) dX11_proof_1 flX11_19 BS_2 (Nat.le_of_ble_eq_true rfl) (Nat.le_of_ble_eq_true rfl) (Or.inl ⟨_, ct_11_1⟩) RF_2_1 ?_
  refine JT_iload_n (q := 1) dX11_proof_4 rfl rfl ?_
  refine JS_callVI (M' := MX6_hasBody) (d' := 0) (As := [.int a1]) (rest := []) (P := (fun zv9 wm9 => (vX6_hasBody s 5 a1) = zv9 ∧ s = wm9)) dX11_proof_5 cvX11_172 okX6_hasBody rfl (Nat.le_of_ble_eq_true rfl) BS_5 (Nat.le_of_ble_eq_true rfl) (Nat.le_of_ble_eq_true rfl) hci_6 (Nat.le_of_ble_eq_true rfl) (Nat.le_of_ble_eq_true rfl) (pX6_hasBody hp_5 (a1)  ⟨rfl, rfl⟩) (fun zv9 wm9 hq9 => ?_)
  obtain ⟨rfl, rfl⟩ := hq9
  refine JT_if_ne (tgt := 13) dX11_proof_8 (by decide) (fun hc3 => ?_) (fun hc3 => ?_)
  · have h := h.1 hc3
    refine JT_iconst (v := 1) dX11_proof_13 ic_1 ?_
    refine JT_aload_n (q := 0) dX11_proof_14 rfl rfl ?_
    refine JS_getR (x := 5) dX11_proof_15 flX11_19 BS_2 (Nat.le_of_ble_eq_true rfl) (Nat.le_of_ble_eq_true rfl) (Or.inl ⟨_, ct_11_1⟩) RF_2_1 ?_
    refine JS_getI dX11_proof_18 flX11_150 BS_5 (Nat.le_of_ble_eq_true rfl) (Nat.le_of_ble_eq_true rfl) (Or.inl ct_6_6) ?_
    refine JT_ishl dX11_proof_21 ?_
    refine JT_iconst (v := 1) dX11_proof_22 ic_1 ?_
    refine JT_isub dX11_proof_23 ?_
    refine JT_istore_n (lv' := [(2, .int (((1 : Int32) <<< ((gI s 5 6) &&& 31)) - (1 : Int32))), (0, .ref 2), (1, .int a1)]) dX11_proof_24 rfl (Nat.le_of_ble_eq_true rfl) rfl ?_
    refine JT_aload_n (q := 1) dX11_proof_25 rfl rfl ?_
    refine JS_getR (x := 31) dX11_proof_26 flX11_41 BS_2 (Nat.le_of_ble_eq_true rfl) (Nat.le_of_ble_eq_true rfl) (Or.inl ⟨_, ct_11_5⟩) RF_2_5 ?_
    refine JT_iload_n (q := 2) dX11_proof_29 rfl rfl ?_
    refine JT_iload_n (q := 0) dX11_proof_30 rfl rfl ?_
    refine JS_callVI (M' := MX4_owedSurely) (d' := 4) (As := [.int a1, .int (((1 : Int32) <<< ((gI s 5 6) &&& 31)) - (1 : Int32))]) (rest := []) dX11_proof_31 cvX11_408 okX4_owedSurely rfl (Nat.le_of_ble_eq_true rfl) BS_31 (Nat.le_of_ble_eq_true rfl) (Nat.le_of_ble_eq_true rfl) hci_4 (Nat.le_of_ble_eq_true rfl) (Nat.le_of_ble_eq_true rfl) h (fun x2 s1 h => ?_)
    refine JT_istore_n (lv' := [(3, .int x2), (2, .int (((1 : Int32) <<< ((gI s 5 6) &&& 31)) - (1 : Int32))), (0, .ref 2), (1, .int a1)]) dX11_proof_34 rfl (Nat.le_of_ble_eq_true rfl) rfl ?_
    refine JT_iload_n (q := 1) dX11_proof_35 rfl rfl ?_
    refine JT_istore (lv' := [(4, .int (((1 : Int32) <<< ((gI s 5 6) &&& 31)) - (1 : Int32))), (3, .int x2), (2, .int (((1 : Int32) <<< ((gI s 5 6) &&& 31)) - (1 : Int32))), (0, .ref 2), (1, .int a1)]) dX11_proof_36 (Nat.le_of_ble_eq_true rfl) rfl ?_
    refine JT_iconst (v := 0) dX11_proof_38 ic_0 ?_
    refine JT_istore (lv' := [(5, .int (0 : Int32)), (4, .int (((1 : Int32) <<< ((gI s 5 6) &&& 31)) - (1 : Int32))), (3, .int x2), (2, .int (((1 : Int32) <<< ((gI s 5 6) &&& 31)) - (1 : Int32))), (0, .ref 2), (1, .int a1)]) dX11_proof_39 (Nat.le_of_ble_eq_true rfl) rfl ?_
    exact JT_sub [4, 5, 3, 2, 1, 0] rfl h
  · have h := h.2 hc3
    refine JT_iconst (v := -1) dX11_proof_11 ic_m1 ?_
    exact JS_iret dX11_proof_12 rfl rfl h
set_option maxRecDepth 20000 in
theorem bX11_write (a1 : Int32) (a2 : Int32) (a3 : Int32) (a4 : Int32) {s : SM} {Q : Int32 → SM → Prop} (h : (((vX6_hasDealers s 5 a1 a2 a4) = 0 → Q (-1 : Int32) s) ∧ (¬ (vX6_hasDealers s 5 a1 a2 a4) = 0 → ((a3 < (1 : Int32) → Q (-1 : Int32) s) ∧ (¬ a3 < (1 : Int32) → ((a3 ≤ (99 : Int32) → KV MX2_note 2 [.ref 55, .ref 31] s (fun s1 => rX4_tryWrite s1 31 5 a1 a2 a3 a4 ∧ (((vX4_tryWrite s1 31 5 a1 a2 a3 a4) = 0 → Q ((gI (mX2_keepNoted (mX4_tryWrite s1 31 5 a1 a2 a3 a4) ) 31 9) - (1 : Int32)) (mX2_keepNoted (mX4_tryWrite s1 31 5 a1 a2 a3 a4) )) ∧ (¬ (vX4_tryWrite s1 31 5 a1 a2 a3 a4) = 0 → Q ((-10 : Int32) - (vX4_tryWrite s1 31 5 a1 a2 a3 a4)) (mX4_tryWrite s1 31 5 a1 a2 a3 a4))))) ∧ (¬ a3 ≤ (99 : Int32) → Q (-1 : Int32) s))))))) : KI MX11_write 5 [.ref 2, .int a1, .int a2, .int a3, .int a4] s Q := by
  show BI MX11_write 5 0 [(0, .ref 2), (1, .int a1), (2, .int a2), (3, .int a3), (4, .int a4)] s Q
  refine JT_aload_n (q := 0) dX11_write_0 rfl rfl ?_
  refine JS_getR (x := 5) dX11_write_1 flX11_19 BS_2 (Nat.le_of_ble_eq_true rfl) (Nat.le_of_ble_eq_true rfl) (Or.inl ⟨_, ct_11_1⟩) RF_2_1 ?_
  refine JT_iload_n (q := 1) dX11_write_4 rfl rfl ?_
  refine JT_iload_n (q := 2) dX11_write_5 rfl rfl ?_
  refine JT_iload (q := 4) dX11_write_6 rfl ?_
  refine JS_callVI (M' := MX6_hasDealers) (d' := 1) (As := [.int a1, .int a2, .int a4]) (rest := []) (P := (fun zv9 wm9 => (vX6_hasDealers s 5 a1 a2 a4) = zv9 ∧ s = wm9)) dX11_write_8 cvX11_296 okX6_hasDealers rfl (Nat.le_of_ble_eq_true rfl) BS_5 (Nat.le_of_ble_eq_true rfl) (Nat.le_of_ble_eq_true rfl) hci_6 (Nat.le_of_ble_eq_true rfl) (Nat.le_of_ble_eq_true rfl) (pX6_hasDealers hp_5 (a1) (a2) (a4)  ⟨rfl, rfl⟩) (fun zv9 wm9 hq9 => ?_)
  obtain ⟨rfl, rfl⟩ := hq9
  refine JT_if_eq (tgt := 25) dX11_write_11 (by decide) (fun hc8 => ?_) (fun hc8 => ?_)
  · have h := h.1 hc8
    refine JT_iconst (v := -1) dX11_write_25 ic_m1 ?_
    exact JS_iret dX11_write_26 rfl rfl h
  · have h := h.2 hc8
    refine JT_iload_n (q := 3) dX11_write_14 rfl rfl ?_
    refine JT_iconst (v := 1) dX11_write_15 ic_1 ?_
    refine JT_icmp_lt (tgt := 25) dX11_write_16 (by decide) (fun hc7 => ?_) (fun hc7 => ?_)
    · have h := h.1 hc7
      refine JT_iconst (v := -1) dX11_write_25 ic_m1 ?_
      exact JS_iret dX11_write_26 rfl rfl h
    · have h := h.2 hc7
      refine JT_iload_n (q := 3) dX11_write_19 rfl rfl ?_
      refine JT_bipush (v := 99) dX11_write_20 bp_99 ?_
      refine JT_icmp_le (tgt := 27) dX11_write_22 (by decide) (fun hc6 => ?_) (fun hc6 => ?_)
      · have h := h.1 hc6
        refine JT_aload_n (q := 0) dX11_write_27 rfl rfl ?_
        refine JS_getR (x := 55) dX11_write_28 flX11_51 BS_2 (Nat.le_of_ble_eq_true rfl) (Nat.le_of_ble_eq_true rfl) (Or.inl ⟨_, ct_11_7⟩) RF_2_7 ?_
        refine JT_aload_n (q := 0) dX11_write_31 rfl rfl ?_
        refine JS_getR (x := 31) dX11_write_32 flX11_41 BS_2 (Nat.le_of_ble_eq_true rfl) (Nat.le_of_ble_eq_true rfl) (Or.inl ⟨_, ct_11_5⟩) RF_2_5 ?_
        refine JS_callVV (M' := MX2_note) (d' := 2) (As := [.ref 31]) (rest := []) dX11_write_35 cvX11_300 okX2_note rfl (Nat.le_of_ble_eq_true rfl) BS_55 (Nat.le_of_ble_eq_true rfl) (Nat.le_of_ble_eq_true rfl) hci_2 (Nat.le_of_ble_eq_true rfl) (Nat.le_of_ble_eq_true rfl) h (fun s1 h => ?_)
        refine JT_aload_n (q := 0) dX11_write_38 rfl rfl ?_
        refine JS_getR (x := 31) dX11_write_39 flX11_41 BS_2 (Nat.le_of_ble_eq_true rfl) (Nat.le_of_ble_eq_true rfl) (Or.inl ⟨_, ct_11_5⟩) RF_2_5 ?_
        refine JT_iload_n (q := 1) dX11_write_42 rfl rfl ?_
        refine JT_iload_n (q := 2) dX11_write_43 rfl rfl ?_
        refine JT_iload_n (q := 3) dX11_write_44 rfl rfl ?_
        refine JT_iload (q := 4) dX11_write_45 rfl ?_
        obtain ⟨o5, h⟩ := h
        refine JS_callVI (M' := MX4_tryWrite) (d' := 4) (As := [.int a1, .int a2, .int a3, .int a4]) (rest := []) (P := (fun zv9 wm9 => (vX4_tryWrite s1 31 5 a1 a2 a3 a4) = zv9 ∧ (mX4_tryWrite s1 31 5 a1 a2 a3 a4) = wm9)) dX11_write_47 cvX11_304 okX4_tryWrite rfl (Nat.le_of_ble_eq_true rfl) BS_31 (Nat.le_of_ble_eq_true rfl) (Nat.le_of_ble_eq_true rfl) hci_4 (Nat.le_of_ble_eq_true rfl) (Nat.le_of_ble_eq_true rfl) (pX4_tryWrite hL_31 (a1) (a2) (a3) (a4) o5 ⟨rfl, rfl⟩) (fun zv9 wm9 hq9 => ?_)
        obtain ⟨rfl, rfl⟩ := hq9
        refine JT_istore (lv' := [(5, .int (vX4_tryWrite s1 31 5 a1 a2 a3 a4)), (0, .ref 2), (1, .int a1), (2, .int a2), (3, .int a3), (4, .int a4)]) dX11_write_50 (Nat.le_of_ble_eq_true rfl) rfl ?_
        refine JT_iload (q := 0) dX11_write_52 rfl ?_
        refine JT_if_eq (tgt := 63) dX11_write_54 (by decide) (fun hc4 => ?_) (fun hc4 => ?_)
        · have h := h.1 hc4
          refine JT_aload_n (q := 1) dX11_write_63 rfl rfl ?_
          refine JS_getR (x := 55) dX11_write_64 flX11_51 BS_2 (Nat.le_of_ble_eq_true rfl) (Nat.le_of_ble_eq_true rfl) (Or.inl ⟨_, ct_11_7⟩) RF_2_7 ?_
          refine JS_callVV (M' := MX2_keepNoted) (d' := 1) (As := []) (rest := []) (P := (fun wm9 => (mX2_keepNoted (mX4_tryWrite s1 31 5 a1 a2 a3 a4) ) = wm9)) dX11_write_67 cvX11_308 okX2_keepNoted rfl (Nat.le_of_ble_eq_true rfl) BS_55 (Nat.le_of_ble_eq_true rfl) (Nat.le_of_ble_eq_true rfl) hci_2 (Nat.le_of_ble_eq_true rfl) (Nat.le_of_ble_eq_true rfl) (pX2_keepNoted    rfl) (fun wm9 hq9 => ?_)
          subst hq9
          refine JT_aload_n (q := 1) dX11_write_70 rfl rfl ?_
          refine JS_getR (x := 31) dX11_write_71 flX11_41 BS_2 (Nat.le_of_ble_eq_true rfl) (Nat.le_of_ble_eq_true rfl) (Or.inl ⟨_, ct_11_5⟩) RF_2_5 ?_
          refine JS_getI dX11_write_74 flX11_162 BS_31 (Nat.le_of_ble_eq_true rfl) (Nat.le_of_ble_eq_true rfl) (Or.inl ct_4_9) ?_
          refine JT_iconst (v := 1) dX11_write_77 ic_1 ?_
          refine JT_isub dX11_write_78 ?_
          exact JS_iret dX11_write_79 rfl rfl h
        · have h := h.2 hc4
          refine JT_bipush (v := -10) dX11_write_57 bp_m10 ?_
          refine JT_iload (q := 0) dX11_write_59 rfl ?_
          refine JT_isub dX11_write_61 ?_
          exact JS_iret dX11_write_62 rfl rfl h
      · have h := h.2 hc6
        refine JT_iconst (v := -1) dX11_write_25 ic_m1 ?_
        exact JS_iret dX11_write_26 rfl rfl h
set_option maxRecDepth 20000 in
theorem bX12_bestOf_4 (a1 : Int32) (a2 : Int32) (a3 : Int32) {s : SM} {Q : Int32 → SM → Prop} (h : (((5 : Int32) < a3 → Q a2 s) ∧ (¬ (5 : Int32) < a3 → BI MX12_bestOf 5 19 [(0, .ref 248), (1, .int a1), (2, .int a2), (3, .int a3), (4, .int (0 : Int32))] (pI s 256 ((0 : Int32)).toNatClampNeg (-1 : Int32)) Q))) : BI MX12_bestOf 5 4 [(0, .ref 248), (1, .int a1), (2, .int a2), (3, .int a3)] s Q := by
  refine JT_iload_n (q := 3) dX12_bestOf_4 rfl rfl ?_
  refine JT_iconst (v := 5) dX12_bestOf_5 ic_5 ?_
  refine JT_icmp_gt (tgt := 246) dX12_bestOf_6 (by decide) (fun hc1 => ?_) (fun hc1 => ?_)
  · have h := h.1 hc1
    refine JT_iload_n (q := 2) dX12_bestOf_246 rfl rfl ?_
    exact JS_iret dX12_bestOf_247 rfl rfl h
  · have h := h.2 hc1
    refine JT_iconst (v := 0) dX12_bestOf_9 ic_0 ?_
    refine JT_istore (lv' := [(4, .int (0 : Int32)), (0, .ref 248), (1, .int a1), (2, .int a2), (3, .int a3)]) dX12_bestOf_10 (Nat.le_of_ble_eq_true rfl) rfl ?_
    refine JT_aload_n (q := 1) dX12_bestOf_12 rfl rfl ?_
    refine JS_getR (x := 256) dX12_bestOf_13 flX12_53 BS_248 (Nat.le_of_ble_eq_true rfl) (Nat.le_of_ble_eq_true rfl) (Or.inr ⟨_, ct_12_26⟩) RF_248_26 ?_
    refine JT_iconst (v := 0) dX12_bestOf_16 ic_0 ?_
    refine JT_iconst (v := -1) dX12_bestOf_17 ic_m1 ?_
    refine JS_iast dX12_bestOf_18 BS_256 (Nat.le_of_ble_eq_true rfl) (Nat.le_of_ble_eq_true rfl) (by unfold vp_in; decide) ?_
    exact JT_sub [1, 2, 3, 4, 0] rfl h
set_option maxRecDepth 20000 in
theorem bX12_bestOf_19 (a1 : Int32) (a2 : Int32) (a3 : Int32) (a4 : Int32) {s : SM} {Q : Int32 → SM → Prop} (h : ((a4 < 0 → BI MX12_bestOf 5 4 [(0, .ref 248), (1, .int a1), (2, .int a2), (3, .int (a3 + 1))] s Q) ∧ (¬ a4 < 0 → vp_in a4 5 ∧ vp_in a4 5 ∧ vp_in a4 5 ∧ (((gI (pI s 256 (a4).toNatClampNeg ((gI s 256 (a4).toNatClampNeg) + (1 : Int32))) 256 (a4).toNatClampNeg) < (gI (pI s 256 (a4).toNatClampNeg ((gI s 256 (a4).toNatClampNeg) + (1 : Int32))) 250 ((34 : Int32)).toNatClampNeg) → KI MX12_canRing 4 [.ref 248, .int a4] (pI s 256 (a4).toNatClampNeg ((gI s 256 (a4).toNatClampNeg) + (1 : Int32))) (fun x5 s4 => ((¬ x5 = 0 → (((a3 - (1 : Int32)) ≤ a4 → vp_in a4 5 ∧ rX12_of s4 (gI s4 256 (a4).toNatClampNeg) (1 : Int32) ∧ rX12_of s4 (gI s4 256 ((0 : Int32)).toNatClampNeg) (0 : Int32) ∧ (((vX12_of s4 (gI s4 256 (a4).toNatClampNeg) (1 : Int32)) = (vX12_of s4 (gI s4 256 ((0 : Int32)).toNatClampNeg) (0 : Int32)) → BI MX12_bestOf 5 140 [(0, .ref 248), (1, .int a1), (2, .int a2), (3, .int a3), (4, .int a4), (5, .int (if 0 ≤ a1 then (0 : Int32) else (1 : Int32))), (6, .int (0 : Int32))] s4 Q) ∧ (¬ (vX12_of s4 (gI s4 256 (a4).toNatClampNeg) (1 : Int32)) = (vX12_of s4 (gI s4 256 ((0 : Int32)).toNatClampNeg) (0 : Int32)) → BI MX12_bestOf 5 19 [(0, .ref 248), (1, .int a1), (2, .int a2), (3, .int a3), (4, .int a4)] s4 Q))) ∧ (¬ (a3 - (1 : Int32)) ≤ a4 → vp_in (a4 + 1) 5 ∧ BI MX12_bestOf 5 19 [(0, .ref 248), (1, .int a1), (2, .int a2), (3, .int a3), (4, .int (a4 + 1))] (pI s4 256 ((a4 + 1)).toNatClampNeg (gI s4 256 ((0 : Int32)).toNatClampNeg)) Q))) ∧ (x5 = 0 → BI MX12_bestOf 5 19 [(0, .ref 248), (1, .int a1), (2, .int a2), (3, .int a3), (4, .int a4)] s4 Q)))) ∧ (¬ (gI (pI s 256 (a4).toNatClampNeg ((gI s 256 (a4).toNatClampNeg) + (1 : Int32))) 256 (a4).toNatClampNeg) < (gI (pI s 256 (a4).toNatClampNeg ((gI s 256 (a4).toNatClampNeg) + (1 : Int32))) 250 ((34 : Int32)).toNatClampNeg) → BI MX12_bestOf 5 19 [(0, .ref 248), (1, .int a1), (2, .int a2), (3, .int a3), (4, .int (a4 + (-1)))] (pI s 256 (a4).toNatClampNeg ((gI s 256 (a4).toNatClampNeg) + (1 : Int32))) Q))))) : BI MX12_bestOf 5 19 [(0, .ref 248), (1, .int a1), (2, .int a2), (3, .int a3), (4, .int a4)] s Q := by
  refine JT_iload (q := 4) dX12_bestOf_19 rfl ?_
  refine JT_if_lt (tgt := 240) dX12_bestOf_21 (by decide) (fun hc16 => ?_) (fun hc16 => ?_)
  · have h := h.1 hc16
    refine JT_iinc (q := 3) (v := (a3 + 1)) (lv' := [(3, .int (a3 + 1)), (0, .ref 248), (1, .int a1), (2, .int a2), (4, .int a4)]) dX12_bestOf_240 rfl (by rfl) (Nat.le_of_ble_eq_true rfl) rfl ?_
    refine JT_goto (tgt := 4) dX12_bestOf_243 (by decide) ?_
    exact JT_sub [1, 2, 3, 0] rfl h
  · have h := h.2 hc16
    refine JT_aload_n (q := 0) dX12_bestOf_24 rfl rfl ?_
    refine JS_getR (x := 256) dX12_bestOf_25 flX12_53 BS_248 (Nat.le_of_ble_eq_true rfl) (Nat.le_of_ble_eq_true rfl) (Or.inr ⟨_, ct_12_26⟩) RF_248_26 ?_
    refine JT_iload (q := 4) dX12_bestOf_28 rfl ?_
    refine JT_dup2 dX12_bestOf_30 rfl rfl ?_
    obtain ⟨o1, h⟩ := h
    refine JS_iald dX12_bestOf_31 BS_256 (Nat.le_of_ble_eq_true rfl) (Nat.le_of_ble_eq_true rfl) o1 ?_
    refine JT_iconst (v := 1) dX12_bestOf_32 ic_1 ?_
    refine JT_iadd dX12_bestOf_33 ?_
    obtain ⟨o2, h⟩ := h
    refine JS_iast dX12_bestOf_34 BS_256 (Nat.le_of_ble_eq_true rfl) (Nat.le_of_ble_eq_true rfl) o2 ?_
    refine JT_aload_n (q := 0) dX12_bestOf_35 rfl rfl ?_
    refine JS_getR (x := 256) dX12_bestOf_36 flX12_53 BS_248 (Nat.le_of_ble_eq_true rfl) (Nat.le_of_ble_eq_true rfl) (Or.inr ⟨_, ct_12_26⟩) RF_248_26 ?_
    refine JT_iload (q := 4) dX12_bestOf_39 rfl ?_
    obtain ⟨o3, h⟩ := h
    refine JS_iald dX12_bestOf_41 BS_256 (Nat.le_of_ble_eq_true rfl) (Nat.le_of_ble_eq_true rfl) o3 ?_
    refine JT_aload_n (q := 0) dX12_bestOf_42 rfl rfl ?_
    refine JS_getR (x := 250) dX12_bestOf_43 flX12_33 BS_248 (Nat.le_of_ble_eq_true rfl) (Nat.le_of_ble_eq_true rfl) (Or.inr ⟨_, ct_12_6⟩) RF_248_6 ?_
    refine JT_bipush (v := 34) dX12_bestOf_46 bp_34 ?_
    refine JS_iald dX12_bestOf_48 BS_250 (Nat.le_of_ble_eq_true rfl) (Nat.le_of_ble_eq_true rfl) (by unfold vp_in; decide) ?_
    refine JT_icmp_lt (tgt := 58) dX12_bestOf_49 (by decide) (fun hc15 => ?_) (fun hc15 => ?_)
    · have h := h.1 hc15
      refine JT_aload_n (q := 0) dX12_bestOf_58 rfl rfl ?_
      refine JT_iload (q := 4) dX12_bestOf_59 rfl ?_
      refine JS_callVI (M' := MX12_canRing) (d' := 4) (As := [.int a4]) (rest := []) dX12_bestOf_61 cvX12_356 okX12_canRing rfl (Nat.le_of_ble_eq_true rfl) BS_248 (Nat.le_of_ble_eq_true rfl) (Nat.le_of_ble_eq_true rfl) hci_12 (Nat.le_of_ble_eq_true rfl) (Nat.le_of_ble_eq_true rfl) h (fun x5 s4 h => ?_)
      refine JT_if_ne (tgt := 70) dX12_bestOf_64 (by decide) (fun hc14 => ?_) (fun hc14 => ?_)
      · have h := h.1 hc14
        refine JT_iload (q := 4) dX12_bestOf_70 rfl ?_
        refine JT_iload_n (q := 3) dX12_bestOf_72 rfl rfl ?_
        refine JT_iconst (v := 1) dX12_bestOf_73 ic_1 ?_
        refine JT_isub dX12_bestOf_74 ?_
        refine JT_icmp_ge (tgt := 97) dX12_bestOf_75 (by decide) (fun hc13 => ?_) (fun hc13 => ?_)
        · have h := h.1 hc13
          refine JT_aload_n (q := 0) dX12_bestOf_97 rfl rfl ?_
          refine JT_aload_n (q := 0) dX12_bestOf_98 rfl rfl ?_
          refine JS_getR (x := 256) dX12_bestOf_99 flX12_53 BS_248 (Nat.le_of_ble_eq_true rfl) (Nat.le_of_ble_eq_true rfl) (Or.inr ⟨_, ct_12_26⟩) RF_248_26 ?_
          refine JT_iload (q := 4) dX12_bestOf_102 rfl ?_
          obtain ⟨o6, h⟩ := h
          refine JS_iald dX12_bestOf_104 BS_256 (Nat.le_of_ble_eq_true rfl) (Nat.le_of_ble_eq_true rfl) o6 ?_
          refine JT_iconst (v := 1) dX12_bestOf_105 ic_1 ?_
          obtain ⟨o11, h⟩ := h
          refine JS_callVI (M' := MX12_of) (d' := 0) (As := [.int (gI s4 256 (a4).toNatClampNeg), .int (1 : Int32)]) (rest := []) (P := (fun zv9 wm9 => (vX12_of s4 (gI s4 256 (a4).toNatClampNeg) (1 : Int32)) = zv9 ∧ s4 = wm9)) dX12_bestOf_106 cvX12_265 okX12_of rfl (Nat.le_of_ble_eq_true rfl) BS_248 (Nat.le_of_ble_eq_true rfl) (Nat.le_of_ble_eq_true rfl) hci_12 (Nat.le_of_ble_eq_true rfl) (Nat.le_of_ble_eq_true rfl) (pX12_of  ((gI s4 256 (a4).toNatClampNeg)) ((1 : Int32)) o11 ⟨rfl, rfl⟩) (fun zv9 wm9 hq9 => ?_)
          obtain ⟨rfl, rfl⟩ := hq9
          refine JT_aload_n (q := 0) dX12_bestOf_109 rfl rfl ?_
          refine JT_aload_n (q := 0) dX12_bestOf_110 rfl rfl ?_
          refine JS_getR (x := 256) dX12_bestOf_111 flX12_53 BS_248 (Nat.le_of_ble_eq_true rfl) (Nat.le_of_ble_eq_true rfl) (Or.inr ⟨_, ct_12_26⟩) RF_248_26 ?_
          refine JT_iconst (v := 0) dX12_bestOf_114 ic_0 ?_
          refine JS_iald dX12_bestOf_115 BS_256 (Nat.le_of_ble_eq_true rfl) (Nat.le_of_ble_eq_true rfl) (by unfold vp_in; decide) ?_
          refine JT_iconst (v := 0) dX12_bestOf_116 ic_0 ?_
          obtain ⟨o10, h⟩ := h
          refine JS_callVI (M' := MX12_of) (d' := 0) (As := [.int (gI s4 256 ((0 : Int32)).toNatClampNeg), .int (0 : Int32)]) (rest := [.int (vX12_of s4 (gI s4 256 (a4).toNatClampNeg) (1 : Int32))]) (P := (fun zv9 wm9 => (vX12_of s4 (gI s4 256 ((0 : Int32)).toNatClampNeg) (0 : Int32)) = zv9 ∧ s4 = wm9)) dX12_bestOf_117 cvX12_265 okX12_of rfl (Nat.le_of_ble_eq_true rfl) BS_248 (Nat.le_of_ble_eq_true rfl) (Nat.le_of_ble_eq_true rfl) hci_12 (Nat.le_of_ble_eq_true rfl) (Nat.le_of_ble_eq_true rfl) (pX12_of  ((gI s4 256 ((0 : Int32)).toNatClampNeg)) ((0 : Int32)) o10 ⟨rfl, rfl⟩) (fun zv9 wm9 hq9 => ?_)
          obtain ⟨rfl, rfl⟩ := hq9
          refine JT_icmp_eq (tgt := 126) dX12_bestOf_120 (by decide) (fun hc9 => ?_) (fun hc9 => ?_)
          · have h := h.1 hc9
            refine JT_iload_n (q := 1) dX12_bestOf_126 rfl rfl ?_
            have hj7 : ∀ v : Int32, v = (if 0 ≤ a1 then (0 : Int32) else (1 : Int32)) → JT MX12_bestOf 5 0 0 135 [(0, .ref 248), (1, .int a1), (2, .int a2), (3, .int a3), (4, .int a4)] [.int v] (std s4) (KQ Q) := by
              intro v hv
              subst hv
              refine JT_istore (lv' := [(5, .int (if 0 ≤ a1 then (0 : Int32) else (1 : Int32))), (0, .ref 248), (1, .int a1), (2, .int a2), (3, .int a3), (4, .int a4)]) dX12_bestOf_135 (Nat.le_of_ble_eq_true rfl) rfl ?_
              refine JT_iconst (v := 0) dX12_bestOf_137 ic_0 ?_
              refine JT_istore (lv' := [(6, .int (0 : Int32)), (5, .int (if 0 ≤ a1 then (0 : Int32) else (1 : Int32))), (0, .ref 248), (1, .int a1), (2, .int a2), (3, .int a3), (4, .int a4)]) dX12_bestOf_138 (Nat.le_of_ble_eq_true rfl) rfl ?_
              exact JT_sub [2, 3, 4, 5, 6, 1, 0] rfl h
            refine JT_if_ge (tgt := 134) dX12_bestOf_127 (by decide) (fun hc8 => ?_) (fun hc8 => ?_)
            · refine JT_iconst (v := 0) dX12_bestOf_134 ic_0 ?_
              exact hj7 _ (by rw [if_pos hc8])
            · refine JT_iconst (v := 1) dX12_bestOf_130 ic_1 ?_
              refine JT_goto (tgt := 135) dX12_bestOf_131 (by decide) ?_
              exact hj7 _ (by rw [if_neg hc8])
          · have h := h.2 hc9
            refine JT_goto (tgt := 19) dX12_bestOf_123 (by decide) ?_
            exact JT_sub [0, 1, 2, 3, 4] rfl h
        · have h := h.2 hc13
          refine JT_iinc (q := 4) (v := (a4 + 1)) (lv' := [(4, .int (a4 + 1)), (0, .ref 248), (1, .int a1), (2, .int a2), (3, .int a3)]) dX12_bestOf_78 rfl (by rfl) (Nat.le_of_ble_eq_true rfl) rfl ?_
          refine JT_aload_n (q := 1) dX12_bestOf_81 rfl rfl ?_
          refine JS_getR (x := 256) dX12_bestOf_82 flX12_53 BS_248 (Nat.le_of_ble_eq_true rfl) (Nat.le_of_ble_eq_true rfl) (Or.inr ⟨_, ct_12_26⟩) RF_248_26 ?_
          refine JT_iload (q := 0) dX12_bestOf_85 rfl ?_
          refine JT_aload_n (q := 1) dX12_bestOf_87 rfl rfl ?_
          refine JS_getR (x := 256) dX12_bestOf_88 flX12_53 BS_248 (Nat.le_of_ble_eq_true rfl) (Nat.le_of_ble_eq_true rfl) (Or.inr ⟨_, ct_12_26⟩) RF_248_26 ?_
          refine JT_iconst (v := 0) dX12_bestOf_91 ic_0 ?_
          refine JS_iald dX12_bestOf_92 BS_256 (Nat.le_of_ble_eq_true rfl) (Nat.le_of_ble_eq_true rfl) (by unfold vp_in; decide) ?_
          obtain ⟨o12, h⟩ := h
          refine JS_iast dX12_bestOf_93 BS_256 (Nat.le_of_ble_eq_true rfl) (Nat.le_of_ble_eq_true rfl) o12 ?_
          refine JT_goto (tgt := 19) dX12_bestOf_94 (by decide) ?_
          exact JT_sub [1, 2, 3, 4, 0] rfl h
      · have h := h.2 hc14
        refine JT_goto (tgt := 19) dX12_bestOf_67 (by decide) ?_
        exact JT_sub [0, 1, 2, 3, 4] rfl h
    · have h := h.2 hc15
      refine JT_iinc (q := 4) (v := (a4 + (-1))) (lv' := [(4, .int (a4 + (-1))), (0, .ref 248), (1, .int a1), (2, .int a2), (3, .int a3)]) dX12_bestOf_52 rfl (by rfl) (Nat.le_of_ble_eq_true rfl) rfl ?_
      refine JT_goto (tgt := 19) dX12_bestOf_55 (by decide) ?_
      exact JT_sub [1, 2, 3, 4, 0] rfl h
set_option maxRecDepth 20000 in
theorem bX12_bestOf_140 (a1 : Int32) (a2 : Int32) (a3 : Int32) (a4 : Int32) (a5 : Int32) (a6 : Int32) {s : SM} {Q : Int32 → SM → Prop} (h : ((a3 ≤ a6 → ((a5 = 0 → ((a2 < (-1 : Int32) → BI MX12_bestOf 5 211 [(0, .ref 248), (1, .int a1), (2, .int (-1 : Int32)), (3, .int a3), (4, .int a4), (5, .int a5), (6, .int (-1 : Int32)), (7, .int (0 : Int32))] (pI s 248 29 a3) Q) ∧ (¬ a2 < (-1 : Int32) → BI MX12_bestOf 5 19 [(0, .ref 248), (1, .int a1), (2, .int a2), (3, .int a3), (4, .int a4)] s Q))) ∧ (¬ a5 = 0 → KI MX12_freesOf 3 [.ref 248, .int a3] s (fun x3 s2 => ((a2 < x3 → BI MX12_bestOf 5 211 [(0, .ref 248), (1, .int a1), (2, .int x3), (3, .int a3), (4, .int a4), (5, .int a5), (6, .int x3), (7, .int (0 : Int32))] (pI s2 248 29 a3) Q) ∧ (¬ a2 < x3 → BI MX12_bestOf 5 19 [(0, .ref 248), (1, .int a1), (2, .int a2), (3, .int a3), (4, .int a4)] s2 Q)))))) ∧ (¬ a3 ≤ a6 → ((¬ a5 = 0 → BI MX12_bestOf 5 140 [(0, .ref 248), (1, .int a1), (2, .int a2), (3, .int a3), (4, .int a4), (5, .int (1 : Int32)), (6, .int (a6 + 1))] s Q) ∧ (a5 = 0 → vp_in a6 5 ∧ BI MX12_bestOf 5 140 [(0, .ref 248), (1, .int a1), (2, .int a2), (3, .int a3), (4, .int a4), (5, .int (if (gI s 256 (a6).toNatClampNeg) = a1 then (1 : Int32) else (0 : Int32))), (6, .int (a6 + 1))] s Q))))) : BI MX12_bestOf 5 140 [(0, .ref 248), (1, .int a1), (2, .int a2), (3, .int a3), (4, .int a4), (5, .int a5), (6, .int a6)] s Q := by
  refine JT_iload (q := 6) dX12_bestOf_140 rfl ?_
  refine JT_iload_n (q := 3) dX12_bestOf_142 rfl rfl ?_
  refine JT_icmp_ge (tgt := 175) dX12_bestOf_143 (by decide) (fun hc10 => ?_) (fun hc10 => ?_)
  · have h := h.1 hc10
    refine JT_iload (q := 5) dX12_bestOf_175 rfl ?_
    refine JT_if_eq (tgt := 188) dX12_bestOf_177 (by decide) (fun hc5 => ?_) (fun hc5 => ?_)
    · have h := h.1 hc5
      refine JT_iconst (v := -1) dX12_bestOf_188 ic_m1 ?_
      refine JT_istore (lv' := [(6, .int (-1 : Int32)), (0, .ref 248), (1, .int a1), (2, .int a2), (3, .int a3), (4, .int a4), (5, .int a5)]) dX12_bestOf_189 (Nat.le_of_ble_eq_true rfl) rfl ?_
      refine JT_iload (q := 0) dX12_bestOf_191 rfl ?_
      refine JT_iload_n (q := 3) dX12_bestOf_193 rfl rfl ?_
      refine JT_icmp_gt (tgt := 200) dX12_bestOf_194 (by decide) (fun hc1 => ?_) (fun hc1 => ?_)
      · have h := h.1 hc1
        refine JT_iload (q := 0) dX12_bestOf_200 rfl ?_
        refine JT_istore_n (lv' := [(2, .int (-1 : Int32)), (6, .int (-1 : Int32)), (0, .ref 248), (1, .int a1), (3, .int a3), (4, .int a4), (5, .int a5)]) dX12_bestOf_202 rfl (Nat.le_of_ble_eq_true rfl) rfl ?_
        refine JT_aload_n (q := 2) dX12_bestOf_203 rfl rfl ?_
        refine JT_iload_n (q := 4) dX12_bestOf_204 rfl rfl ?_
        refine JS_putI dX12_bestOf_205 flX12_362 BS_248 (Nat.le_of_ble_eq_true rfl) (Nat.le_of_ble_eq_true rfl) ct_12_29 ?_
        refine JT_iconst (v := 0) dX12_bestOf_208 ic_0 ?_
        refine JT_istore (lv' := [(7, .int (0 : Int32)), (2, .int (-1 : Int32)), (6, .int (-1 : Int32)), (0, .ref 248), (1, .int a1), (3, .int a3), (4, .int a4), (5, .int a5)]) dX12_bestOf_209 (Nat.le_of_ble_eq_true rfl) rfl ?_
        exact JT_sub [3, 4, 1, 5, 6, 7, 2, 0] rfl h
      · have h := h.2 hc1
        refine JT_goto (tgt := 19) dX12_bestOf_197 (by decide) ?_
        exact JT_sub [1, 2, 3, 4, 5] rfl h
    · have h := h.2 hc5
      refine JT_aload_n (q := 0) dX12_bestOf_180 rfl rfl ?_
      refine JT_iload_n (q := 3) dX12_bestOf_181 rfl rfl ?_
      refine JS_callVI (M' := MX12_freesOf) (d' := 3) (As := [.int a3]) (rest := []) dX12_bestOf_182 cvX12_359 okX12_freesOf rfl (Nat.le_of_ble_eq_true rfl) BS_248 (Nat.le_of_ble_eq_true rfl) (Nat.le_of_ble_eq_true rfl) hci_12 (Nat.le_of_ble_eq_true rfl) (Nat.le_of_ble_eq_true rfl) h (fun x3 s2 h => ?_)
      refine JT_goto (tgt := 189) dX12_bestOf_185 (by decide) ?_
      refine JT_istore (lv' := [(6, .int x3), (0, .ref 248), (1, .int a1), (2, .int a2), (3, .int a3), (4, .int a4), (5, .int a5)]) dX12_bestOf_189 (Nat.le_of_ble_eq_true rfl) rfl ?_
      refine JT_iload (q := 0) dX12_bestOf_191 rfl ?_
      refine JT_iload_n (q := 3) dX12_bestOf_193 rfl rfl ?_
      refine JT_icmp_gt (tgt := 200) dX12_bestOf_194 (by decide) (fun hc4 => ?_) (fun hc4 => ?_)
      · have h := h.1 hc4
        refine JT_iload (q := 0) dX12_bestOf_200 rfl ?_
        refine JT_istore_n (lv' := [(2, .int x3), (6, .int x3), (0, .ref 248), (1, .int a1), (3, .int a3), (4, .int a4), (5, .int a5)]) dX12_bestOf_202 rfl (Nat.le_of_ble_eq_true rfl) rfl ?_
        refine JT_aload_n (q := 2) dX12_bestOf_203 rfl rfl ?_
        refine JT_iload_n (q := 4) dX12_bestOf_204 rfl rfl ?_
        refine JS_putI dX12_bestOf_205 flX12_362 BS_248 (Nat.le_of_ble_eq_true rfl) (Nat.le_of_ble_eq_true rfl) ct_12_29 ?_
        refine JT_iconst (v := 0) dX12_bestOf_208 ic_0 ?_
        refine JT_istore (lv' := [(7, .int (0 : Int32)), (2, .int x3), (6, .int x3), (0, .ref 248), (1, .int a1), (3, .int a3), (4, .int a4), (5, .int a5)]) dX12_bestOf_209 (Nat.le_of_ble_eq_true rfl) rfl ?_
        exact JT_sub [3, 4, 1, 5, 6, 7, 2, 0] rfl h
      · have h := h.2 hc4
        refine JT_goto (tgt := 19) dX12_bestOf_197 (by decide) ?_
        exact JT_sub [1, 2, 3, 4, 5] rfl h
  · have h := h.2 hc10
    refine JT_iload (q := 5) dX12_bestOf_146 rfl ?_
    refine JT_if_ne (tgt := 162) dX12_bestOf_148 (by decide) (fun hc9 => ?_) (fun hc9 => ?_)
    · have h := h.1 hc9
      refine JT_iconst (v := 1) dX12_bestOf_162 ic_1 ?_
      refine JT_goto (tgt := 167) dX12_bestOf_163 (by decide) ?_
      refine JT_istore (lv' := [(5, .int (1 : Int32)), (0, .ref 248), (1, .int a1), (2, .int a2), (3, .int a3), (4, .int a4), (6, .int a6)]) dX12_bestOf_167 (Nat.le_of_ble_eq_true rfl) rfl ?_
      refine JT_iinc (q := 6) (v := (a6 + 1)) (lv' := [(6, .int (a6 + 1)), (5, .int (1 : Int32)), (0, .ref 248), (1, .int a1), (2, .int a2), (3, .int a3), (4, .int a4)]) dX12_bestOf_169 rfl (by rfl) (Nat.le_of_ble_eq_true rfl) rfl ?_
      refine JT_goto (tgt := 140) dX12_bestOf_172 (by decide) ?_
      exact JT_sub [2, 3, 4, 5, 6, 1, 0] rfl h
    · have h := h.2 hc9
      refine JT_aload_n (q := 0) dX12_bestOf_151 rfl rfl ?_
      refine JS_getR (x := 256) dX12_bestOf_152 flX12_53 BS_248 (Nat.le_of_ble_eq_true rfl) (Nat.le_of_ble_eq_true rfl) (Or.inr ⟨_, ct_12_26⟩) RF_248_26 ?_
      refine JT_iload (q := 6) dX12_bestOf_155 rfl ?_
      obtain ⟨o6, h⟩ := h
      refine JS_iald dX12_bestOf_157 BS_256 (Nat.le_of_ble_eq_true rfl) (Nat.le_of_ble_eq_true rfl) o6 ?_
      refine JT_iload_n (q := 1) dX12_bestOf_158 rfl rfl ?_
      have hj7 : ∀ v : Int32, v = (if (gI s 256 (a6).toNatClampNeg) = a1 then (1 : Int32) else (0 : Int32)) → JT MX12_bestOf 5 0 0 167 [(0, .ref 248), (1, .int a1), (2, .int a2), (3, .int a3), (4, .int a4), (5, .int a5), (6, .int a6)] [.int v] (std s) (KQ Q) := by
        intro v hv
        subst hv
        refine JT_istore (lv' := [(5, .int (if (gI s 256 (a6).toNatClampNeg) = a1 then (1 : Int32) else (0 : Int32))), (0, .ref 248), (1, .int a1), (2, .int a2), (3, .int a3), (4, .int a4), (6, .int a6)]) dX12_bestOf_167 (Nat.le_of_ble_eq_true rfl) rfl ?_
        refine JT_iinc (q := 6) (v := (a6 + 1)) (lv' := [(6, .int (a6 + 1)), (5, .int (if (gI s 256 (a6).toNatClampNeg) = a1 then (1 : Int32) else (0 : Int32))), (0, .ref 248), (1, .int a1), (2, .int a2), (3, .int a3), (4, .int a4)]) dX12_bestOf_169 rfl (by rfl) (Nat.le_of_ble_eq_true rfl) rfl ?_
        refine JT_goto (tgt := 140) dX12_bestOf_172 (by decide) ?_
        exact JT_sub [2, 3, 4, 5, 6, 1, 0] rfl h
      refine JT_icmp_ne (tgt := 166) dX12_bestOf_159 (by decide) (fun hc8 => ?_) (fun hc8 => ?_)
      · refine JT_iconst (v := 0) dX12_bestOf_166 ic_0 ?_
        exact hj7 _ (by rw [if_neg hc8])
      · refine JT_iconst (v := 1) dX12_bestOf_162 ic_1 ?_
        refine JT_goto (tgt := 167) dX12_bestOf_163 (by decide) ?_
        exact hj7 _ (by rw [if_pos hc8])
set_option maxRecDepth 20000 in
theorem bX12_bestOf_211 (a1 : Int32) (a2 : Int32) (a3 : Int32) (a4 : Int32) (a5 : Int32) (a6 : Int32) (a7 : Int32) {s : SM} {Q : Int32 → SM → Prop} (h : ((a3 ≤ a7 → BI MX12_bestOf 5 19 [(0, .ref 248), (1, .int a1), (2, .int a2), (3, .int a3), (4, .int a4)] s Q) ∧ (¬ a3 ≤ a7 → vp_in a7 5 ∧ vp_in a7 5 ∧ BI MX12_bestOf 5 211 [(0, .ref 248), (1, .int a1), (2, .int a2), (3, .int a3), (4, .int a4), (5, .int a5), (6, .int a6), (7, .int (a7 + 1))] (pI s 257 (a7).toNatClampNeg (gI s 256 (a7).toNatClampNeg)) Q))) : BI MX12_bestOf 5 211 [(0, .ref 248), (1, .int a1), (2, .int a2), (3, .int a3), (4, .int a4), (5, .int a5), (6, .int a6), (7, .int a7)] s Q := by
  refine JT_iload (q := 7) dX12_bestOf_211 rfl ?_
  refine JT_iload_n (q := 3) dX12_bestOf_213 rfl rfl ?_
  refine JT_icmp_ge (tgt := 237) dX12_bestOf_214 (by decide) (fun hc3 => ?_) (fun hc3 => ?_)
  · have h := h.1 hc3
    refine JT_goto (tgt := 19) dX12_bestOf_237 (by decide) ?_
    exact JT_sub [0, 1, 2, 3, 4] rfl h
  · have h := h.2 hc3
    refine JT_aload_n (q := 0) dX12_bestOf_217 rfl rfl ?_
    refine JS_getR (x := 257) dX12_bestOf_218 flX12_56 BS_248 (Nat.le_of_ble_eq_true rfl) (Nat.le_of_ble_eq_true rfl) (Or.inr ⟨_, ct_12_27⟩) RF_248_27 ?_
    refine JT_iload (q := 7) dX12_bestOf_221 rfl ?_
    refine JT_aload_n (q := 0) dX12_bestOf_223 rfl rfl ?_
    refine JS_getR (x := 256) dX12_bestOf_224 flX12_53 BS_248 (Nat.le_of_ble_eq_true rfl) (Nat.le_of_ble_eq_true rfl) (Or.inr ⟨_, ct_12_26⟩) RF_248_26 ?_
    refine JT_iload (q := 7) dX12_bestOf_227 rfl ?_
    obtain ⟨o1, h⟩ := h
    refine JS_iald dX12_bestOf_229 BS_256 (Nat.le_of_ble_eq_true rfl) (Nat.le_of_ble_eq_true rfl) o1 ?_
    obtain ⟨o2, h⟩ := h
    refine JS_iast dX12_bestOf_230 BS_257 (Nat.le_of_ble_eq_true rfl) (Nat.le_of_ble_eq_true rfl) o2 ?_
    refine JT_iinc (q := 7) (v := (a7 + 1)) (lv' := [(7, .int (a7 + 1)), (0, .ref 248), (1, .int a1), (2, .int a2), (3, .int a3), (4, .int a4), (5, .int a5), (6, .int a6)]) dX12_bestOf_231 rfl (by rfl) (Nat.le_of_ble_eq_true rfl) rfl ?_
    refine JT_goto (tgt := 211) dX12_bestOf_234 (by decide) ?_
    exact JT_sub [1, 2, 3, 4, 5, 6, 7, 0] rfl h
set_option maxRecDepth 20000 in
theorem bX12_bestOf (a1 : Int32) {s : SM} {Q : Int32 → SM → Prop} (h : BI MX12_bestOf 5 4 [(0, .ref 248), (1, .int a1), (2, .int (-1 : Int32)), (3, .int (2 : Int32))] s Q) : KI MX12_bestOf 5 [.ref 248, .int a1] s Q := by
  show BI MX12_bestOf 5 0 [(0, .ref 248), (1, .int a1)] s Q
  refine JT_iconst (v := -1) dX12_bestOf_0 ic_m1 ?_
  refine JT_istore_n (lv' := [(2, .int (-1 : Int32)), (0, .ref 248), (1, .int a1)]) dX12_bestOf_1 rfl (Nat.le_of_ble_eq_true rfl) rfl ?_
  refine JT_iconst (v := 2) dX12_bestOf_2 ic_2 ?_
  refine JT_istore_n (lv' := [(3, .int (2 : Int32)), (2, .int (-1 : Int32)), (0, .ref 248), (1, .int a1)]) dX12_bestOf_3 rfl (Nat.le_of_ble_eq_true rfl) rfl ?_
  exact JT_sub [2, 3, 1, 0] rfl h
set_option maxRecDepth 20000 in
theorem bX12_can_28 (a1 : Int32) (a2 : Int32) (a3 : Int32) (a4 : Int32) {s : SM} {Q : Int32 → SM → Prop} (h : (((gI s 250 ((0 : Int32)).toNatClampNeg) ≤ a4 → Q a3 s) ∧ (¬ (gI s 250 ((0 : Int32)).toNatClampNeg) ≤ a4 → KI MX12_whyWrite 4 [.ref 248, .int a1, .int a4, .int a2] s (fun x2 s1 => BI MX12_can 5 28 [(0, .ref 248), (1, .int a1), (2, .int a2), (3, .int (a3 ||| (if x2 = 0 then ((1 : Int32) <<< (a4 &&& 31)) else (0 : Int32)))), (4, .int (a4 + 1))] s1 Q)))) : BI MX12_can 5 28 [(0, .ref 248), (1, .int a1), (2, .int a2), (3, .int a3), (4, .int a4)] s Q := by
  refine JT_iload (q := 4) dX12_can_28 rfl ?_
  refine JT_aload_n (q := 0) dX12_can_30 rfl rfl ?_
  refine JS_getR (x := 250) dX12_can_31 flX12_33 BS_248 (Nat.le_of_ble_eq_true rfl) (Nat.le_of_ble_eq_true rfl) (Or.inr ⟨_, ct_12_6⟩) RF_248_6 ?_
  refine JT_iconst (v := 0) dX12_can_34 ic_0 ?_
  refine JS_iald dX12_can_35 BS_250 (Nat.le_of_ble_eq_true rfl) (Nat.le_of_ble_eq_true rfl) (by unfold vp_in; decide) ?_
  refine JT_icmp_ge (tgt := 67) dX12_can_36 (by decide) (fun hc5 => ?_) (fun hc5 => ?_)
  · have h := h.1 hc5
    refine JT_iload_n (q := 3) dX12_can_67 rfl rfl ?_
    exact JS_iret dX12_can_68 rfl rfl h
  · have h := h.2 hc5
    refine JT_iload_n (q := 3) dX12_can_39 rfl rfl ?_
    refine JT_aload_n (q := 0) dX12_can_40 rfl rfl ?_
    refine JT_iload_n (q := 1) dX12_can_41 rfl rfl ?_
    refine JT_iload (q := 4) dX12_can_42 rfl ?_
    refine JT_iload_n (q := 2) dX12_can_44 rfl rfl ?_
    refine JS_callVI (M' := MX12_whyWrite) (d' := 4) (As := [.int a1, .int a4, .int a2]) (rest := [.int a3]) dX12_can_45 cvX12_326 okX12_whyWrite rfl (Nat.le_of_ble_eq_true rfl) BS_248 (Nat.le_of_ble_eq_true rfl) (Nat.le_of_ble_eq_true rfl) hci_12 (Nat.le_of_ble_eq_true rfl) (Nat.le_of_ble_eq_true rfl) h (fun x2 s1 h => ?_)
    have hj3 : ∀ v : Int32, v = (if x2 = 0 then ((1 : Int32) <<< (a4 &&& 31)) else (0 : Int32)) → JT MX12_can 5 0 0 59 [(0, .ref 248), (1, .int a1), (2, .int a2), (3, .int a3), (4, .int a4)] [.int v, .int a3] (std s1) (KQ Q) := by
      intro v hv
      subst hv
      refine JT_ior dX12_can_59 ?_
      refine JT_istore_n (lv' := [(3, .int (a3 ||| (if x2 = 0 then ((1 : Int32) <<< (a4 &&& 31)) else (0 : Int32)))), (0, .ref 248), (1, .int a1), (2, .int a2), (4, .int a4)]) dX12_can_60 rfl (Nat.le_of_ble_eq_true rfl) rfl ?_
      refine JT_iinc (q := 4) (v := (a4 + 1)) (lv' := [(4, .int (a4 + 1)), (3, .int (a3 ||| (if x2 = 0 then ((1 : Int32) <<< (a4 &&& 31)) else (0 : Int32)))), (0, .ref 248), (1, .int a1), (2, .int a2)]) dX12_can_61 rfl (by rfl) (Nat.le_of_ble_eq_true rfl) rfl ?_
      refine JT_goto (tgt := 28) dX12_can_64 (by decide) ?_
      exact JT_sub [2, 3, 4, 1, 0] rfl h
    refine JT_if_ne (tgt := 58) dX12_can_48 (by decide) (fun hc4 => ?_) (fun hc4 => ?_)
    · refine JT_iconst (v := 0) dX12_can_58 ic_0 ?_
      exact hj3 _ (by rw [if_neg hc4])
    · refine JT_iconst (v := 1) dX12_can_51 ic_1 ?_
      refine JT_iload (q := 4) dX12_can_52 rfl ?_
      refine JT_ishl dX12_can_54 ?_
      refine JT_goto (tgt := 59) dX12_can_55 (by decide) ?_
      exact hj3 _ (by rw [if_pos hc4])
set_option maxRecDepth 20000 in
theorem bX12_can (a1 : Int32) (a2 : Int32) {s : SM} {Q : Int32 → SM → Prop} (h : (((vX12_isBody (pI s 248 0 (0 : Int32)) a1) = 0 → Q (-1 : Int32) (pI s 248 0 (0 : Int32))) ∧ (¬ (vX12_isBody (pI s 248 0 (0 : Int32)) a1) = 0 → ((¬ (vX12_isKind (pI s 248 0 (0 : Int32)) a2) = 0 → BI MX12_can 5 28 [(0, .ref 248), (1, .int a1), (2, .int a2), (3, .int (0 : Int32)), (4, .int (0 : Int32))] (pI s 248 0 (0 : Int32)) Q) ∧ ((vX12_isKind (pI s 248 0 (0 : Int32)) a2) = 0 → Q (-1 : Int32) (pI s 248 0 (0 : Int32))))))) : KI MX12_can 5 [.ref 248, .int a1, .int a2] s Q := by
  show BI MX12_can 5 0 [(0, .ref 248), (1, .int a1), (2, .int a2)] s Q
  refine JT_aload_n (q := 0) dX12_can_0 rfl rfl ?_
  refine JT_iconst (v := 0) dX12_can_1 ic_0 ?_
  refine JS_putI dX12_can_2 flX12_1 BS_248 (Nat.le_of_ble_eq_true rfl) (Nat.le_of_ble_eq_true rfl) ct_12_0 ?_
  refine JT_aload_n (q := 0) dX12_can_5 rfl rfl ?_
  refine JT_iload_n (q := 1) dX12_can_6 rfl rfl ?_
  refine JS_callVI (M' := MX12_isBody) (d' := 1) (As := [.int a1]) (rest := []) (P := (fun zv9 wm9 => (vX12_isBody (pI s 248 0 (0 : Int32)) a1) = zv9 ∧ (pI s 248 0 (0 : Int32)) = wm9)) dX12_can_7 cvX12_287 okX12_isBody rfl (Nat.le_of_ble_eq_true rfl) BS_248 (Nat.le_of_ble_eq_true rfl) (Nat.le_of_ble_eq_true rfl) hci_12 (Nat.le_of_ble_eq_true rfl) (Nat.le_of_ble_eq_true rfl) (pX12_isBody  (a1)  ⟨rfl, rfl⟩) (fun zv9 wm9 hq9 => ?_)
  obtain ⟨rfl, rfl⟩ := hq9
  refine JT_if_eq (tgt := 21) dX12_can_10 (by decide) (fun hc3 => ?_) (fun hc3 => ?_)
  · have h := h.1 hc3
    refine JT_iconst (v := -1) dX12_can_21 ic_m1 ?_
    exact JS_iret dX12_can_22 rfl rfl h
  · have h := h.2 hc3
    refine JT_aload_n (q := 0) dX12_can_13 rfl rfl ?_
    refine JT_iload_n (q := 2) dX12_can_14 rfl rfl ?_
    refine JS_callVI (M' := MX12_isKind) (d' := 1) (As := [.int a2]) (rest := []) (P := (fun zv9 wm9 => (vX12_isKind (pI s 248 0 (0 : Int32)) a2) = zv9 ∧ (pI s 248 0 (0 : Int32)) = wm9)) dX12_can_15 cvX12_306 okX12_isKind rfl (Nat.le_of_ble_eq_true rfl) BS_248 (Nat.le_of_ble_eq_true rfl) (Nat.le_of_ble_eq_true rfl) hci_12 (Nat.le_of_ble_eq_true rfl) (Nat.le_of_ble_eq_true rfl) (pX12_isKind  (a2)  ⟨rfl, rfl⟩) (fun zv9 wm9 hq9 => ?_)
    obtain ⟨rfl, rfl⟩ := hq9
    refine JT_if_ne (tgt := 23) dX12_can_18 (by decide) (fun hc1 => ?_) (fun hc1 => ?_)
    · have h := h.1 hc1
      refine JT_iconst (v := 0) dX12_can_23 ic_0 ?_
      refine JT_istore_n (lv' := [(3, .int (0 : Int32)), (0, .ref 248), (1, .int a1), (2, .int a2)]) dX12_can_24 rfl (Nat.le_of_ble_eq_true rfl) rfl ?_
      refine JT_iconst (v := 0) dX12_can_25 ic_0 ?_
      refine JT_istore (lv' := [(4, .int (0 : Int32)), (3, .int (0 : Int32)), (0, .ref 248), (1, .int a1), (2, .int a2)]) dX12_can_26 (Nat.le_of_ble_eq_true rfl) rfl ?_
      exact JT_sub [2, 3, 4, 1, 0] rfl h
    · have h := h.2 hc1
      refine JT_iconst (v := -1) dX12_can_21 ic_m1 ?_
      exact JS_iret dX12_can_22 rfl rfl h
set_option maxRecDepth 20000 in
theorem bX12_isFit_2 (a1 : Int32) (a2 : Int32) {s : SM} {Q : Int32 → SM → Prop} (h : (((gI s 250 ((0 : Int32)).toNatClampNeg) ≤ a2 → BI MX12_isFit 5 32 [(0, .ref 248), (1, .int a1), (2, .int (0 : Int32))] s Q) ∧ (¬ (gI s 250 ((0 : Int32)).toNatClampNeg) ≤ a2 → vp_in a2 9 ∧ vp_in a2 9 ∧ BI MX12_isFit 5 2 [(0, .ref 248), (1, .int a1), (2, .int (a2 + 1))] (pI s 261 (a2).toNatClampNeg (gI s 274 (a2).toNatClampNeg)) Q))) : BI MX12_isFit 5 2 [(0, .ref 248), (1, .int a1), (2, .int a2)] s Q := by
  refine JT_iload_n (q := 2) dX12_isFit_2 rfl rfl ?_
  refine JT_aload_n (q := 0) dX12_isFit_3 rfl rfl ?_
  refine JS_getR (x := 250) dX12_isFit_4 flX12_33 BS_248 (Nat.le_of_ble_eq_true rfl) (Nat.le_of_ble_eq_true rfl) (Or.inr ⟨_, ct_12_6⟩) RF_248_6 ?_
  refine JT_iconst (v := 0) dX12_isFit_7 ic_0 ?_
  refine JS_iald dX12_isFit_8 BS_250 (Nat.le_of_ble_eq_true rfl) (Nat.le_of_ble_eq_true rfl) (by unfold vp_in; decide) ?_
  refine JT_icmp_ge (tgt := 30) dX12_isFit_9 (by decide) (fun hc3 => ?_) (fun hc3 => ?_)
  · have h := h.1 hc3
    refine JT_iconst (v := 0) dX12_isFit_30 ic_0 ?_
    refine JT_istore_n (lv' := [(2, .int (0 : Int32)), (0, .ref 248), (1, .int a1)]) dX12_isFit_31 rfl (Nat.le_of_ble_eq_true rfl) rfl ?_
    exact JT_sub [1, 2, 0] rfl h
  · have h := h.2 hc3
    refine JT_aload_n (q := 0) dX12_isFit_12 rfl rfl ?_
    refine JS_getR (x := 261) dX12_isFit_13 flX12_68 BS_248 (Nat.le_of_ble_eq_true rfl) (Nat.le_of_ble_eq_true rfl) (Or.inr ⟨_, ct_12_33⟩) RF_248_33 ?_
    refine JT_iload_n (q := 2) dX12_isFit_16 rfl rfl ?_
    refine JT_aload_n (q := 0) dX12_isFit_17 rfl rfl ?_
    refine JS_getR (x := 274) dX12_isFit_18 flX12_113 BS_248 (Nat.le_of_ble_eq_true rfl) (Nat.le_of_ble_eq_true rfl) (Or.inr ⟨_, ct_12_52⟩) RF_248_52 ?_
    refine JT_iload_n (q := 2) dX12_isFit_21 rfl rfl ?_
    obtain ⟨o1, h⟩ := h
    refine JS_iald dX12_isFit_22 BS_274 (Nat.le_of_ble_eq_true rfl) (Nat.le_of_ble_eq_true rfl) o1 ?_
    obtain ⟨o2, h⟩ := h
    refine JS_iast dX12_isFit_23 BS_261 (Nat.le_of_ble_eq_true rfl) (Nat.le_of_ble_eq_true rfl) o2 ?_
    refine JT_iinc (q := 2) (v := (a2 + 1)) (lv' := [(2, .int (a2 + 1)), (0, .ref 248), (1, .int a1)]) dX12_isFit_24 rfl (by rfl) (Nat.le_of_ble_eq_true rfl) rfl ?_
    refine JT_goto (tgt := 2) dX12_isFit_27 (by decide) ?_
    exact JT_sub [1, 2, 0] rfl h
set_option maxRecDepth 20000 in
theorem bX12_isFit_32 (a1 : Int32) (a2 : Int32) {s : SM} {Q : Int32 → SM → Prop} (h : ((a1 ≤ a2 → BI MX12_isFit 5 100 [(0, .ref 248), (1, .int a1), (2, .int (0 : Int32))] s Q) ∧ (¬ a1 ≤ a2 → KI MX12_lostOf 4 [.ref 248, .int a2] s (fun x2 s1 => vp_in a2 4 ∧ rX12_sortOf s1 x2 ∧ rX12_of s1 x2 (0 : Int32) ∧ vp_in (vX12_of s1 x2 (0 : Int32)) 9 ∧ vp_in (vX12_of s1 x2 (0 : Int32)) 9 ∧ (∀ s6, s6 = (pI s1 261 ((vX12_of s1 x2 (0 : Int32))).toNatClampNeg ((gI s1 261 ((vX12_of s1 x2 (0 : Int32))).toNatClampNeg) + (vX12_valueBy s1 (gI s1 272 (a2).toNatClampNeg) (vX12_sortOf s1 x2)))) → rX12_of s6 x2 (1 : Int32) ∧ vp_in (vX12_of s6 x2 (1 : Int32)) 9 ∧ vp_in (vX12_of s6 x2 (1 : Int32)) 9 ∧ (∀ s9, s9 = (pI s6 261 ((vX12_of s6 x2 (1 : Int32))).toNatClampNeg ((gI s6 261 ((vX12_of s6 x2 (1 : Int32))).toNatClampNeg) - (vX12_valueBy s1 (gI s1 272 (a2).toNatClampNeg) (vX12_sortOf s1 x2)))) → BI MX12_isFit 5 32 [(0, .ref 248), (1, .int a1), (2, .int (a2 + 1))] s9 Q)))))) : BI MX12_isFit 5 32 [(0, .ref 248), (1, .int a1), (2, .int a2)] s Q := by
  refine JT_iload_n (q := 2) dX12_isFit_32 rfl rfl ?_
  refine JT_iload_n (q := 1) dX12_isFit_33 rfl rfl ?_
  refine JT_icmp_ge (tgt := 98) dX12_isFit_34 (by decide) (fun hc14 => ?_) (fun hc14 => ?_)
  · have h := h.1 hc14
    refine JT_iconst (v := 0) dX12_isFit_98 ic_0 ?_
    refine JT_istore_n (lv' := [(2, .int (0 : Int32)), (0, .ref 248), (1, .int a1)]) dX12_isFit_99 rfl (Nat.le_of_ble_eq_true rfl) rfl ?_
    exact JT_sub [1, 2, 0] rfl h
  · have h := h.2 hc14
    refine JT_aload_n (q := 0) dX12_isFit_37 rfl rfl ?_
    refine JT_iload_n (q := 2) dX12_isFit_38 rfl rfl ?_
    refine JS_callVI (M' := MX12_lostOf) (d' := 4) (As := [.int a2]) (rest := []) dX12_isFit_39 cvX12_436 okX12_lostOf rfl (Nat.le_of_ble_eq_true rfl) BS_248 (Nat.le_of_ble_eq_true rfl) (Nat.le_of_ble_eq_true rfl) hci_12 (Nat.le_of_ble_eq_true rfl) (Nat.le_of_ble_eq_true rfl) h (fun x2 s1 h => ?_)
    refine JT_istore_n (lv' := [(3, .int x2), (0, .ref 248), (1, .int a1), (2, .int a2)]) dX12_isFit_42 rfl (Nat.le_of_ble_eq_true rfl) rfl ?_
    refine JT_aload_n (q := 1) dX12_isFit_43 rfl rfl ?_
    refine JT_aload_n (q := 1) dX12_isFit_44 rfl rfl ?_
    refine JS_getR (x := 272) dX12_isFit_45 flX12_107 BS_248 (Nat.le_of_ble_eq_true rfl) (Nat.le_of_ble_eq_true rfl) (Or.inr ⟨_, ct_12_50⟩) RF_248_50 ?_
    refine JT_iload_n (q := 3) dX12_isFit_48 rfl rfl ?_
    obtain ⟨o3, h⟩ := h
    refine JS_iald dX12_isFit_49 BS_272 (Nat.le_of_ble_eq_true rfl) (Nat.le_of_ble_eq_true rfl) o3 ?_
    refine JT_aload_n (q := 1) dX12_isFit_50 rfl rfl ?_
    refine JT_iload_n (q := 0) dX12_isFit_51 rfl rfl ?_
    obtain ⟨o13, h⟩ := h
    refine JS_callVI (M' := MX12_sortOf) (d' := 1) (As := [.int x2]) (rest := [.int (gI s1 272 (a2).toNatClampNeg), .ref 248]) (P := (fun zv9 wm9 => (vX12_sortOf s1 x2) = zv9 ∧ s1 = wm9)) dX12_isFit_52 cvX12_272 okX12_sortOf rfl (Nat.le_of_ble_eq_true rfl) BS_248 (Nat.le_of_ble_eq_true rfl) (Nat.le_of_ble_eq_true rfl) hci_12 (Nat.le_of_ble_eq_true rfl) (Nat.le_of_ble_eq_true rfl) (pX12_sortOf  (x2) o13 ⟨rfl, rfl⟩) (fun zv9 wm9 hq9 => ?_)
    obtain ⟨rfl, rfl⟩ := hq9
    refine JS_callVI (M' := MX12_valueBy) (d' := 0) (As := [.int (gI s1 272 (a2).toNatClampNeg), .int (vX12_sortOf s1 x2)]) (rest := []) (P := (fun zv9 wm9 => (vX12_valueBy s1 (gI s1 272 (a2).toNatClampNeg) (vX12_sortOf s1 x2)) = zv9 ∧ s1 = wm9)) dX12_isFit_55 cvX12_275 okX12_valueBy rfl (Nat.le_of_ble_eq_true rfl) BS_248 (Nat.le_of_ble_eq_true rfl) (Nat.le_of_ble_eq_true rfl) hci_12 (Nat.le_of_ble_eq_true rfl) (Nat.le_of_ble_eq_true rfl) (pX12_valueBy  ((gI s1 272 (a2).toNatClampNeg)) ((vX12_sortOf s1 x2))  ⟨rfl, rfl⟩) (fun zv9 wm9 hq9 => ?_)
    obtain ⟨rfl, rfl⟩ := hq9
    refine JT_istore (lv' := [(4, .int (vX12_valueBy s1 (gI s1 272 (a2).toNatClampNeg) (vX12_sortOf s1 x2))), (3, .int x2), (0, .ref 248), (1, .int a1), (2, .int a2)]) dX12_isFit_58 (Nat.le_of_ble_eq_true rfl) rfl ?_
    refine JT_aload_n (q := 2) dX12_isFit_60 rfl rfl ?_
    refine JS_getR (x := 261) dX12_isFit_61 flX12_68 BS_248 (Nat.le_of_ble_eq_true rfl) (Nat.le_of_ble_eq_true rfl) (Or.inr ⟨_, ct_12_33⟩) RF_248_33 ?_
    refine JT_aload_n (q := 2) dX12_isFit_64 rfl rfl ?_
    refine JT_iload_n (q := 1) dX12_isFit_65 rfl rfl ?_
    refine JT_iconst (v := 0) dX12_isFit_66 ic_0 ?_
    obtain ⟨o11, h⟩ := h
    refine JS_callVI (M' := MX12_of) (d' := 0) (As := [.int x2, .int (0 : Int32)]) (rest := [.ref 261]) (P := (fun zv9 wm9 => (vX12_of s1 x2 (0 : Int32)) = zv9 ∧ s1 = wm9)) dX12_isFit_67 cvX12_265 okX12_of rfl (Nat.le_of_ble_eq_true rfl) BS_248 (Nat.le_of_ble_eq_true rfl) (Nat.le_of_ble_eq_true rfl) hci_12 (Nat.le_of_ble_eq_true rfl) (Nat.le_of_ble_eq_true rfl) (pX12_of  (x2) ((0 : Int32)) o11 ⟨rfl, rfl⟩) (fun zv9 wm9 hq9 => ?_)
    obtain ⟨rfl, rfl⟩ := hq9
    refine JT_dup2 dX12_isFit_70 rfl rfl ?_
    obtain ⟨o4, h⟩ := h
    refine JS_iald dX12_isFit_71 BS_261 (Nat.le_of_ble_eq_true rfl) (Nat.le_of_ble_eq_true rfl) o4 ?_
    refine JT_iload (q := 0) dX12_isFit_72 rfl ?_
    refine JT_iadd dX12_isFit_74 ?_
    obtain ⟨o5, h⟩ := h
    refine JS_iast dX12_isFit_75 BS_261 (Nat.le_of_ble_eq_true rfl) (Nat.le_of_ble_eq_true rfl) o5 ?_
    obtain ⟨s6, hs6⟩ : ∃ z, z = (pI s1 261 ((vX12_of s1 x2 (0 : Int32))).toNatClampNeg ((gI s1 261 ((vX12_of s1 x2 (0 : Int32))).toNatClampNeg) + (vX12_valueBy s1 (gI s1 272 (a2).toNatClampNeg) (vX12_sortOf s1 x2)))) := ⟨_, rfl⟩
    replace h := h s6 hs6
    rw [← hs6]
    refine JT_aload_n (q := 2) dX12_isFit_76 rfl rfl ?_
    refine JS_getR (x := 261) dX12_isFit_77 flX12_68 BS_248 (Nat.le_of_ble_eq_true rfl) (Nat.le_of_ble_eq_true rfl) (Or.inr ⟨_, ct_12_33⟩) RF_248_33 ?_
    refine JT_aload_n (q := 2) dX12_isFit_80 rfl rfl ?_
    refine JT_iload_n (q := 1) dX12_isFit_81 rfl rfl ?_
    refine JT_iconst (v := 1) dX12_isFit_82 ic_1 ?_
    obtain ⟨o10, h⟩ := h
    refine JS_callVI (M' := MX12_of) (d' := 0) (As := [.int x2, .int (1 : Int32)]) (rest := [.ref 261]) (P := (fun zv9 wm9 => (vX12_of s6 x2 (1 : Int32)) = zv9 ∧ s6 = wm9)) dX12_isFit_83 cvX12_265 okX12_of rfl (Nat.le_of_ble_eq_true rfl) BS_248 (Nat.le_of_ble_eq_true rfl) (Nat.le_of_ble_eq_true rfl) hci_12 (Nat.le_of_ble_eq_true rfl) (Nat.le_of_ble_eq_true rfl) (pX12_of  (x2) ((1 : Int32)) o10 ⟨rfl, rfl⟩) (fun zv9 wm9 hq9 => ?_)
    obtain ⟨rfl, rfl⟩ := hq9
    refine JT_dup2 dX12_isFit_86 rfl rfl ?_
    obtain ⟨o7, h⟩ := h
    refine JS_iald dX12_isFit_87 BS_261 (Nat.le_of_ble_eq_true rfl) (Nat.le_of_ble_eq_true rfl) o7 ?_
    refine JT_iload (q := 0) dX12_isFit_88 rfl ?_
    refine JT_isub dX12_isFit_90 ?_
    obtain ⟨o8, h⟩ := h
    refine JS_iast dX12_isFit_91 BS_261 (Nat.le_of_ble_eq_true rfl) (Nat.le_of_ble_eq_true rfl) o8 ?_
    obtain ⟨s9, hs9⟩ : ∃ z, z = (pI s6 261 ((vX12_of s6 x2 (1 : Int32))).toNatClampNeg ((gI s6 261 ((vX12_of s6 x2 (1 : Int32))).toNatClampNeg) - (vX12_valueBy s1 (gI s1 272 (a2).toNatClampNeg) (vX12_sortOf s1 x2)))) := ⟨_, rfl⟩
    replace h := h s9 hs9
    rw [← hs9]
    refine JT_iinc (q := 4) (v := (a2 + 1)) (lv' := [(2, .int (a2 + 1)), (4, .int (vX12_valueBy s1 (gI s1 272 (a2).toNatClampNeg) (vX12_sortOf s1 x2))), (3, .int x2), (0, .ref 248), (1, .int a1)]) dX12_isFit_92 rfl (by rfl) (Nat.le_of_ble_eq_true rfl) rfl ?_
    refine JT_goto (tgt := 32) dX12_isFit_95 (by decide) ?_
    exact JT_sub [3, 4, 0] rfl h
set_option maxRecDepth 20000 in
theorem bX12_isFit_100 (a1 : Int32) (a2 : Int32) {s : SM} {Q : Int32 → SM → Prop} (h : (((gI s 250 ((0 : Int32)).toNatClampNeg) ≤ a2 → Q (1 : Int32) s) ∧ (¬ (gI s 250 ((0 : Int32)).toNatClampNeg) ≤ a2 → (((vX12_isLiving s a2) = 0 → BI MX12_isFit 5 100 [(0, .ref 248), (1, .int a1), (2, .int (a2 + 1))] s Q) ∧ (¬ (vX12_isLiving s a2) = 0 → vp_in a2 9 ∧ vp_in a2 9 ∧ (((gI s 261 (a2).toNatClampNeg) = (gI s 273 (a2).toNatClampNeg) → BI MX12_isFit 5 100 [(0, .ref 248), (1, .int a1), (2, .int (a2 + 1))] s Q) ∧ (¬ (gI s 261 (a2).toNatClampNeg) = (gI s 273 (a2).toNatClampNeg) → Q (0 : Int32) s))))))) : BI MX12_isFit 5 100 [(0, .ref 248), (1, .int a1), (2, .int a2)] s Q := by
  refine JT_iload_n (q := 2) dX12_isFit_100 rfl rfl ?_
  refine JT_aload_n (q := 0) dX12_isFit_101 rfl rfl ?_
  refine JS_getR (x := 250) dX12_isFit_102 flX12_33 BS_248 (Nat.le_of_ble_eq_true rfl) (Nat.le_of_ble_eq_true rfl) (Or.inr ⟨_, ct_12_6⟩) RF_248_6 ?_
  refine JT_iconst (v := 0) dX12_isFit_105 ic_0 ?_
  refine JS_iald dX12_isFit_106 BS_250 (Nat.le_of_ble_eq_true rfl) (Nat.le_of_ble_eq_true rfl) (by unfold vp_in; decide) ?_
  refine JT_icmp_ge (tgt := 141) dX12_isFit_107 (by decide) (fun hc6 => ?_) (fun hc6 => ?_)
  · have h := h.1 hc6
    refine JT_iconst (v := 1) dX12_isFit_141 ic_1 ?_
    exact JS_iret dX12_isFit_142 rfl (n01 (Or.inr rfl)) h
  · have h := h.2 hc6
    refine JT_aload_n (q := 0) dX12_isFit_110 rfl rfl ?_
    refine JT_iload_n (q := 2) dX12_isFit_111 rfl rfl ?_
    refine JS_callVI (M' := MX12_isLiving) (d' := 1) (As := [.int a2]) (rest := []) (P := (fun zv9 wm9 => (vX12_isLiving s a2) = zv9 ∧ s = wm9)) dX12_isFit_112 cvX12_294 okX12_isLiving rfl (Nat.le_of_ble_eq_true rfl) BS_248 (Nat.le_of_ble_eq_true rfl) (Nat.le_of_ble_eq_true rfl) hci_12 (Nat.le_of_ble_eq_true rfl) (Nat.le_of_ble_eq_true rfl) (pX12_isLiving  (a2)  ⟨rfl, rfl⟩) (fun zv9 wm9 hq9 => ?_)
    obtain ⟨rfl, rfl⟩ := hq9
    refine JT_if_eq (tgt := 135) dX12_isFit_115 (by decide) (fun hc4 => ?_) (fun hc4 => ?_)
    · have h := h.1 hc4
      refine JT_iinc (q := 2) (v := (a2 + 1)) (lv' := [(2, .int (a2 + 1)), (0, .ref 248), (1, .int a1)]) dX12_isFit_135 rfl (by rfl) (Nat.le_of_ble_eq_true rfl) rfl ?_
      refine JT_goto (tgt := 100) dX12_isFit_138 (by decide) ?_
      exact JT_sub [1, 2, 0] rfl h
    · have h := h.2 hc4
      refine JT_aload_n (q := 0) dX12_isFit_118 rfl rfl ?_
      refine JS_getR (x := 261) dX12_isFit_119 flX12_68 BS_248 (Nat.le_of_ble_eq_true rfl) (Nat.le_of_ble_eq_true rfl) (Or.inr ⟨_, ct_12_33⟩) RF_248_33 ?_
      refine JT_iload_n (q := 2) dX12_isFit_122 rfl rfl ?_
      obtain ⟨o1, h⟩ := h
      refine JS_iald dX12_isFit_123 BS_261 (Nat.le_of_ble_eq_true rfl) (Nat.le_of_ble_eq_true rfl) o1 ?_
      refine JT_aload_n (q := 0) dX12_isFit_124 rfl rfl ?_
      refine JS_getR (x := 273) dX12_isFit_125 flX12_110 BS_248 (Nat.le_of_ble_eq_true rfl) (Nat.le_of_ble_eq_true rfl) (Or.inr ⟨_, ct_12_51⟩) RF_248_51 ?_
      refine JT_iload_n (q := 2) dX12_isFit_128 rfl rfl ?_
      obtain ⟨o2, h⟩ := h
      refine JS_iald dX12_isFit_129 BS_273 (Nat.le_of_ble_eq_true rfl) (Nat.le_of_ble_eq_true rfl) o2 ?_
      refine JT_icmp_eq (tgt := 135) dX12_isFit_130 (by decide) (fun hc3 => ?_) (fun hc3 => ?_)
      · have h := h.1 hc3
        refine JT_iinc (q := 2) (v := (a2 + 1)) (lv' := [(2, .int (a2 + 1)), (0, .ref 248), (1, .int a1)]) dX12_isFit_135 rfl (by rfl) (Nat.le_of_ble_eq_true rfl) rfl ?_
        refine JT_goto (tgt := 100) dX12_isFit_138 (by decide) ?_
        exact JT_sub [1, 2, 0] rfl h
      · have h := h.2 hc3
        refine JT_iconst (v := 0) dX12_isFit_133 ic_0 ?_
        exact JS_iret dX12_isFit_134 rfl (n01 (Or.inl rfl)) h
set_option maxRecDepth 20000 in
theorem bX12_isFit (a1 : Int32) {s : SM} {Q : Int32 → SM → Prop} (h : BI MX12_isFit 5 2 [(0, .ref 248), (1, .int a1), (2, .int (0 : Int32))] s Q) : KI MX12_isFit 5 [.ref 248, .int a1] s Q := by
  show BI MX12_isFit 5 0 [(0, .ref 248), (1, .int a1)] s Q
  refine JT_iconst (v := 0) dX12_isFit_0 ic_0 ?_
  refine JT_istore_n (lv' := [(2, .int (0 : Int32)), (0, .ref 248), (1, .int a1)]) dX12_isFit_1 rfl (Nat.le_of_ble_eq_true rfl) rfl ?_
  exact JT_sub [1, 2, 0] rfl h
set_option maxRecDepth 20000 in
theorem bX12_lost (a1 : Int32) {s : SM} {Q : Int32 → SM → Prop} (h : (((-1 : Int32) ≤ a1 → KI MX12_lostOf 4 [.ref 248, .int a1] (pI s 248 0 (0 : Int32)) (fun x2 s1 => Q x2 s1)) ∧ (¬ (-1 : Int32) ≤ a1 → Q (-1 : Int32) (pI s 248 0 (0 : Int32))))) : KI MX12_lost 5 [.ref 248, .int a1] s Q := by
  show BI MX12_lost 5 0 [(0, .ref 248), (1, .int a1)] s Q
  refine JT_aload_n (q := 0) dX12_lost_0 rfl rfl ?_
  refine JT_iconst (v := 0) dX12_lost_1 ic_0 ?_
  refine JS_putI dX12_lost_2 flX12_1 BS_248 (Nat.le_of_ble_eq_true rfl) (Nat.le_of_ble_eq_true rfl) ct_12_0 ?_
  refine JT_iload_n (q := 1) dX12_lost_5 rfl rfl ?_
  refine JT_iconst (v := -1) dX12_lost_6 ic_m1 ?_
  refine JT_icmp_ge (tgt := 14) dX12_lost_7 (by decide) (fun hc3 => ?_) (fun hc3 => ?_)
  · have h := h.1 hc3
    refine JT_aload_n (q := 0) dX12_lost_14 rfl rfl ?_
    refine JT_iload_n (q := 1) dX12_lost_15 rfl rfl ?_
    refine JS_callVI (M' := MX12_lostOf) (d' := 4) (As := [.int a1]) (rest := []) dX12_lost_16 cvX12_436 okX12_lostOf rfl (Nat.le_of_ble_eq_true rfl) BS_248 (Nat.le_of_ble_eq_true rfl) (Nat.le_of_ble_eq_true rfl) hci_12 (Nat.le_of_ble_eq_true rfl) (Nat.le_of_ble_eq_true rfl) h (fun x2 s1 h => ?_)
    exact JS_iret dX12_lost_19 rfl rfl h
  · have h := h.2 hc3
    refine JT_iconst (v := -1) dX12_lost_10 ic_m1 ?_
    refine JT_goto (tgt := 19) dX12_lost_11 (by decide) ?_
    exact JS_iret dX12_lost_19 rfl rfl h
set_option maxRecDepth 20000 in
theorem bX12_pack_40 (a1 : Int32) {s : SM} {Q : Int32 → SM → Prop} (h : (((gI s 248 3) ≤ a1 → BI MX12_pack 5 108 [(0, .ref 248), (1, .int (0 : Int32))] (pI s 248 45 ((gI s 248 3) / (3 : Int32))) Q) ∧ (¬ (gI s 248 3) ≤ a1 → rX12_octet s a1 ∧ (((vX12_isBody s (vX12_octet s a1)) = 0 → Q (-1 : Int32) s) ∧ (¬ (vX12_isBody s (vX12_octet s a1)) = 0 → rX12_octet s (a1 + (1 : Int32)) ∧ (((vX12_isBody s (vX12_octet s (a1 + (1 : Int32)))) = 0 → Q (-1 : Int32) s) ∧ (¬ (vX12_isBody s (vX12_octet s (a1 + (1 : Int32)))) = 0 → rX12_octet s (a1 + (2 : Int32)) ∧ ((¬ (vX12_isKind s (vX12_octet s (a1 + (2 : Int32)))) = 0 → BI MX12_pack 5 40 [(0, .ref 248), (1, .int (a1 + 3))] s Q) ∧ ((vX12_isKind s (vX12_octet s (a1 + (2 : Int32)))) = 0 → Q (-1 : Int32) s))))))))) : BI MX12_pack 5 40 [(0, .ref 248), (1, .int a1)] s Q := by
  refine JT_iload_n (q := 1) dX12_pack_40 rfl rfl ?_
  refine JT_aload_n (q := 0) dX12_pack_41 rfl rfl ?_
  refine JS_getI dX12_pack_42 flX12_18 BS_248 (Nat.le_of_ble_eq_true rfl) (Nat.le_of_ble_eq_true rfl) (Or.inl ct_12_3) ?_
  refine JT_icmp_ge (tgt := 96) dX12_pack_45 (by decide) (fun hc10 => ?_) (fun hc10 => ?_)
  · have h := h.1 hc10
    refine JT_aload_n (q := 0) dX12_pack_96 rfl rfl ?_
    refine JT_aload_n (q := 0) dX12_pack_97 rfl rfl ?_
    refine JS_getI dX12_pack_98 flX12_18 BS_248 (Nat.le_of_ble_eq_true rfl) (Nat.le_of_ble_eq_true rfl) (Or.inl ct_12_3) ?_
    refine JT_iconst (v := 3) dX12_pack_101 ic_3 ?_
    refine JT_idiv dX12_pack_102 (by decide) ?_
    refine JS_putI dX12_pack_103 flX12_419 BS_248 (Nat.le_of_ble_eq_true rfl) (Nat.le_of_ble_eq_true rfl) ct_12_45 ?_
    refine JT_iconst (v := 0) dX12_pack_106 ic_0 ?_
    refine JT_istore_n (lv' := [(1, .int (0 : Int32)), (0, .ref 248)]) dX12_pack_107 rfl (Nat.le_of_ble_eq_true rfl) rfl ?_
    exact JT_sub [1, 0] rfl h
  · have h := h.2 hc10
    refine JT_aload_n (q := 0) dX12_pack_48 rfl rfl ?_
    refine JT_aload_n (q := 0) dX12_pack_49 rfl rfl ?_
    refine JT_iload_n (q := 1) dX12_pack_50 rfl rfl ?_
    obtain ⟨o9, h⟩ := h
    refine JS_callVI (M' := MX12_octet) (d' := 0) (As := [.int a1]) (rest := [.ref 248]) (P := (fun zv9 wm9 => (vX12_octet s a1) = zv9 ∧ s = wm9)) dX12_pack_51 cvX12_427 okX12_octet rfl (Nat.le_of_ble_eq_true rfl) BS_248 (Nat.le_of_ble_eq_true rfl) (Nat.le_of_ble_eq_true rfl) hci_12 (Nat.le_of_ble_eq_true rfl) (Nat.le_of_ble_eq_true rfl) (pX12_octet  (a1) o9 ⟨rfl, rfl⟩) (fun zv9 wm9 hq9 => ?_)
    obtain ⟨rfl, rfl⟩ := hq9
    refine JS_callVI (M' := MX12_isBody) (d' := 1) (As := [.int (vX12_octet s a1)]) (rest := []) (P := (fun zv9 wm9 => (vX12_isBody s (vX12_octet s a1)) = zv9 ∧ s = wm9)) dX12_pack_54 cvX12_287 okX12_isBody rfl (Nat.le_of_ble_eq_true rfl) BS_248 (Nat.le_of_ble_eq_true rfl) (Nat.le_of_ble_eq_true rfl) hci_12 (Nat.le_of_ble_eq_true rfl) (Nat.le_of_ble_eq_true rfl) (pX12_isBody  ((vX12_octet s a1))  ⟨rfl, rfl⟩) (fun zv9 wm9 hq9 => ?_)
    obtain ⟨rfl, rfl⟩ := hq9
    refine JT_if_eq (tgt := 88) dX12_pack_57 (by decide) (fun hc7 => ?_) (fun hc7 => ?_)
    · have h := h.1 hc7
      refine JT_iconst (v := -1) dX12_pack_88 ic_m1 ?_
      exact JS_iret dX12_pack_89 rfl rfl h
    · have h := h.2 hc7
      refine JT_aload_n (q := 0) dX12_pack_60 rfl rfl ?_
      refine JT_aload_n (q := 0) dX12_pack_61 rfl rfl ?_
      refine JT_iload_n (q := 1) dX12_pack_62 rfl rfl ?_
      refine JT_iconst (v := 1) dX12_pack_63 ic_1 ?_
      refine JT_iadd dX12_pack_64 ?_
      obtain ⟨o6, h⟩ := h
      refine JS_callVI (M' := MX12_octet) (d' := 0) (As := [.int (a1 + (1 : Int32))]) (rest := [.ref 248]) (P := (fun zv9 wm9 => (vX12_octet s (a1 + (1 : Int32))) = zv9 ∧ s = wm9)) dX12_pack_65 cvX12_427 okX12_octet rfl (Nat.le_of_ble_eq_true rfl) BS_248 (Nat.le_of_ble_eq_true rfl) (Nat.le_of_ble_eq_true rfl) hci_12 (Nat.le_of_ble_eq_true rfl) (Nat.le_of_ble_eq_true rfl) (pX12_octet  ((a1 + (1 : Int32))) o6 ⟨rfl, rfl⟩) (fun zv9 wm9 hq9 => ?_)
      obtain ⟨rfl, rfl⟩ := hq9
      refine JS_callVI (M' := MX12_isBody) (d' := 1) (As := [.int (vX12_octet s (a1 + (1 : Int32)))]) (rest := []) (P := (fun zv9 wm9 => (vX12_isBody s (vX12_octet s (a1 + (1 : Int32)))) = zv9 ∧ s = wm9)) dX12_pack_68 cvX12_287 okX12_isBody rfl (Nat.le_of_ble_eq_true rfl) BS_248 (Nat.le_of_ble_eq_true rfl) (Nat.le_of_ble_eq_true rfl) hci_12 (Nat.le_of_ble_eq_true rfl) (Nat.le_of_ble_eq_true rfl) (pX12_isBody  ((vX12_octet s (a1 + (1 : Int32))))  ⟨rfl, rfl⟩) (fun zv9 wm9 hq9 => ?_)
      obtain ⟨rfl, rfl⟩ := hq9
      refine JT_if_eq (tgt := 88) dX12_pack_71 (by decide) (fun hc4 => ?_) (fun hc4 => ?_)
      · have h := h.1 hc4
        refine JT_iconst (v := -1) dX12_pack_88 ic_m1 ?_
        exact JS_iret dX12_pack_89 rfl rfl h
      · have h := h.2 hc4
        refine JT_aload_n (q := 0) dX12_pack_74 rfl rfl ?_
        refine JT_aload_n (q := 0) dX12_pack_75 rfl rfl ?_
        refine JT_iload_n (q := 1) dX12_pack_76 rfl rfl ?_
        refine JT_iconst (v := 2) dX12_pack_77 ic_2 ?_
        refine JT_iadd dX12_pack_78 ?_
        obtain ⟨o3, h⟩ := h
        refine JS_callVI (M' := MX12_octet) (d' := 0) (As := [.int (a1 + (2 : Int32))]) (rest := [.ref 248]) (P := (fun zv9 wm9 => (vX12_octet s (a1 + (2 : Int32))) = zv9 ∧ s = wm9)) dX12_pack_79 cvX12_427 okX12_octet rfl (Nat.le_of_ble_eq_true rfl) BS_248 (Nat.le_of_ble_eq_true rfl) (Nat.le_of_ble_eq_true rfl) hci_12 (Nat.le_of_ble_eq_true rfl) (Nat.le_of_ble_eq_true rfl) (pX12_octet  ((a1 + (2 : Int32))) o3 ⟨rfl, rfl⟩) (fun zv9 wm9 hq9 => ?_)
        obtain ⟨rfl, rfl⟩ := hq9
        refine JS_callVI (M' := MX12_isKind) (d' := 1) (As := [.int (vX12_octet s (a1 + (2 : Int32)))]) (rest := []) (P := (fun zv9 wm9 => (vX12_isKind s (vX12_octet s (a1 + (2 : Int32)))) = zv9 ∧ s = wm9)) dX12_pack_82 cvX12_306 okX12_isKind rfl (Nat.le_of_ble_eq_true rfl) BS_248 (Nat.le_of_ble_eq_true rfl) (Nat.le_of_ble_eq_true rfl) hci_12 (Nat.le_of_ble_eq_true rfl) (Nat.le_of_ble_eq_true rfl) (pX12_isKind  ((vX12_octet s (a1 + (2 : Int32))))  ⟨rfl, rfl⟩) (fun zv9 wm9 hq9 => ?_)
        obtain ⟨rfl, rfl⟩ := hq9
        refine JT_if_ne (tgt := 90) dX12_pack_85 (by decide) (fun hc1 => ?_) (fun hc1 => ?_)
        · have h := h.1 hc1
          refine JT_iinc (q := 1) (v := (a1 + 3)) (lv' := [(1, .int (a1 + 3)), (0, .ref 248)]) dX12_pack_90 rfl (by rfl) (Nat.le_of_ble_eq_true rfl) rfl ?_
          refine JT_goto (tgt := 40) dX12_pack_93 (by decide) ?_
          exact JT_sub [1, 0] rfl h
        · have h := h.2 hc1
          refine JT_iconst (v := -1) dX12_pack_88 ic_m1 ?_
          exact JS_iret dX12_pack_89 rfl rfl h
set_option maxRecDepth 20000 in
theorem bX12_pack_108 (a1 : Int32) {s : SM} {Q : Int32 → SM → Prop} (h : (((gI s 248 3) ≤ a1 → KI MX12_bestPack 4 [.ref 248, .int (-1 : Int32), .int (0 : Int32)] s (fun x2 s1 => BI MX12_pack 5 158 [(0, .ref 248), (1, .int x2), (2, .int (0 : Int32))] (pI (pI s1 248 46 (gI s1 248 45)) 248 47 (gI (pI s1 248 46 (gI s1 248 45)) 248 22)) Q)) ∧ (¬ (gI s 248 3) ≤ a1 → rX12_octet s a1 ∧ vp_in a1 18 ∧ BI MX12_pack 5 108 [(0, .ref 248), (1, .int (a1 + 1))] (pI s 264 (a1).toNatClampNeg (vX12_octet s a1)) Q))) : BI MX12_pack 5 108 [(0, .ref 248), (1, .int a1)] s Q := by
  refine JT_iload_n (q := 1) dX12_pack_108 rfl rfl ?_
  refine JT_aload_n (q := 0) dX12_pack_109 rfl rfl ?_
  refine JS_getI dX12_pack_110 flX12_18 BS_248 (Nat.le_of_ble_eq_true rfl) (Nat.le_of_ble_eq_true rfl) (Or.inl ct_12_3) ?_
  refine JT_icmp_ge (tgt := 133) dX12_pack_113 (by decide) (fun hc5 => ?_) (fun hc5 => ?_)
  · have h := h.1 hc5
    refine JT_aload_n (q := 0) dX12_pack_133 rfl rfl ?_
    refine JT_iconst (v := -1) dX12_pack_134 ic_m1 ?_
    refine JT_iconst (v := 0) dX12_pack_135 ic_0 ?_
    refine JS_callVI (M' := MX12_bestPack) (d' := 4) (As := [.int (-1 : Int32), .int (0 : Int32)]) (rest := []) dX12_pack_136 cvX12_430 okX12_bestPack rfl (Nat.le_of_ble_eq_true rfl) BS_248 (Nat.le_of_ble_eq_true rfl) (Nat.le_of_ble_eq_true rfl) hci_12 (Nat.le_of_ble_eq_true rfl) (Nat.le_of_ble_eq_true rfl) h (fun x2 s1 h => ?_)
    refine JT_istore_n (lv' := [(1, .int x2), (0, .ref 248)]) dX12_pack_139 rfl (Nat.le_of_ble_eq_true rfl) rfl ?_
    refine JT_aload_n (q := 1) dX12_pack_140 rfl rfl ?_
    refine JT_aload_n (q := 1) dX12_pack_141 rfl rfl ?_
    refine JS_getI dX12_pack_142 flX12_419 BS_248 (Nat.le_of_ble_eq_true rfl) (Nat.le_of_ble_eq_true rfl) (Or.inl ct_12_45) ?_
    refine JS_putI dX12_pack_145 flX12_95 BS_248 (Nat.le_of_ble_eq_true rfl) (Nat.le_of_ble_eq_true rfl) ct_12_46 ?_
    refine JT_aload_n (q := 1) dX12_pack_148 rfl rfl ?_
    refine JT_aload_n (q := 1) dX12_pack_149 rfl rfl ?_
    refine JS_getI dX12_pack_150 flX12_256 BS_248 (Nat.le_of_ble_eq_true rfl) (Nat.le_of_ble_eq_true rfl) (Or.inl ct_12_22) ?_
    refine JS_putI dX12_pack_153 flX12_98 BS_248 (Nat.le_of_ble_eq_true rfl) (Nat.le_of_ble_eq_true rfl) ct_12_47 ?_
    refine JT_iconst (v := 0) dX12_pack_156 ic_0 ?_
    refine JT_istore_n (lv' := [(2, .int (0 : Int32)), (1, .int x2), (0, .ref 248)]) dX12_pack_157 rfl (Nat.le_of_ble_eq_true rfl) rfl ?_
    exact JT_sub [2, 1, 0] rfl h
  · have h := h.2 hc5
    refine JT_aload_n (q := 0) dX12_pack_116 rfl rfl ?_
    refine JS_getR (x := 264) dX12_pack_117 flX12_77 BS_248 (Nat.le_of_ble_eq_true rfl) (Nat.le_of_ble_eq_true rfl) (Or.inr ⟨_, ct_12_39⟩) RF_248_39 ?_
    refine JT_iload_n (q := 1) dX12_pack_120 rfl rfl ?_
    refine JT_aload_n (q := 0) dX12_pack_121 rfl rfl ?_
    refine JT_iload_n (q := 1) dX12_pack_122 rfl rfl ?_
    obtain ⟨o4, h⟩ := h
    refine JS_callVI (M' := MX12_octet) (d' := 0) (As := [.int a1]) (rest := [.int a1, .ref 264]) (P := (fun zv9 wm9 => (vX12_octet s a1) = zv9 ∧ s = wm9)) dX12_pack_123 cvX12_427 okX12_octet rfl (Nat.le_of_ble_eq_true rfl) BS_248 (Nat.le_of_ble_eq_true rfl) (Nat.le_of_ble_eq_true rfl) hci_12 (Nat.le_of_ble_eq_true rfl) (Nat.le_of_ble_eq_true rfl) (pX12_octet  (a1) o4 ⟨rfl, rfl⟩) (fun zv9 wm9 hq9 => ?_)
    obtain ⟨rfl, rfl⟩ := hq9
    obtain ⟨o3, h⟩ := h
    refine JS_iast dX12_pack_126 BS_264 (Nat.le_of_ble_eq_true rfl) (Nat.le_of_ble_eq_true rfl) o3 ?_
    refine JT_iinc (q := 1) (v := (a1 + 1)) (lv' := [(1, .int (a1 + 1)), (0, .ref 248)]) dX12_pack_127 rfl (by rfl) (Nat.le_of_ble_eq_true rfl) rfl ?_
    refine JT_goto (tgt := 108) dX12_pack_130 (by decide) ?_
    exact JT_sub [1, 0] rfl h
set_option maxRecDepth 20000 in
theorem bX12_pack_158 (a1 : Int32) (a2 : Int32) {s : SM} {Q : Int32 → SM → Prop} (h : (((gI s 248 3) ≤ a2 → BI MX12_pack 5 186 [(0, .ref 248), (1, .int a1), (2, .int (0 : Int32))] s Q) ∧ (¬ (gI s 248 3) ≤ a2 → vp_in a2 18 ∧ vp_in a2 18 ∧ BI MX12_pack 5 158 [(0, .ref 248), (1, .int a1), (2, .int (a2 + 1))] (pI s 265 (a2).toNatClampNeg (gI s 264 (a2).toNatClampNeg)) Q))) : BI MX12_pack 5 158 [(0, .ref 248), (1, .int a1), (2, .int a2)] s Q := by
  refine JT_iload_n (q := 2) dX12_pack_158 rfl rfl ?_
  refine JT_aload_n (q := 0) dX12_pack_159 rfl rfl ?_
  refine JS_getI dX12_pack_160 flX12_18 BS_248 (Nat.le_of_ble_eq_true rfl) (Nat.le_of_ble_eq_true rfl) (Or.inl ct_12_3) ?_
  refine JT_icmp_ge (tgt := 184) dX12_pack_163 (by decide) (fun hc3 => ?_) (fun hc3 => ?_)
  · have h := h.1 hc3
    refine JT_iconst (v := 0) dX12_pack_184 ic_0 ?_
    refine JT_istore_n (lv' := [(2, .int (0 : Int32)), (0, .ref 248), (1, .int a1)]) dX12_pack_185 rfl (Nat.le_of_ble_eq_true rfl) rfl ?_
    exact JT_sub [1, 2, 0] rfl h
  · have h := h.2 hc3
    refine JT_aload_n (q := 0) dX12_pack_166 rfl rfl ?_
    refine JS_getR (x := 265) dX12_pack_167 flX12_80 BS_248 (Nat.le_of_ble_eq_true rfl) (Nat.le_of_ble_eq_true rfl) (Or.inr ⟨_, ct_12_40⟩) RF_248_40 ?_
    refine JT_iload_n (q := 2) dX12_pack_170 rfl rfl ?_
    refine JT_aload_n (q := 0) dX12_pack_171 rfl rfl ?_
    refine JS_getR (x := 264) dX12_pack_172 flX12_77 BS_248 (Nat.le_of_ble_eq_true rfl) (Nat.le_of_ble_eq_true rfl) (Or.inr ⟨_, ct_12_39⟩) RF_248_39 ?_
    refine JT_iload_n (q := 2) dX12_pack_175 rfl rfl ?_
    obtain ⟨o1, h⟩ := h
    refine JS_iald dX12_pack_176 BS_264 (Nat.le_of_ble_eq_true rfl) (Nat.le_of_ble_eq_true rfl) o1 ?_
    obtain ⟨o2, h⟩ := h
    refine JS_iast dX12_pack_177 BS_265 (Nat.le_of_ble_eq_true rfl) (Nat.le_of_ble_eq_true rfl) o2 ?_
    refine JT_iinc (q := 2) (v := (a2 + 1)) (lv' := [(2, .int (a2 + 1)), (0, .ref 248), (1, .int a1)]) dX12_pack_178 rfl (by rfl) (Nat.le_of_ble_eq_true rfl) rfl ?_
    refine JT_goto (tgt := 158) dX12_pack_181 (by decide) ?_
    exact JT_sub [1, 2, 0] rfl h
set_option maxRecDepth 20000 in
theorem bX12_pack_186 (a1 : Int32) (a2 : Int32) {s : SM} {Q : Int32 → SM → Prop} (h : (((gI s 248 45) ≤ a2 → Q a1 s) ∧ (¬ (gI s 248 45) ≤ a2 → vp_in a2 6 ∧ vp_in a2 6 ∧ BI MX12_pack 5 186 [(0, .ref 248), (1, .int a1), (2, .int (a2 + 1))] (pI s 268 (a2).toNatClampNeg (gI s 267 (a2).toNatClampNeg)) Q))) : BI MX12_pack 5 186 [(0, .ref 248), (1, .int a1), (2, .int a2)] s Q := by
  refine JT_iload_n (q := 2) dX12_pack_186 rfl rfl ?_
  refine JT_aload_n (q := 0) dX12_pack_187 rfl rfl ?_
  refine JS_getI dX12_pack_188 flX12_419 BS_248 (Nat.le_of_ble_eq_true rfl) (Nat.le_of_ble_eq_true rfl) (Or.inl ct_12_45) ?_
  refine JT_icmp_ge (tgt := 212) dX12_pack_191 (by decide) (fun hc3 => ?_) (fun hc3 => ?_)
  · have h := h.1 hc3
    refine JT_iload_n (q := 1) dX12_pack_212 rfl rfl ?_
    exact JS_iret dX12_pack_213 rfl rfl h
  · have h := h.2 hc3
    refine JT_aload_n (q := 0) dX12_pack_194 rfl rfl ?_
    refine JS_getR (x := 268) dX12_pack_195 flX12_89 BS_248 (Nat.le_of_ble_eq_true rfl) (Nat.le_of_ble_eq_true rfl) (Or.inr ⟨_, ct_12_43⟩) RF_248_43 ?_
    refine JT_iload_n (q := 2) dX12_pack_198 rfl rfl ?_
    refine JT_aload_n (q := 0) dX12_pack_199 rfl rfl ?_
    refine JS_getR (x := 267) dX12_pack_200 flX12_86 BS_248 (Nat.le_of_ble_eq_true rfl) (Nat.le_of_ble_eq_true rfl) (Or.inr ⟨_, ct_12_42⟩) RF_248_42 ?_
    refine JT_iload_n (q := 2) dX12_pack_203 rfl rfl ?_
    obtain ⟨o1, h⟩ := h
    refine JS_iald dX12_pack_204 BS_267 (Nat.le_of_ble_eq_true rfl) (Nat.le_of_ble_eq_true rfl) o1 ?_
    obtain ⟨o2, h⟩ := h
    refine JS_iast dX12_pack_205 BS_268 (Nat.le_of_ble_eq_true rfl) (Nat.le_of_ble_eq_true rfl) o2 ?_
    refine JT_iinc (q := 2) (v := (a2 + 1)) (lv' := [(2, .int (a2 + 1)), (0, .ref 248), (1, .int a1)]) dX12_pack_206 rfl (by rfl) (Nat.le_of_ble_eq_true rfl) rfl ?_
    refine JT_goto (tgt := 186) dX12_pack_209 (by decide) ?_
    exact JT_sub [1, 2, 0] rfl h
set_option maxRecDepth 20000 in
theorem bX12_pack  {s : SM} {Q : Int32 → SM → Prop} (h : ((¬ ((gI (mX12_taken (pI s 248 0 (0 : Int32)) (640 : Int32)) 248 3) - (gI (mX12_taken (pI s 248 0 (0 : Int32)) (640 : Int32)) 248 3) / (3 : Int32) * (3 : Int32)) = 0 → Q (-1 : Int32) (mX12_taken (pI s 248 0 (0 : Int32)) (640 : Int32))) ∧ (((gI (mX12_taken (pI s 248 0 (0 : Int32)) (640 : Int32)) 248 3) - (gI (mX12_taken (pI s 248 0 (0 : Int32)) (640 : Int32)) 248 3) / (3 : Int32) * (3 : Int32)) = 0 → ((¬ (vX12_isIn (mX12_taken (pI s 248 0 (0 : Int32)) (640 : Int32)) ((gI (mX12_taken (pI s 248 0 (0 : Int32)) (640 : Int32)) 248 3) / (3 : Int32)) (1 : Int32) (6 : Int32)) = 0 → BI MX12_pack 5 40 [(0, .ref 248), (1, .int (0 : Int32))] (mX12_taken (pI s 248 0 (0 : Int32)) (640 : Int32)) Q) ∧ ((vX12_isIn (mX12_taken (pI s 248 0 (0 : Int32)) (640 : Int32)) ((gI (mX12_taken (pI s 248 0 (0 : Int32)) (640 : Int32)) 248 3) / (3 : Int32)) (1 : Int32) (6 : Int32)) = 0 → Q (-1 : Int32) (mX12_taken (pI s 248 0 (0 : Int32)) (640 : Int32))))))) : KI MX12_pack 5 [.ref 248] s Q := by
  show BI MX12_pack 5 0 [(0, .ref 248)] s Q
  refine JT_aload_n (q := 0) dX12_pack_0 rfl rfl ?_
  refine JT_iconst (v := 0) dX12_pack_1 ic_0 ?_
  refine JS_putI dX12_pack_2 flX12_1 BS_248 (Nat.le_of_ble_eq_true rfl) (Nat.le_of_ble_eq_true rfl) ct_12_0 ?_
  refine JT_aload_n (q := 0) dX12_pack_5 rfl rfl ?_
  refine JT_sipush (v := 640) dX12_pack_6 sp_640 ?_
  refine JS_callVV (M' := MX12_taken) (d' := 0) (As := [.int (640 : Int32)]) (rest := []) (P := (fun wm9 => (mX12_taken (pI s 248 0 (0 : Int32)) (640 : Int32)) = wm9)) dX12_pack_9 cvX12_238 okX12_taken rfl (Nat.le_of_ble_eq_true rfl) BS_248 (Nat.le_of_ble_eq_true rfl) (Nat.le_of_ble_eq_true rfl) hci_12 (Nat.le_of_ble_eq_true rfl) (Nat.le_of_ble_eq_true rfl) (pX12_taken  ((640 : Int32))  rfl) (fun wm9 hq9 => ?_)
  subst hq9
  refine JT_aload_n (q := 0) dX12_pack_12 rfl rfl ?_
  refine JS_getI dX12_pack_13 flX12_18 BS_248 (Nat.le_of_ble_eq_true rfl) (Nat.le_of_ble_eq_true rfl) (Or.inl ct_12_3) ?_
  refine JT_iconst (v := 3) dX12_pack_16 ic_3 ?_
  refine JT_irem dX12_pack_17 (by decide) ?_
  refine JT_if_ne (tgt := 36) dX12_pack_18 (by decide) (fun hc3 => ?_) (fun hc3 => ?_)
  · have h := h.1 hc3
    refine JT_iconst (v := -1) dX12_pack_36 ic_m1 ?_
    exact JS_iret dX12_pack_37 rfl rfl h
  · have h := h.2 hc3
    refine JT_aload_n (q := 0) dX12_pack_21 rfl rfl ?_
    refine JS_getI dX12_pack_22 flX12_18 BS_248 (Nat.le_of_ble_eq_true rfl) (Nat.le_of_ble_eq_true rfl) (Or.inl ct_12_3) ?_
    refine JT_iconst (v := 3) dX12_pack_25 ic_3 ?_
    refine JT_idiv dX12_pack_26 (by decide) ?_
    refine JT_iconst (v := 1) dX12_pack_27 ic_1 ?_
    refine JT_bipush (v := 6) dX12_pack_28 bp_6 ?_
    refine JS_callSI (M' := MX12_isIn) (d' := 0) (As := [.int ((gI (mX12_taken (pI s 248 0 (0 : Int32)) (640 : Int32)) 248 3) / (3 : Int32)), .int (1 : Int32), .int (6 : Int32)]) (rest := []) (P := (fun zv9 wm9 => (vX12_isIn (mX12_taken (pI s 248 0 (0 : Int32)) (640 : Int32)) ((gI (mX12_taken (pI s 248 0 (0 : Int32)) (640 : Int32)) 248 3) / (3 : Int32)) (1 : Int32) (6 : Int32)) = zv9 ∧ (mX12_taken (pI s 248 0 (0 : Int32)) (640 : Int32)) = wm9)) dX12_pack_30 cvX12_202 okX12_isIn rfl (Nat.le_of_ble_eq_true rfl) (Nat.le_of_ble_eq_true rfl) (Nat.le_of_ble_eq_true rfl) (pX12_isIn  (((gI (mX12_taken (pI s 248 0 (0 : Int32)) (640 : Int32)) 248 3) / (3 : Int32))) ((1 : Int32)) ((6 : Int32))  ⟨rfl, rfl⟩) (fun zv9 wm9 hq9 => ?_)
    obtain ⟨rfl, rfl⟩ := hq9
    refine JT_if_ne (tgt := 38) dX12_pack_33 (by decide) (fun hc1 => ?_) (fun hc1 => ?_)
    · have h := h.1 hc1
      refine JT_iconst (v := 0) dX12_pack_38 ic_0 ?_
      refine JT_istore_n (lv' := [(1, .int (0 : Int32)), (0, .ref 248)]) dX12_pack_39 rfl (Nat.le_of_ble_eq_true rfl) rfl ?_
      exact JT_sub [1, 0] rfl h
    · have h := h.2 hc1
      refine JT_iconst (v := -1) dX12_pack_36 ic_m1 ?_
      exact JS_iret dX12_pack_37 rfl rfl h
set_option maxRecDepth 20000 in
theorem bX12_price_53 (a1 : Int32) (a2 : Int32) (a3 : Int32) {s : SM} {Q : Int32 → SM → Prop} (h : ((((3 : Int32) * (gI s 248 45)) ≤ a3 → KI MX12_bestPack 4 [.ref 248, .int (-1 : Int32), .int (0 : Int32)] s (fun x2 s1 => KI MX12_bestPack 4 [.ref 248, .int a1, .int a2] s1 (fun x4 s3 => Q (x4 - x2) s3))) ∧ (¬ ((3 : Int32) * (gI s 248 45)) ≤ a3 → vp_in a3 18 ∧ vp_in a3 18 ∧ BI MX12_price 5 53 [(0, .ref 248), (1, .int a1), (2, .int a2), (3, .int (a3 + 1))] (pI s 264 (a3).toNatClampNeg (gI s 265 (a3).toNatClampNeg)) Q))) : BI MX12_price 5 53 [(0, .ref 248), (1, .int a1), (2, .int a2), (3, .int a3)] s Q := by
  refine JT_iload_n (q := 3) dX12_price_53 rfl rfl ?_
  refine JT_iconst (v := 3) dX12_price_54 ic_3 ?_
  refine JT_aload_n (q := 0) dX12_price_55 rfl rfl ?_
  refine JS_getI dX12_price_56 flX12_419 BS_248 (Nat.le_of_ble_eq_true rfl) (Nat.le_of_ble_eq_true rfl) (Or.inl ct_12_45) ?_
  refine JT_imul dX12_price_59 ?_
  refine JT_icmp_ge (tgt := 81) dX12_price_60 (by decide) (fun hc7 => ?_) (fun hc7 => ?_)
  · have h := h.1 hc7
    refine JT_aload_n (q := 0) dX12_price_81 rfl rfl ?_
    refine JT_iconst (v := -1) dX12_price_82 ic_m1 ?_
    refine JT_iconst (v := 0) dX12_price_83 ic_0 ?_
    refine JS_callVI (M' := MX12_bestPack) (d' := 4) (As := [.int (-1 : Int32), .int (0 : Int32)]) (rest := []) dX12_price_84 cvX12_430 okX12_bestPack rfl (Nat.le_of_ble_eq_true rfl) BS_248 (Nat.le_of_ble_eq_true rfl) (Nat.le_of_ble_eq_true rfl) hci_12 (Nat.le_of_ble_eq_true rfl) (Nat.le_of_ble_eq_true rfl) h (fun x2 s1 h => ?_)
    refine JT_istore_n (lv' := [(3, .int x2), (0, .ref 248), (1, .int a1), (2, .int a2)]) dX12_price_87 rfl (Nat.le_of_ble_eq_true rfl) rfl ?_
    refine JT_aload_n (q := 1) dX12_price_88 rfl rfl ?_
    refine JT_iload_n (q := 2) dX12_price_89 rfl rfl ?_
    refine JT_iload_n (q := 3) dX12_price_90 rfl rfl ?_
    refine JS_callVI (M' := MX12_bestPack) (d' := 4) (As := [.int a1, .int a2]) (rest := []) dX12_price_91 cvX12_430 okX12_bestPack rfl (Nat.le_of_ble_eq_true rfl) BS_248 (Nat.le_of_ble_eq_true rfl) (Nat.le_of_ble_eq_true rfl) hci_12 (Nat.le_of_ble_eq_true rfl) (Nat.le_of_ble_eq_true rfl) h (fun x4 s3 h => ?_)
    refine JT_iload_n (q := 0) dX12_price_94 rfl rfl ?_
    refine JT_isub dX12_price_95 ?_
    exact JS_iret dX12_price_96 rfl rfl h
  · have h := h.2 hc7
    refine JT_aload_n (q := 0) dX12_price_63 rfl rfl ?_
    refine JS_getR (x := 264) dX12_price_64 flX12_77 BS_248 (Nat.le_of_ble_eq_true rfl) (Nat.le_of_ble_eq_true rfl) (Or.inr ⟨_, ct_12_39⟩) RF_248_39 ?_
    refine JT_iload_n (q := 3) dX12_price_67 rfl rfl ?_
    refine JT_aload_n (q := 0) dX12_price_68 rfl rfl ?_
    refine JS_getR (x := 265) dX12_price_69 flX12_80 BS_248 (Nat.le_of_ble_eq_true rfl) (Nat.le_of_ble_eq_true rfl) (Or.inr ⟨_, ct_12_40⟩) RF_248_40 ?_
    refine JT_iload_n (q := 3) dX12_price_72 rfl rfl ?_
    obtain ⟨o5, h⟩ := h
    refine JS_iald dX12_price_73 BS_265 (Nat.le_of_ble_eq_true rfl) (Nat.le_of_ble_eq_true rfl) o5 ?_
    obtain ⟨o6, h⟩ := h
    refine JS_iast dX12_price_74 BS_264 (Nat.le_of_ble_eq_true rfl) (Nat.le_of_ble_eq_true rfl) o6 ?_
    refine JT_iinc (q := 3) (v := (a3 + 1)) (lv' := [(3, .int (a3 + 1)), (0, .ref 248), (1, .int a1), (2, .int a2)]) dX12_price_75 rfl (by rfl) (Nat.le_of_ble_eq_true rfl) rfl ?_
    refine JT_goto (tgt := 53) dX12_price_78 (by decide) ?_
    exact JT_sub [1, 2, 3, 0] rfl h
set_option maxRecDepth 20000 in
theorem bX12_price (a1 : Int32) (a2 : Int32) {s : SM} {Q : Int32 → SM → Prop} (h : (((vX12_isBody (pI s 248 0 (0 : Int32)) a1) = 0 → Q (-1 : Int32) (pI s 248 0 (0 : Int32))) ∧ (¬ (vX12_isBody (pI s 248 0 (0 : Int32)) a1) = 0 → (((vX12_isIn (pI s 248 0 (0 : Int32)) a2 (1 : Int32) (99 : Int32)) = 0 → Q (-1 : Int32) (pI s 248 0 (0 : Int32))) ∧ (¬ (vX12_isIn (pI s 248 0 (0 : Int32)) a2 (1 : Int32) (99 : Int32)) = 0 → (((gI (pI s 248 0 (0 : Int32)) 248 46) < 0 → Q (-1 : Int32) (pI s 248 0 (0 : Int32))) ∧ (¬ (gI (pI s 248 0 (0 : Int32)) 248 46) < 0 → (((gI (pI s 248 0 (0 : Int32)) 248 47) = (gI (pI s 248 0 (0 : Int32)) 248 22) → BI MX12_price 5 53 [(0, .ref 248), (1, .int a1), (2, .int a2), (3, .int (0 : Int32))] (pI (pI s 248 0 (0 : Int32)) 248 45 (gI (pI s 248 0 (0 : Int32)) 248 46)) Q) ∧ (¬ (gI (pI s 248 0 (0 : Int32)) 248 47) = (gI (pI s 248 0 (0 : Int32)) 248 22) → Q (-1 : Int32) (pI s 248 0 (0 : Int32))))))))))) : KI MX12_price 5 [.ref 248, .int a1, .int a2] s Q := by
  show BI MX12_price 5 0 [(0, .ref 248), (1, .int a1), (2, .int a2)] s Q
  refine JT_aload_n (q := 0) dX12_price_0 rfl rfl ?_
  refine JT_iconst (v := 0) dX12_price_1 ic_0 ?_
  refine JS_putI dX12_price_2 flX12_1 BS_248 (Nat.le_of_ble_eq_true rfl) (Nat.le_of_ble_eq_true rfl) ct_12_0 ?_
  refine JT_aload_n (q := 0) dX12_price_5 rfl rfl ?_
  refine JT_iload_n (q := 1) dX12_price_6 rfl rfl ?_
  refine JS_callVI (M' := MX12_isBody) (d' := 1) (As := [.int a1]) (rest := []) (P := (fun zv9 wm9 => (vX12_isBody (pI s 248 0 (0 : Int32)) a1) = zv9 ∧ (pI s 248 0 (0 : Int32)) = wm9)) dX12_price_7 cvX12_287 okX12_isBody rfl (Nat.le_of_ble_eq_true rfl) BS_248 (Nat.le_of_ble_eq_true rfl) (Nat.le_of_ble_eq_true rfl) hci_12 (Nat.le_of_ble_eq_true rfl) (Nat.le_of_ble_eq_true rfl) (pX12_isBody  (a1)  ⟨rfl, rfl⟩) (fun zv9 wm9 hq9 => ?_)
  obtain ⟨rfl, rfl⟩ := hq9
  refine JT_if_eq (tgt := 41) dX12_price_10 (by decide) (fun hc5 => ?_) (fun hc5 => ?_)
  · have h := h.1 hc5
    refine JT_iconst (v := -1) dX12_price_41 ic_m1 ?_
    exact JS_iret dX12_price_42 rfl rfl h
  · have h := h.2 hc5
    refine JT_iload_n (q := 2) dX12_price_13 rfl rfl ?_
    refine JT_iconst (v := 1) dX12_price_14 ic_1 ?_
    refine JT_bipush (v := 99) dX12_price_15 bp_99 ?_
    refine JS_callSI (M' := MX12_isIn) (d' := 0) (As := [.int a2, .int (1 : Int32), .int (99 : Int32)]) (rest := []) (P := (fun zv9 wm9 => (vX12_isIn (pI s 248 0 (0 : Int32)) a2 (1 : Int32) (99 : Int32)) = zv9 ∧ (pI s 248 0 (0 : Int32)) = wm9)) dX12_price_17 cvX12_202 okX12_isIn rfl (Nat.le_of_ble_eq_true rfl) (Nat.le_of_ble_eq_true rfl) (Nat.le_of_ble_eq_true rfl) (pX12_isIn  (a2) ((1 : Int32)) ((99 : Int32))  ⟨rfl, rfl⟩) (fun zv9 wm9 hq9 => ?_)
    obtain ⟨rfl, rfl⟩ := hq9
    refine JT_if_eq (tgt := 41) dX12_price_20 (by decide) (fun hc3 => ?_) (fun hc3 => ?_)
    · have h := h.1 hc3
      refine JT_iconst (v := -1) dX12_price_41 ic_m1 ?_
      exact JS_iret dX12_price_42 rfl rfl h
    · have h := h.2 hc3
      refine JT_aload_n (q := 0) dX12_price_23 rfl rfl ?_
      refine JS_getI dX12_price_24 flX12_95 BS_248 (Nat.le_of_ble_eq_true rfl) (Nat.le_of_ble_eq_true rfl) (Or.inl ct_12_46) ?_
      refine JT_if_lt (tgt := 41) dX12_price_27 (by decide) (fun hc2 => ?_) (fun hc2 => ?_)
      · have h := h.1 hc2
        refine JT_iconst (v := -1) dX12_price_41 ic_m1 ?_
        exact JS_iret dX12_price_42 rfl rfl h
      · have h := h.2 hc2
        refine JT_aload_n (q := 0) dX12_price_30 rfl rfl ?_
        refine JS_getI dX12_price_31 flX12_98 BS_248 (Nat.le_of_ble_eq_true rfl) (Nat.le_of_ble_eq_true rfl) (Or.inl ct_12_47) ?_
        refine JT_aload_n (q := 0) dX12_price_34 rfl rfl ?_
        refine JS_getI dX12_price_35 flX12_256 BS_248 (Nat.le_of_ble_eq_true rfl) (Nat.le_of_ble_eq_true rfl) (Or.inl ct_12_22) ?_
        refine JT_icmp_eq (tgt := 43) dX12_price_38 (by decide) (fun hc1 => ?_) (fun hc1 => ?_)
        · have h := h.1 hc1
          refine JT_aload_n (q := 0) dX12_price_43 rfl rfl ?_
          refine JT_aload_n (q := 0) dX12_price_44 rfl rfl ?_
          refine JS_getI dX12_price_45 flX12_95 BS_248 (Nat.le_of_ble_eq_true rfl) (Nat.le_of_ble_eq_true rfl) (Or.inl ct_12_46) ?_
          refine JS_putI dX12_price_48 flX12_419 BS_248 (Nat.le_of_ble_eq_true rfl) (Nat.le_of_ble_eq_true rfl) ct_12_45 ?_
          refine JT_iconst (v := 0) dX12_price_51 ic_0 ?_
          refine JT_istore_n (lv' := [(3, .int (0 : Int32)), (0, .ref 248), (1, .int a1), (2, .int a2)]) dX12_price_52 rfl (Nat.le_of_ble_eq_true rfl) rfl ?_
          exact JT_sub [1, 2, 3, 0] rfl h
        · have h := h.2 hc1
          refine JT_iconst (v := -1) dX12_price_41 ic_m1 ?_
          exact JS_iret dX12_price_42 rfl rfl h
set_option maxRecDepth 20000 in
theorem bX12_write (a1 : Int32) (a2 : Int32) (a3 : Int32) (a4 : Int32) {s : SM} {Q : Int32 → SM → Prop} (h : (((vX12_isBody (pI s 248 0 (0 : Int32)) a1) = 0 → Q (-1 : Int32) (pI s 248 0 (0 : Int32))) ∧ (¬ (vX12_isBody (pI s 248 0 (0 : Int32)) a1) = 0 → (((vX12_isBody (pI s 248 0 (0 : Int32)) a2) = 0 → Q (-1 : Int32) (pI s 248 0 (0 : Int32))) ∧ (¬ (vX12_isBody (pI s 248 0 (0 : Int32)) a2) = 0 → (((vX12_isKind (pI s 248 0 (0 : Int32)) a4) = 0 → Q (-1 : Int32) (pI s 248 0 (0 : Int32))) ∧ (¬ (vX12_isKind (pI s 248 0 (0 : Int32)) a4) = 0 → ((¬ (vX12_isIn (pI s 248 0 (0 : Int32)) a3 (1 : Int32) (99 : Int32)) = 0 → KI MX12_whyWrite 4 [.ref 248, .int a1, .int a2, .int a4] (pI s 248 0 (0 : Int32)) (fun x2 s1 => ((x2 ≤ 0 → KV MX12_keep 0 [.ref 248] s1 (fun s3 => KV MX12_writes 4 [.ref 248, .int a1, .int a2, .int a3, .int a4] s3 (fun s5 => Q ((gI s5 250 ((34 : Int32)).toNatClampNeg) - (1 : Int32)) s5))) ∧ (¬ x2 ≤ 0 → Q ((-10 : Int32) - x2) s1)))) ∧ ((vX12_isIn (pI s 248 0 (0 : Int32)) a3 (1 : Int32) (99 : Int32)) = 0 → Q (-1 : Int32) (pI s 248 0 (0 : Int32))))))))))) : KI MX12_write 5 [.ref 248, .int a1, .int a2, .int a3, .int a4] s Q := by
  show BI MX12_write 5 0 [(0, .ref 248), (1, .int a1), (2, .int a2), (3, .int a3), (4, .int a4)] s Q
  refine JT_aload_n (q := 0) dX12_write_0 rfl rfl ?_
  refine JT_iconst (v := 0) dX12_write_1 ic_0 ?_
  refine JS_putI dX12_write_2 flX12_1 BS_248 (Nat.le_of_ble_eq_true rfl) (Nat.le_of_ble_eq_true rfl) ct_12_0 ?_
  refine JT_aload_n (q := 0) dX12_write_5 rfl rfl ?_
  refine JT_iload_n (q := 1) dX12_write_6 rfl rfl ?_
  refine JS_callVI (M' := MX12_isBody) (d' := 1) (As := [.int a1]) (rest := []) (P := (fun zv9 wm9 => (vX12_isBody (pI s 248 0 (0 : Int32)) a1) = zv9 ∧ (pI s 248 0 (0 : Int32)) = wm9)) dX12_write_7 cvX12_287 okX12_isBody rfl (Nat.le_of_ble_eq_true rfl) BS_248 (Nat.le_of_ble_eq_true rfl) (Nat.le_of_ble_eq_true rfl) hci_12 (Nat.le_of_ble_eq_true rfl) (Nat.le_of_ble_eq_true rfl) (pX12_isBody  (a1)  ⟨rfl, rfl⟩) (fun zv9 wm9 hq9 => ?_)
  obtain ⟨rfl, rfl⟩ := hq9
  refine JT_if_eq (tgt := 40) dX12_write_10 (by decide) (fun hc14 => ?_) (fun hc14 => ?_)
  · have h := h.1 hc14
    refine JT_iconst (v := -1) dX12_write_40 ic_m1 ?_
    exact JS_iret dX12_write_41 rfl rfl h
  · have h := h.2 hc14
    refine JT_aload_n (q := 0) dX12_write_13 rfl rfl ?_
    refine JT_iload_n (q := 2) dX12_write_14 rfl rfl ?_
    refine JS_callVI (M' := MX12_isBody) (d' := 1) (As := [.int a2]) (rest := []) (P := (fun zv9 wm9 => (vX12_isBody (pI s 248 0 (0 : Int32)) a2) = zv9 ∧ (pI s 248 0 (0 : Int32)) = wm9)) dX12_write_15 cvX12_287 okX12_isBody rfl (Nat.le_of_ble_eq_true rfl) BS_248 (Nat.le_of_ble_eq_true rfl) (Nat.le_of_ble_eq_true rfl) hci_12 (Nat.le_of_ble_eq_true rfl) (Nat.le_of_ble_eq_true rfl) (pX12_isBody  (a2)  ⟨rfl, rfl⟩) (fun zv9 wm9 hq9 => ?_)
    obtain ⟨rfl, rfl⟩ := hq9
    refine JT_if_eq (tgt := 40) dX12_write_18 (by decide) (fun hc12 => ?_) (fun hc12 => ?_)
    · have h := h.1 hc12
      refine JT_iconst (v := -1) dX12_write_40 ic_m1 ?_
      exact JS_iret dX12_write_41 rfl rfl h
    · have h := h.2 hc12
      refine JT_aload_n (q := 0) dX12_write_21 rfl rfl ?_
      refine JT_iload (q := 4) dX12_write_22 rfl ?_
      refine JS_callVI (M' := MX12_isKind) (d' := 1) (As := [.int a4]) (rest := []) (P := (fun zv9 wm9 => (vX12_isKind (pI s 248 0 (0 : Int32)) a4) = zv9 ∧ (pI s 248 0 (0 : Int32)) = wm9)) dX12_write_24 cvX12_306 okX12_isKind rfl (Nat.le_of_ble_eq_true rfl) BS_248 (Nat.le_of_ble_eq_true rfl) (Nat.le_of_ble_eq_true rfl) hci_12 (Nat.le_of_ble_eq_true rfl) (Nat.le_of_ble_eq_true rfl) (pX12_isKind  (a4)  ⟨rfl, rfl⟩) (fun zv9 wm9 hq9 => ?_)
      obtain ⟨rfl, rfl⟩ := hq9
      refine JT_if_eq (tgt := 40) dX12_write_27 (by decide) (fun hc10 => ?_) (fun hc10 => ?_)
      · have h := h.1 hc10
        refine JT_iconst (v := -1) dX12_write_40 ic_m1 ?_
        exact JS_iret dX12_write_41 rfl rfl h
      · have h := h.2 hc10
        refine JT_iload_n (q := 3) dX12_write_30 rfl rfl ?_
        refine JT_iconst (v := 1) dX12_write_31 ic_1 ?_
        refine JT_bipush (v := 99) dX12_write_32 bp_99 ?_
        refine JS_callSI (M' := MX12_isIn) (d' := 0) (As := [.int a3, .int (1 : Int32), .int (99 : Int32)]) (rest := []) (P := (fun zv9 wm9 => (vX12_isIn (pI s 248 0 (0 : Int32)) a3 (1 : Int32) (99 : Int32)) = zv9 ∧ (pI s 248 0 (0 : Int32)) = wm9)) dX12_write_34 cvX12_202 okX12_isIn rfl (Nat.le_of_ble_eq_true rfl) (Nat.le_of_ble_eq_true rfl) (Nat.le_of_ble_eq_true rfl) (pX12_isIn  (a3) ((1 : Int32)) ((99 : Int32))  ⟨rfl, rfl⟩) (fun zv9 wm9 hq9 => ?_)
        obtain ⟨rfl, rfl⟩ := hq9
        refine JT_if_ne (tgt := 42) dX12_write_37 (by decide) (fun hc8 => ?_) (fun hc8 => ?_)
        · have h := h.1 hc8
          refine JT_aload_n (q := 0) dX12_write_42 rfl rfl ?_
          refine JT_iload_n (q := 1) dX12_write_43 rfl rfl ?_
          refine JT_iload_n (q := 2) dX12_write_44 rfl rfl ?_
          refine JT_iload (q := 4) dX12_write_45 rfl ?_
          refine JS_callVI (M' := MX12_whyWrite) (d' := 4) (As := [.int a1, .int a2, .int a4]) (rest := []) dX12_write_47 cvX12_326 okX12_whyWrite rfl (Nat.le_of_ble_eq_true rfl) BS_248 (Nat.le_of_ble_eq_true rfl) (Nat.le_of_ble_eq_true rfl) hci_12 (Nat.le_of_ble_eq_true rfl) (Nat.le_of_ble_eq_true rfl) h (fun x2 s1 h => ?_)
          refine JT_istore (lv' := [(5, .int x2), (0, .ref 248), (1, .int a1), (2, .int a2), (3, .int a3), (4, .int a4)]) dX12_write_50 (Nat.le_of_ble_eq_true rfl) rfl ?_
          refine JT_iload (q := 0) dX12_write_52 rfl ?_
          refine JT_if_le (tgt := 63) dX12_write_54 (by decide) (fun hc7 => ?_) (fun hc7 => ?_)
          · have h := h.1 hc7
            refine JT_aload_n (q := 1) dX12_write_63 rfl rfl ?_
            refine JS_callVV (M' := MX12_keep) (d' := 0) (As := []) (rest := []) dX12_write_64 cvX12_329 okX12_keep rfl (Nat.le_of_ble_eq_true rfl) BS_248 (Nat.le_of_ble_eq_true rfl) (Nat.le_of_ble_eq_true rfl) hci_12 (Nat.le_of_ble_eq_true rfl) (Nat.le_of_ble_eq_true rfl) h (fun s3 h => ?_)
            refine JT_aload_n (q := 1) dX12_write_67 rfl rfl ?_
            refine JT_iload_n (q := 2) dX12_write_68 rfl rfl ?_
            refine JT_iload_n (q := 3) dX12_write_69 rfl rfl ?_
            refine JT_iload_n (q := 4) dX12_write_70 rfl rfl ?_
            refine JT_iload (q := 5) dX12_write_71 rfl ?_
            refine JS_callVV (M' := MX12_writes) (d' := 4) (As := [.int a1, .int a2, .int a3, .int a4]) (rest := []) dX12_write_73 cvX12_332 okX12_writes rfl (Nat.le_of_ble_eq_true rfl) BS_248 (Nat.le_of_ble_eq_true rfl) (Nat.le_of_ble_eq_true rfl) hci_12 (Nat.le_of_ble_eq_true rfl) (Nat.le_of_ble_eq_true rfl) h (fun s5 h => ?_)
            refine JT_aload_n (q := 1) dX12_write_76 rfl rfl ?_
            refine JS_getR (x := 250) dX12_write_77 flX12_33 BS_248 (Nat.le_of_ble_eq_true rfl) (Nat.le_of_ble_eq_true rfl) (Or.inr ⟨_, ct_12_6⟩) RF_248_6 ?_
            refine JT_bipush (v := 34) dX12_write_80 bp_34 ?_
            refine JS_iald dX12_write_82 BS_250 (Nat.le_of_ble_eq_true rfl) (Nat.le_of_ble_eq_true rfl) (by unfold vp_in; decide) ?_
            refine JT_iconst (v := 1) dX12_write_83 ic_1 ?_
            refine JT_isub dX12_write_84 ?_
            exact JS_iret dX12_write_85 rfl rfl h
          · have h := h.2 hc7
            refine JT_bipush (v := -10) dX12_write_57 bp_m10 ?_
            refine JT_iload (q := 0) dX12_write_59 rfl ?_
            refine JT_isub dX12_write_61 ?_
            exact JS_iret dX12_write_62 rfl rfl h
        · have h := h.2 hc8
          refine JT_iconst (v := -1) dX12_write_40 ic_m1 ?_
          exact JS_iret dX12_write_41 rfl rfl h
set_option maxRecDepth 20000 in
theorem bX1_findLost_7 (a1 : Int32) {s : SM} {Q : Int32 → SM → Prop} (h : ∃ Lx1 Px1, gD s 2 = some Lx1 ∧ (Lx1, Px1) ∈ LX ∧ (((gI s Lx1 9) ≤ a1 → Q (1 : Int32) s) ∧ (¬ (gI s Lx1 9) ≤ a1 → ∃ Lx2 Px2, gD s 2 = some Lx2 ∧ (Lx2, Px2) ∈ LX ∧ rX4_isLost s Lx2 Px2 a1 ∧ (((vX4_isLost s Lx2 Px2 a1) = 0 → BI MX1_findLost 5 7 [(0, .ref 233), (1, .int (a1 + 1))] s Q) ∧ (¬ (vX4_isLost s Lx2 Px2 a1) = 0 → (((gI s 233 6) < (4 : Int32) → vp_in (gI s 233 6) 4 ∧ (∀ s4, s4 = (pI (pI s 234 ((gI s 233 6)).toNatClampNeg a1) 233 6 ((gI (pI s 234 ((gI s 233 6)).toNatClampNeg a1) 233 6) + (1 : Int32))) → BI MX1_findLost 5 7 [(0, .ref 233), (1, .int (a1 + 1))] s4 Q)) ∧ (¬ (gI s 233 6) < (4 : Int32) → Q (0 : Int32) s))))))) : BI MX1_findLost 5 7 [(0, .ref 233), (1, .int a1)] s Q := by
  refine JT_iload_n (q := 1) dX1_findLost_7 rfl rfl ?_
  refine JT_aload_n (q := 0) dX1_findLost_8 rfl rfl ?_
  obtain ⟨Lx1, Px1, hrx1, hLx1, h⟩ := h
  refine JS_getR dX1_findLost_9 flX1_30 BS_233 (Nat.le_of_ble_eq_true rfl) (Nat.le_of_ble_eq_true rfl) (Or.inl ⟨_, ct_1_11⟩) (RF_233_11.trans hrx1) ?_
  refine JS_getI dX1_findLost_12 flX1_70 (lxB hLx1) (lx2 hLx1) (lxN hLx1) (Or.inl ct_4_9) ?_
  refine JT_icmp_ge (tgt := 65) dX1_findLost_15 (by decide) (fun hc8 => ?_) (fun hc8 => ?_)
  · have h := h.1 hc8
    refine JT_iconst (v := 1) dX1_findLost_65 ic_1 ?_
    exact JS_iret dX1_findLost_66 rfl (n01 (Or.inr rfl)) h
  · have h := h.2 hc8
    refine JT_aload_n (q := 0) dX1_findLost_18 rfl rfl ?_
    obtain ⟨Lx2, Px2, hrx2, hLx2, h⟩ := h
    refine JS_getR dX1_findLost_19 flX1_30 BS_233 (Nat.le_of_ble_eq_true rfl) (Nat.le_of_ble_eq_true rfl) (Or.inl ⟨_, ct_1_11⟩) (RF_233_11.trans hrx2) ?_
    refine JT_iload_n (q := 1) dX1_findLost_22 rfl rfl ?_
    obtain ⟨o7, h⟩ := h
    refine JS_callVI (M' := MX4_isLost) (d' := 4) (As := [.int a1]) (rest := []) (P := (fun zv9 wm9 => (vX4_isLost s Lx2 Px2 a1) = zv9 ∧ s = wm9)) dX1_findLost_23 cvX1_73 okX4_isLost rfl (Nat.le_of_ble_eq_true rfl) (lxB hLx2) (lx2 hLx2) (lxN hLx2) hci_4 (Nat.le_of_ble_eq_true rfl) (Nat.le_of_ble_eq_true rfl) (pX4_isLost hLx2 (a1) o7 ⟨rfl, rfl⟩) (fun zv9 wm9 hq9 => ?_)
    obtain ⟨rfl, rfl⟩ := hq9
    refine JT_if_eq (tgt := 59) dX1_findLost_26 (by decide) (fun hc6 => ?_) (fun hc6 => ?_)
    · have h := h.1 hc6
      refine JT_iinc (q := 1) (v := (a1 + 1)) (lv' := [(1, .int (a1 + 1)), (0, .ref 233)]) dX1_findLost_59 rfl (by rfl) (Nat.le_of_ble_eq_true rfl) rfl ?_
      refine JT_goto (tgt := 7) dX1_findLost_62 (by decide) ?_
      exact JT_sub [1, 0] rfl h
    · have h := h.2 hc6
      refine JT_aload_n (q := 0) dX1_findLost_29 rfl rfl ?_
      refine JS_getI dX1_findLost_30 flX1_67 BS_233 (Nat.le_of_ble_eq_true rfl) (Nat.le_of_ble_eq_true rfl) (Or.inl ct_1_6) ?_
      refine JT_iconst (v := 4) dX1_findLost_33 ic_4 ?_
      refine JT_icmp_lt (tgt := 39) dX1_findLost_34 (by decide) (fun hc5 => ?_) (fun hc5 => ?_)
      · have h := h.1 hc5
        refine JT_aload_n (q := 0) dX1_findLost_39 rfl rfl ?_
        refine JS_getR (x := 234) dX1_findLost_40 flX1_9 BS_233 (Nat.le_of_ble_eq_true rfl) (Nat.le_of_ble_eq_true rfl) (Or.inr ⟨_, ct_1_0⟩) RF_233_0 ?_
        refine JT_aload_n (q := 0) dX1_findLost_43 rfl rfl ?_
        refine JS_getI dX1_findLost_44 flX1_67 BS_233 (Nat.le_of_ble_eq_true rfl) (Nat.le_of_ble_eq_true rfl) (Or.inl ct_1_6) ?_
        refine JT_iload_n (q := 1) dX1_findLost_47 rfl rfl ?_
        obtain ⟨o3, h⟩ := h
        refine JS_iast dX1_findLost_48 BS_234 (Nat.le_of_ble_eq_true rfl) (Nat.le_of_ble_eq_true rfl) o3 ?_
        refine JT_aload_n (q := 0) dX1_findLost_49 rfl rfl ?_
        refine JT_dup dX1_findLost_50 rfl ?_
        refine JS_getI dX1_findLost_51 flX1_67 BS_233 (Nat.le_of_ble_eq_true rfl) (Nat.le_of_ble_eq_true rfl) (Or.inl ct_1_6) ?_
        refine JT_iconst (v := 1) dX1_findLost_54 ic_1 ?_
        refine JT_iadd dX1_findLost_55 ?_
        refine JS_putI dX1_findLost_56 flX1_67 BS_233 (Nat.le_of_ble_eq_true rfl) (Nat.le_of_ble_eq_true rfl) ct_1_6 ?_
        obtain ⟨s4, hs4⟩ : ∃ z, z = (pI (pI s 234 ((gI s 233 6)).toNatClampNeg a1) 233 6 ((gI (pI s 234 ((gI s 233 6)).toNatClampNeg a1) 233 6) + (1 : Int32))) := ⟨_, rfl⟩
        replace h := h s4 hs4
        rw [← hs4]
        refine JT_iinc (q := 1) (v := (a1 + 1)) (lv' := [(1, .int (a1 + 1)), (0, .ref 233)]) dX1_findLost_59 rfl (by rfl) (Nat.le_of_ble_eq_true rfl) rfl ?_
        refine JT_goto (tgt := 7) dX1_findLost_62 (by decide) ?_
        exact JT_sub [1, 0] rfl h
      · have h := h.2 hc5
        refine JT_iconst (v := 0) dX1_findLost_37 ic_0 ?_
        exact JS_iret dX1_findLost_38 rfl (n01 (Or.inl rfl)) h
set_option maxRecDepth 20000 in
theorem bX1_findLost  {s : SM} {Q : Int32 → SM → Prop} (h : BI MX1_findLost 5 7 [(0, .ref 233), (1, .int (0 : Int32))] (pI s 233 6 (0 : Int32)) Q) : KI MX1_findLost 5 [.ref 233] s Q := by
  show BI MX1_findLost 5 0 [(0, .ref 233)] s Q
  refine JT_aload_n (q := 0) dX1_findLost_0 rfl rfl ?_
  refine JT_iconst (v := 0) dX1_findLost_1 ic_0 ?_
  refine JS_putI dX1_findLost_2 flX1_67 BS_233 (Nat.le_of_ble_eq_true rfl) (Nat.le_of_ble_eq_true rfl) ct_1_6 ?_
  refine JT_iconst (v := 0) dX1_findLost_5 ic_0 ?_
  refine JT_istore_n (lv' := [(1, .int (0 : Int32)), (0, .ref 233)]) dX1_findLost_6 rfl (Nat.le_of_ble_eq_true rfl) rfl ?_
  exact JT_sub [1, 0] rfl h
set_option maxRecDepth 20000 in
theorem bX4_owedAtMost_10 {L0 P0 : Nat} (hL0 : (L0, P0) ∈ LX) (a1 : Int32) (a2 : Int32) (a3 : Int32) (a4 : Int32) {s : SM} {Q : Int32 → SM → Prop} (h : (((gI s L0 9) ≤ a4 → Q a3 s) ∧ (¬ (gI s L0 9) ≤ a4 → rX4_isOpen s L0 P0 a4 ∧ (((vX4_isOpen s L0 P0 a4) = 0 → BI MX4_owedAtMost 5 10 [(0, .ref L0), (1, .int a1), (2, .int a2), (3, .int a3), (4, .int (a4 + 1))] s Q) ∧ (¬ (vX4_isOpen s L0 P0 a4) = 0 → vp_in a4 60 ∧ ((¬ (gI s (L0 + 1) (a4).toNatClampNeg) = a1 → BI MX4_owedAtMost 5 10 [(0, .ref L0), (1, .int a1), (2, .int a2), (3, .int a3), (4, .int (a4 + 1))] s Q) ∧ ((gI s (L0 + 1) (a4).toNatClampNeg) = a1 → rX4_isKnownBy s L0 P0 a4 a2 ∧ ((¬ (vX4_isKnownBy s L0 P0 a4 a2) = 0 → BI MX4_owedAtMost 5 10 [(0, .ref L0), (1, .int a1), (2, .int a2), (3, .int a3), (4, .int (a4 + 1))] s Q) ∧ ((vX4_isKnownBy s L0 P0 a4 a2) = 0 → KI MX4_isOnAny 1 [.ref L0, .int a4, .int a2] s (fun x3 s2 => ((x3 = 0 → BI MX4_owedAtMost 5 10 [(0, .ref L0), (1, .int a1), (2, .int a2), (3, .int a3), (4, .int (a4 + 1))] s2 Q) ∧ (¬ x3 = 0 → vp_in a4 60 ∧ rX6_valueOf s2 P0 (gI s2 (L0 + 4) (a4).toNatClampNeg) (99 : Int32) ∧ BI MX4_owedAtMost 5 10 [(0, .ref L0), (1, .int a1), (2, .int a2), (3, .int (a3 + (vX6_valueOf s2 P0 (gI s2 (L0 + 4) (a4).toNatClampNeg) (99 : Int32)))), (4, .int (a4 + 1))] s2 Q)))))))))))) : BI MX4_owedAtMost 5 10 [(0, .ref L0), (1, .int a1), (2, .int a2), (3, .int a3), (4, .int a4)] s Q := by
  refine JT_iload (q := 4) dX4_owedAtMost_10 rfl ?_
  refine JT_aload_n (q := 0) dX4_owedAtMost_12 rfl rfl ?_
  refine JS_getI dX4_owedAtMost_13 flX4_49 (lxB hL0) (lx2 hL0) (lxN hL0) (Or.inl ct_4_9) ?_
  refine JT_icmp_ge (tgt := 84) dX4_owedAtMost_16 (by decide) (fun hc12 => ?_) (fun hc12 => ?_)
  · have h := h.1 hc12
    refine JT_iload_n (q := 3) dX4_owedAtMost_84 rfl rfl ?_
    exact JS_iret dX4_owedAtMost_85 rfl rfl h
  · have h := h.2 hc12
    refine JT_aload_n (q := 0) dX4_owedAtMost_19 rfl rfl ?_
    refine JT_iload (q := 4) dX4_owedAtMost_20 rfl ?_
    obtain ⟨o11, h⟩ := h
    refine JS_callVI (M' := MX4_isOpen) (d' := 1) (As := [.int a4]) (rest := []) (P := (fun zv9 wm9 => (vX4_isOpen s L0 P0 a4) = zv9 ∧ s = wm9)) dX4_owedAtMost_22 cvX4_94 okX4_isOpen rfl (Nat.le_of_ble_eq_true rfl) (lxB hL0) (lx2 hL0) (lxN hL0) hci_4 (Nat.le_of_ble_eq_true rfl) (Nat.le_of_ble_eq_true rfl) (pX4_isOpen hL0 (a4) o11 ⟨rfl, rfl⟩) (fun zv9 wm9 hq9 => ?_)
    obtain ⟨rfl, rfl⟩ := hq9
    refine JT_if_eq (tgt := 78) dX4_owedAtMost_25 (by decide) (fun hc10 => ?_) (fun hc10 => ?_)
    · have h := h.1 hc10
      refine JT_iinc (q := 4) (v := (a4 + 1)) (lv' := [(4, .int (a4 + 1)), (0, .ref L0), (1, .int a1), (2, .int a2), (3, .int a3)]) dX4_owedAtMost_78 rfl (by rfl) (Nat.le_of_ble_eq_true rfl) rfl ?_
      refine JT_goto (tgt := 10) dX4_owedAtMost_81 (by decide) ?_
      exact JT_sub [1, 2, 3, 4, 0] rfl h
    · have h := h.2 hc10
      refine JT_aload_n (q := 0) dX4_owedAtMost_28 rfl rfl ?_
      refine JS_getR (x := (L0 + 1)) dX4_owedAtMost_29 flX4_9 (lxB hL0) (lx2 hL0) (lxN hL0) (Or.inr ⟨_, ct_4_0⟩) (lxR0 hL0) ?_
      refine JT_iload (q := 4) dX4_owedAtMost_32 rfl ?_
      obtain ⟨o1, h⟩ := h
      refine JS_iald dX4_owedAtMost_34 (lxB1 hL0) (lx2k hL0 _) (lxNk hL0 (Nat.le_of_ble_eq_true rfl)) o1 ?_
      refine JT_iload_n (q := 1) dX4_owedAtMost_35 rfl rfl ?_
      refine JT_icmp_ne (tgt := 78) dX4_owedAtMost_36 (by decide) (fun hc9 => ?_) (fun hc9 => ?_)
      · have h := h.1 hc9
        refine JT_iinc (q := 4) (v := (a4 + 1)) (lv' := [(4, .int (a4 + 1)), (0, .ref L0), (1, .int a1), (2, .int a2), (3, .int a3)]) dX4_owedAtMost_78 rfl (by rfl) (Nat.le_of_ble_eq_true rfl) rfl ?_
        refine JT_goto (tgt := 10) dX4_owedAtMost_81 (by decide) ?_
        exact JT_sub [1, 2, 3, 4, 0] rfl h
      · have h := h.2 hc9
        refine JT_aload_n (q := 0) dX4_owedAtMost_39 rfl rfl ?_
        refine JT_iload (q := 4) dX4_owedAtMost_40 rfl ?_
        refine JT_iload_n (q := 2) dX4_owedAtMost_42 rfl rfl ?_
        obtain ⟨o8, h⟩ := h
        refine JS_callVI (M' := MX4_isKnownBy) (d' := 3) (As := [.int a4, .int a2]) (rest := []) (P := (fun zv9 wm9 => (vX4_isKnownBy s L0 P0 a4 a2) = zv9 ∧ s = wm9)) dX4_owedAtMost_43 cvX4_113 okX4_isKnownBy rfl (Nat.le_of_ble_eq_true rfl) (lxB hL0) (lx2 hL0) (lxN hL0) hci_4 (Nat.le_of_ble_eq_true rfl) (Nat.le_of_ble_eq_true rfl) (pX4_isKnownBy hL0 (a4) (a2) o8 ⟨rfl, rfl⟩) (fun zv9 wm9 hq9 => ?_)
        obtain ⟨rfl, rfl⟩ := hq9
        refine JT_if_ne (tgt := 78) dX4_owedAtMost_46 (by decide) (fun hc7 => ?_) (fun hc7 => ?_)
        · have h := h.1 hc7
          refine JT_iinc (q := 4) (v := (a4 + 1)) (lv' := [(4, .int (a4 + 1)), (0, .ref L0), (1, .int a1), (2, .int a2), (3, .int a3)]) dX4_owedAtMost_78 rfl (by rfl) (Nat.le_of_ble_eq_true rfl) rfl ?_
          refine JT_goto (tgt := 10) dX4_owedAtMost_81 (by decide) ?_
          exact JT_sub [1, 2, 3, 4, 0] rfl h
        · have h := h.2 hc7
          refine JT_aload_n (q := 0) dX4_owedAtMost_49 rfl rfl ?_
          refine JT_iload (q := 4) dX4_owedAtMost_50 rfl ?_
          refine JT_iload_n (q := 2) dX4_owedAtMost_52 rfl rfl ?_
          refine JS_callVI (M' := MX4_isOnAny) (d' := 1) (As := [.int a4, .int a2]) (rest := []) dX4_owedAtMost_53 cvX4_119 okX4_isOnAny rfl (Nat.le_of_ble_eq_true rfl) (lxB hL0) (lx2 hL0) (lxN hL0) hci_4 (Nat.le_of_ble_eq_true rfl) (Nat.le_of_ble_eq_true rfl) h (fun x3 s2 h => ?_)
          refine JT_if_eq (tgt := 78) dX4_owedAtMost_56 (by decide) (fun hc6 => ?_) (fun hc6 => ?_)
          · have h := h.1 hc6
            refine JT_iinc (q := 4) (v := (a4 + 1)) (lv' := [(4, .int (a4 + 1)), (0, .ref L0), (1, .int a1), (2, .int a2), (3, .int a3)]) dX4_owedAtMost_78 rfl (by rfl) (Nat.le_of_ble_eq_true rfl) rfl ?_
            refine JT_goto (tgt := 10) dX4_owedAtMost_81 (by decide) ?_
            exact JT_sub [1, 2, 3, 4, 0] rfl h
          · have h := h.2 hc6
            refine JT_iload_n (q := 3) dX4_owedAtMost_59 rfl rfl ?_
            refine JT_aload_n (q := 0) dX4_owedAtMost_60 rfl rfl ?_
            refine JS_getR (x := P0) dX4_owedAtMost_61 flX4_45 (lxB hL0) (lx2 hL0) (lxN hL0) (Or.inl ⟨_, ct_4_8⟩) (lxR8 hL0) ?_
            refine JT_aload_n (q := 0) dX4_owedAtMost_64 rfl rfl ?_
            refine JS_getR (x := (L0 + 4)) dX4_owedAtMost_65 flX4_21 (lxB hL0) (lx2 hL0) (lxN hL0) (Or.inr ⟨_, ct_4_3⟩) (lxR3 hL0) ?_
            refine JT_iload (q := 4) dX4_owedAtMost_68 rfl ?_
            obtain ⟨o4, h⟩ := h
            refine JS_iald dX4_owedAtMost_70 (lxB4 hL0) (lx2k hL0 _) (lxNk hL0 (Nat.le_of_ble_eq_true rfl)) o4 ?_
            refine JT_bipush (v := 99) dX4_owedAtMost_71 bp_99 ?_
            obtain ⟨o5, h⟩ := h
            refine JS_callVI (M' := MX6_valueOf) (d' := 0) (As := [.int (gI s2 (L0 + 4) (a4).toNatClampNeg), .int (99 : Int32)]) (rest := [.int a3]) (P := (fun zv9 wm9 => (vX6_valueOf s2 P0 (gI s2 (L0 + 4) (a4).toNatClampNeg) (99 : Int32)) = zv9 ∧ s2 = wm9)) dX4_owedAtMost_73 cvX4_100 okX6_valueOf rfl (Nat.le_of_ble_eq_true rfl) (pxB (lxP hL0)) (px2 (lxP hL0)) (pxN (lxP hL0)) hci_6 (Nat.le_of_ble_eq_true rfl) (Nat.le_of_ble_eq_true rfl) (pX6_valueOf (lxP hL0) ((gI s2 (L0 + 4) (a4).toNatClampNeg)) ((99 : Int32)) o5 ⟨rfl, rfl⟩) (fun zv9 wm9 hq9 => ?_)
            obtain ⟨rfl, rfl⟩ := hq9
            refine JT_iadd dX4_owedAtMost_76 ?_
            refine JT_istore_n (lv' := [(3, .int (a3 + (vX6_valueOf s2 P0 (gI s2 (L0 + 4) (a4).toNatClampNeg) (99 : Int32)))), (0, .ref L0), (1, .int a1), (2, .int a2), (4, .int a4)]) dX4_owedAtMost_77 rfl (Nat.le_of_ble_eq_true rfl) rfl ?_
            refine JT_iinc (q := 4) (v := (a4 + 1)) (lv' := [(4, .int (a4 + 1)), (3, .int (a3 + (vX6_valueOf s2 P0 (gI s2 (L0 + 4) (a4).toNatClampNeg) (99 : Int32)))), (0, .ref L0), (1, .int a1), (2, .int a2)]) dX4_owedAtMost_78 rfl (by rfl) (Nat.le_of_ble_eq_true rfl) rfl ?_
            refine JT_goto (tgt := 10) dX4_owedAtMost_81 (by decide) ?_
            exact JT_sub [2, 3, 4, 1, 0] rfl h
set_option maxRecDepth 20000 in
theorem bX4_owedAtMost {L0 P0 : Nat} (hL0 : (L0, P0) ∈ LX) (a1 : Int32) (a2 : Int32) {s : SM} {Q : Int32 → SM → Prop} (h : KI MX4_owedSurely 4 [.ref L0, .int a1, .int a2] s (fun x2 s1 => BI MX4_owedAtMost 5 10 [(0, .ref L0), (1, .int a1), (2, .int a2), (3, .int x2), (4, .int (0 : Int32))] s1 Q)) : KI MX4_owedAtMost 5 [.ref L0, .int a1, .int a2] s Q := by
  show BI MX4_owedAtMost 5 0 [(0, .ref L0), (1, .int a1), (2, .int a2)] s Q
  refine JT_aload_n (q := 0) dX4_owedAtMost_0 rfl rfl ?_
  refine JT_iload_n (q := 1) dX4_owedAtMost_1 rfl rfl ?_
  refine JT_iload_n (q := 2) dX4_owedAtMost_2 rfl rfl ?_
  refine JS_callVI (M' := MX4_owedSurely) (d' := 4) (As := [.int a1, .int a2]) (rest := []) dX4_owedAtMost_3 cvX4_116 okX4_owedSurely rfl (Nat.le_of_ble_eq_true rfl) (lxB hL0) (lx2 hL0) (lxN hL0) hci_4 (Nat.le_of_ble_eq_true rfl) (Nat.le_of_ble_eq_true rfl) h (fun x2 s1 h => ?_)
  refine JT_istore_n (lv' := [(3, .int x2), (0, .ref L0), (1, .int a1), (2, .int a2)]) dX4_owedAtMost_6 rfl (Nat.le_of_ble_eq_true rfl) rfl ?_
  refine JT_iconst (v := 0) dX4_owedAtMost_7 ic_0 ?_
  refine JT_istore (lv' := [(4, .int (0 : Int32)), (3, .int x2), (0, .ref L0), (1, .int a1), (2, .int a2)]) dX4_owedAtMost_8 (Nat.le_of_ble_eq_true rfl) rfl ?_
  exact JT_sub [2, 3, 4, 1, 0] rfl h
set_option maxRecDepth 20000 in
theorem bX6_readLine {p0 : Nat} (hp0 : p0 ∈ PX) {s : SM} {Q : Int32 → SM → Prop} (h : (((vX9_says s (1651467385 : Int64)) = 0 → (((vX9_says s (1802071652 : Int64)) = 0 → (((vX9_says s (1818848869 : Int64)) = 0 → (((vX9_says s (6582132 : Int64)) = 0 → Q (vX9_refuse s (1 : Int32)) (mX9_refuse s (1 : Int32))) ∧ (¬ (vX9_says s (6582132 : Int64)) = 0 → KI MX6_readDotRoom 4 [.ref p0, .ref 3] s (fun x3 s2 => (x3 = 0 ∨ x3 = 1) ∧ Q x3 s2)))) ∧ (¬ (vX9_says s (1818848869 : Int64)) = 0 → KI MX6_readLineRoom 4 [.ref p0, .ref 3] s (fun x7 s6 => (x7 = 0 ∨ x7 = 1) ∧ Q x7 s6)))) ∧ (¬ (vX9_says s (1802071652 : Int64)) = 0 → KI MX6_readKind 4 [.ref p0, .ref 3] s (fun x11 s10 => (x11 = 0 ∨ x11 = 1) ∧ Q x11 s10)))) ∧ (¬ (vX9_says s (1651467385 : Int64)) = 0 → KI MX6_readBody 4 [.ref p0, .ref 3] s (fun x15 s14 => (x15 = 0 ∨ x15 = 1) ∧ Q x15 s14)))) : KI MX6_readLine 5 [.ref p0, .ref 3] s Q := by
  show BI MX6_readLine 5 0 [(0, .ref p0), (1, .ref 3)] s Q
  refine JT_aload_n (q := 1) dX6_readLine_0 rfl rfl ?_
  refine JT_ldc2 dX6_readLine_1 kwX6_98 ?_
  refine JS_callVI (M' := MX9_says) (d' := 0) (As := [.long (1651467385 : Int64)]) (rest := []) (P := (fun zv9 wm9 => (vX9_says s (1651467385 : Int64)) = zv9 ∧ s = wm9)) dX6_readLine_4 cvX6_100 okX9_says rfl (Nat.le_of_ble_eq_true rfl) BS_3 (Nat.le_of_ble_eq_true rfl) (Nat.le_of_ble_eq_true rfl) hci_9 (Nat.le_of_ble_eq_true rfl) (Nat.le_of_ble_eq_true rfl) (pX9_says  ((1651467385 : Int64))  ⟨rfl, rfl⟩) (fun zv9 wm9 hq9 => ?_)
  obtain ⟨rfl, rfl⟩ := hq9
  refine JT_if_eq (tgt := 16) dX6_readLine_7 (by decide) (fun hc16 => ?_) (fun hc16 => ?_)
  · have h := h.1 hc16
    refine JT_aload_n (q := 1) dX6_readLine_16 rfl rfl ?_
    refine JT_ldc2 dX6_readLine_17 kwX6_107 ?_
    refine JS_callVI (M' := MX9_says) (d' := 0) (As := [.long (1802071652 : Int64)]) (rest := []) (P := (fun zv9 wm9 => (vX9_says s (1802071652 : Int64)) = zv9 ∧ s = wm9)) dX6_readLine_20 cvX6_100 okX9_says rfl (Nat.le_of_ble_eq_true rfl) BS_3 (Nat.le_of_ble_eq_true rfl) (Nat.le_of_ble_eq_true rfl) hci_9 (Nat.le_of_ble_eq_true rfl) (Nat.le_of_ble_eq_true rfl) (pX9_says  ((1802071652 : Int64))  ⟨rfl, rfl⟩) (fun zv9 wm9 hq9 => ?_)
    obtain ⟨rfl, rfl⟩ := hq9
    refine JT_if_eq (tgt := 32) dX6_readLine_23 (by decide) (fun hc12 => ?_) (fun hc12 => ?_)
    · have h := h.1 hc12
      refine JT_aload_n (q := 1) dX6_readLine_32 rfl rfl ?_
      refine JT_ldc2 dX6_readLine_33 kwX6_112 ?_
      refine JS_callVI (M' := MX9_says) (d' := 0) (As := [.long (1818848869 : Int64)]) (rest := []) (P := (fun zv9 wm9 => (vX9_says s (1818848869 : Int64)) = zv9 ∧ s = wm9)) dX6_readLine_36 cvX6_100 okX9_says rfl (Nat.le_of_ble_eq_true rfl) BS_3 (Nat.le_of_ble_eq_true rfl) (Nat.le_of_ble_eq_true rfl) hci_9 (Nat.le_of_ble_eq_true rfl) (Nat.le_of_ble_eq_true rfl) (pX9_says  ((1818848869 : Int64))  ⟨rfl, rfl⟩) (fun zv9 wm9 hq9 => ?_)
      obtain ⟨rfl, rfl⟩ := hq9
      refine JT_if_eq (tgt := 48) dX6_readLine_39 (by decide) (fun hc8 => ?_) (fun hc8 => ?_)
      · have h := h.1 hc8
        refine JT_aload_n (q := 1) dX6_readLine_48 rfl rfl ?_
        refine JT_ldc2 dX6_readLine_49 kwX6_117 ?_
        refine JS_callVI (M' := MX9_says) (d' := 0) (As := [.long (6582132 : Int64)]) (rest := []) (P := (fun zv9 wm9 => (vX9_says s (6582132 : Int64)) = zv9 ∧ s = wm9)) dX6_readLine_52 cvX6_100 okX9_says rfl (Nat.le_of_ble_eq_true rfl) BS_3 (Nat.le_of_ble_eq_true rfl) (Nat.le_of_ble_eq_true rfl) hci_9 (Nat.le_of_ble_eq_true rfl) (Nat.le_of_ble_eq_true rfl) (pX9_says  ((6582132 : Int64))  ⟨rfl, rfl⟩) (fun zv9 wm9 hq9 => ?_)
        obtain ⟨rfl, rfl⟩ := hq9
        refine JT_if_eq (tgt := 66) dX6_readLine_55 (by decide) (fun hc4 => ?_) (fun hc4 => ?_)
        · have h := h.1 hc4
          refine JT_aload_n (q := 1) dX6_readLine_66 rfl rfl ?_
          refine JT_iconst (v := 1) dX6_readLine_67 ic_1 ?_
          refine JS_callVI (M' := MX9_refuse) (d' := 0) (As := [.int (1 : Int32)]) (rest := []) (P := (fun zv9 wm9 => (vX9_refuse s (1 : Int32)) = zv9 ∧ (mX9_refuse s (1 : Int32)) = wm9)) dX6_readLine_68 cvX6_122 okX9_refuse rfl (Nat.le_of_ble_eq_true rfl) BS_3 (Nat.le_of_ble_eq_true rfl) (Nat.le_of_ble_eq_true rfl) hci_9 (Nat.le_of_ble_eq_true rfl) (Nat.le_of_ble_eq_true rfl) (pX9_refuse  ((1 : Int32))  ⟨rfl, rfl⟩) (fun zv9 wm9 hq9 => ?_)
          obtain ⟨rfl, rfl⟩ := hq9
          exact JS_iret dX6_readLine_71 rfl (n01 (zX9_refuse s (1 : Int32))) h
        · have h := h.2 hc4
          refine JT_aload_n (q := 0) dX6_readLine_58 rfl rfl ?_
          refine JT_aload_n (q := 1) dX6_readLine_59 rfl rfl ?_
          refine JS_callVI (M' := MX6_readDotRoom) (d' := 4) (As := [.ref 3]) (rest := []) dX6_readLine_60 cvX6_119 okX6_readDotRoom rfl (Nat.le_of_ble_eq_true rfl) (pxB hp0) (px2 hp0) (pxN hp0) hci_6 (Nat.le_of_ble_eq_true rfl) (Nat.le_of_ble_eq_true rfl) h (fun x3 s2 h => ?_)
          refine JT_goto (tgt := 71) dX6_readLine_63 (by decide) ?_
          exact JS_iret dX6_readLine_71 rfl (n01 h.1) h.2
      · have h := h.2 hc8
        refine JT_aload_n (q := 0) dX6_readLine_42 rfl rfl ?_
        refine JT_aload_n (q := 1) dX6_readLine_43 rfl rfl ?_
        refine JS_callVI (M' := MX6_readLineRoom) (d' := 4) (As := [.ref 3]) (rest := []) dX6_readLine_44 cvX6_114 okX6_readLineRoom rfl (Nat.le_of_ble_eq_true rfl) (pxB hp0) (px2 hp0) (pxN hp0) hci_6 (Nat.le_of_ble_eq_true rfl) (Nat.le_of_ble_eq_true rfl) h (fun x7 s6 h => ?_)
        exact JS_iret dX6_readLine_47 rfl (n01 h.1) h.2
    · have h := h.2 hc12
      refine JT_aload_n (q := 0) dX6_readLine_26 rfl rfl ?_
      refine JT_aload_n (q := 1) dX6_readLine_27 rfl rfl ?_
      refine JS_callVI (M' := MX6_readKind) (d' := 4) (As := [.ref 3]) (rest := []) dX6_readLine_28 cvX6_109 okX6_readKind rfl (Nat.le_of_ble_eq_true rfl) (pxB hp0) (px2 hp0) (pxN hp0) hci_6 (Nat.le_of_ble_eq_true rfl) (Nat.le_of_ble_eq_true rfl) h (fun x11 s10 h => ?_)
      exact JS_iret dX6_readLine_31 rfl (n01 h.1) h.2
  · have h := h.2 hc16
    refine JT_aload_n (q := 0) dX6_readLine_10 rfl rfl ?_
    refine JT_aload_n (q := 1) dX6_readLine_11 rfl rfl ?_
    refine JS_callVI (M' := MX6_readBody) (d' := 4) (As := [.ref 3]) (rest := []) dX6_readLine_12 cvX6_104 okX6_readBody rfl (Nat.le_of_ble_eq_true rfl) (pxB hp0) (px2 hp0) (pxN hp0) hci_6 (Nat.le_of_ble_eq_true rfl) (Nat.le_of_ble_eq_true rfl) h (fun x15 s14 h => ?_)
    exact JS_iret dX6_readLine_15 rfl (n01 h.1) h.2
set_option maxRecDepth 20000 in
theorem bX0_readFrom_11 {k0 : Nat} (hk0 : k0 ∈ BX) {p2 : Nat} (hp2 : p2 ∈ PX) (a3 : Int32) {s : SM} {Q : Int32 → SM → Prop} (h : (((600 : Int32) < a3 → Q (0 : Int32) s) ∧ (¬ (600 : Int32) < a3 → KV MX9_nextToken 2 [.ref 3] s (fun s1 => (((vX9_isEnd s1 ) = 0 → ((¬ (vX0_actTold s1 ) = (-1 : Int32) → (((gI s1 k0 0) < (40 : Int32) → vp_in (gI s1 k0 0) 40 ∧ KI MX0_readRest 5 [.ref k0, .ref 3, .ref p2, .int (vX0_actTold s1 )] (pI s1 (k0 + 1) ((gI s1 k0 0)).toNatClampNeg (vX0_actTold s1 )) (fun x5 s4 => ((x5 = 0 → Q (0 : Int32) s4) ∧ (¬ x5 = 0 → KI MX9_takeStop 3 [.ref 3] s4 (fun x7 s6 => ((¬ x7 = 0 → BI MX0_readFrom 6 11 [(0, .ref k0), (1, .ref 3), (2, .ref p2), (3, .int (a3 + 1))] (pI s6 k0 0 ((gI s6 k0 0) + (1 : Int32))) Q) ∧ (x7 = 0 → Q (0 : Int32) s6))))))) ∧ (¬ (gI s1 k0 0) < (40 : Int32) → Q (vX9_refuse s1 (4 : Int32)) (mX9_refuse s1 (4 : Int32))))) ∧ ((vX0_actTold s1 ) = (-1 : Int32) → Q (vX9_refuse s1 (1 : Int32)) (mX9_refuse s1 (1 : Int32))))) ∧ (¬ (vX9_isEnd s1 ) = 0 → Q (vX9_isAllRead s1 ) (mX9_isAllRead s1 ))))))) : BI MX0_readFrom 6 11 [(0, .ref k0), (1, .ref 3), (2, .ref p2), (3, .int a3)] s Q := by
  refine JT_iload_n (q := 3) dX0_readFrom_11 rfl rfl ?_
  refine JT_sipush (v := 600) dX0_readFrom_12 sp_600 ?_
  refine JT_icmp_gt (tgt := 114) dX0_readFrom_15 (by decide) (fun hc18 => ?_) (fun hc18 => ?_)
  · have h := h.1 hc18
    refine JT_iconst (v := 0) dX0_readFrom_114 ic_0 ?_
    exact JS_iret dX0_readFrom_115 rfl (n01 (Or.inl rfl)) h
  · have h := h.2 hc18
    refine JT_aload_n (q := 1) dX0_readFrom_18 rfl rfl ?_
    refine JS_callVV (M' := MX9_nextToken) (d' := 2) (As := []) (rest := []) dX0_readFrom_19 cvX0_42 okX9_nextToken rfl (Nat.le_of_ble_eq_true rfl) BS_3 (Nat.le_of_ble_eq_true rfl) (Nat.le_of_ble_eq_true rfl) hci_9 (Nat.le_of_ble_eq_true rfl) (Nat.le_of_ble_eq_true rfl) h (fun s1 h => ?_)
    refine JT_aload_n (q := 1) dX0_readFrom_22 rfl rfl ?_
    refine JS_callVI (M' := MX9_isEnd) (d' := 0) (As := []) (rest := []) (P := (fun zv9 wm9 => (vX9_isEnd s1 ) = zv9 ∧ s1 = wm9)) dX0_readFrom_23 cvX0_45 okX9_isEnd rfl (Nat.le_of_ble_eq_true rfl) BS_3 (Nat.le_of_ble_eq_true rfl) (Nat.le_of_ble_eq_true rfl) hci_9 (Nat.le_of_ble_eq_true rfl) (Nat.le_of_ble_eq_true rfl) (pX9_isEnd    ⟨rfl, rfl⟩) (fun zv9 wm9 hq9 => ?_)
    obtain ⟨rfl, rfl⟩ := hq9
    refine JT_if_eq (tgt := 34) dX0_readFrom_26 (by decide) (fun hc16 => ?_) (fun hc16 => ?_)
    · have h := h.1 hc16
      refine JT_aload_n (q := 1) dX0_readFrom_34 rfl rfl ?_
      refine JS_callSI (M' := MX0_actTold) (d' := 1) (As := [.ref 3]) (rest := []) (P := (fun zv9 wm9 => (vX0_actTold s1 ) = zv9 ∧ s1 = wm9)) dX0_readFrom_35 cvX0_52 okX0_actTold rfl (Nat.le_of_ble_eq_true rfl) (Nat.le_of_ble_eq_true rfl) (Nat.le_of_ble_eq_true rfl) (pX0_actTold    ⟨rfl, rfl⟩) (fun zv9 wm9 hq9 => ?_)
      obtain ⟨rfl, rfl⟩ := hq9
      refine JT_istore (lv' := [(4, .int (vX0_actTold s1 )), (0, .ref k0), (1, .ref 3), (2, .ref p2), (3, .int a3)]) dX0_readFrom_38 (Nat.le_of_ble_eq_true rfl) rfl ?_
      refine JT_iload (q := 0) dX0_readFrom_40 rfl ?_
      refine JT_iconst (v := -1) dX0_readFrom_42 ic_m1 ?_
      refine JT_icmp_ne (tgt := 52) dX0_readFrom_43 (by decide) (fun hc13 => ?_) (fun hc13 => ?_)
      · have h := h.1 hc13
        refine JT_aload_n (q := 1) dX0_readFrom_52 rfl rfl ?_
        refine JS_getI dX0_readFrom_53 flX0_33 (bxB hk0) (bx2 hk0) (bxN hk0) (Or.inl ct_0_0) ?_
        refine JT_bipush (v := 40) dX0_readFrom_56 bp_40 ?_
        refine JT_icmp_lt (tgt := 67) dX0_readFrom_58 (by decide) (fun hc11 => ?_) (fun hc11 => ?_)
        · have h := h.1 hc11
          refine JT_aload_n (q := 1) dX0_readFrom_67 rfl rfl ?_
          refine JS_getR (x := (k0 + 1)) dX0_readFrom_68 flX0_9 (bxB hk0) (bx2 hk0) (bxN hk0) (Or.inr ⟨_, ct_0_1⟩) (bxR1 hk0) ?_
          refine JT_aload_n (q := 1) dX0_readFrom_71 rfl rfl ?_
          refine JS_getI dX0_readFrom_72 flX0_33 (bxB hk0) (bx2 hk0) (bxN hk0) (Or.inl ct_0_0) ?_
          refine JT_iload (q := 0) dX0_readFrom_75 rfl ?_
          obtain ⟨o3, h⟩ := h
          refine JS_iast dX0_readFrom_77 (bxB1 hk0) (bx2k hk0 _) (bxNk hk0 (Nat.le_of_ble_eq_true rfl)) o3 ?_
          refine JT_aload_n (q := 1) dX0_readFrom_78 rfl rfl ?_
          refine JT_aload_n (q := 2) dX0_readFrom_79 rfl rfl ?_
          refine JT_aload_n (q := 3) dX0_readFrom_80 rfl rfl ?_
          refine JT_iload (q := 0) dX0_readFrom_81 rfl ?_
          refine JS_callVI (M' := MX0_readRest) (d' := 5) (As := [.ref 3, .ref p2, .int (vX0_actTold s1 )]) (rest := []) dX0_readFrom_83 cvX0_60 okX0_readRest rfl (Nat.le_of_ble_eq_true rfl) (bxB hk0) (bx2 hk0) (bxN hk0) hci_0 (Nat.le_of_ble_eq_true rfl) (Nat.le_of_ble_eq_true rfl) h (fun x5 s4 h => ?_)
          refine JT_if_eq (tgt := 96) dX0_readFrom_86 (by decide) (fun hc9 => ?_) (fun hc9 => ?_)
          · have h := h.1 hc9
            refine JT_iconst (v := 0) dX0_readFrom_96 ic_0 ?_
            exact JS_iret dX0_readFrom_97 rfl (n01 (Or.inl rfl)) h
          · have h := h.2 hc9
            refine JT_aload_n (q := 2) dX0_readFrom_89 rfl rfl ?_
            refine JS_callVI (M' := MX9_takeStop) (d' := 3) (As := []) (rest := []) dX0_readFrom_90 cvX0_64 okX9_takeStop rfl (Nat.le_of_ble_eq_true rfl) BS_3 (Nat.le_of_ble_eq_true rfl) (Nat.le_of_ble_eq_true rfl) hci_9 (Nat.le_of_ble_eq_true rfl) (Nat.le_of_ble_eq_true rfl) h (fun x7 s6 h => ?_)
            refine JT_if_ne (tgt := 98) dX0_readFrom_93 (by decide) (fun hc8 => ?_) (fun hc8 => ?_)
            · have h := h.1 hc8
              refine JT_aload_n (q := 1) dX0_readFrom_98 rfl rfl ?_
              refine JT_dup dX0_readFrom_99 rfl ?_
              refine JS_getI dX0_readFrom_100 flX0_33 (bxB hk0) (bx2 hk0) (bxN hk0) (Or.inl ct_0_0) ?_
              refine JT_iconst (v := 1) dX0_readFrom_103 ic_1 ?_
              refine JT_iadd dX0_readFrom_104 ?_
              refine JS_putI dX0_readFrom_105 flX0_33 (bxB hk0) (bx2 hk0) (bxN hk0) ct_0_0 ?_
              refine JT_iinc (q := 4) (v := (a3 + 1)) (lv' := [(3, .int (a3 + 1)), (4, .int (vX0_actTold s1 )), (0, .ref k0), (1, .ref 3), (2, .ref p2)]) dX0_readFrom_108 rfl (by rfl) (Nat.le_of_ble_eq_true rfl) rfl ?_
              refine JT_goto (tgt := 11) dX0_readFrom_111 (by decide) ?_
              exact JT_sub [2, 3, 4, 0] rfl h
            · have h := h.2 hc8
              refine JT_iconst (v := 0) dX0_readFrom_96 ic_0 ?_
              exact JS_iret dX0_readFrom_97 rfl (n01 (Or.inl rfl)) h
        · have h := h.2 hc11
          refine JT_aload_n (q := 2) dX0_readFrom_61 rfl rfl ?_
          refine JT_iconst (v := 4) dX0_readFrom_62 ic_4 ?_
          refine JS_callVI (M' := MX9_refuse) (d' := 0) (As := [.int (4 : Int32)]) (rest := []) (P := (fun zv9 wm9 => (vX9_refuse s1 (4 : Int32)) = zv9 ∧ (mX9_refuse s1 (4 : Int32)) = wm9)) dX0_readFrom_63 cvX0_56 okX9_refuse rfl (Nat.le_of_ble_eq_true rfl) BS_3 (Nat.le_of_ble_eq_true rfl) (Nat.le_of_ble_eq_true rfl) hci_9 (Nat.le_of_ble_eq_true rfl) (Nat.le_of_ble_eq_true rfl) (pX9_refuse  ((4 : Int32))  ⟨rfl, rfl⟩) (fun zv9 wm9 hq9 => ?_)
          obtain ⟨rfl, rfl⟩ := hq9
          exact JS_iret dX0_readFrom_66 rfl (n01 (zX9_refuse s1 (4 : Int32))) h
      · have h := h.2 hc13
        refine JT_aload_n (q := 2) dX0_readFrom_46 rfl rfl ?_
        refine JT_iconst (v := 1) dX0_readFrom_47 ic_1 ?_
        refine JS_callVI (M' := MX9_refuse) (d' := 0) (As := [.int (1 : Int32)]) (rest := []) (P := (fun zv9 wm9 => (vX9_refuse s1 (1 : Int32)) = zv9 ∧ (mX9_refuse s1 (1 : Int32)) = wm9)) dX0_readFrom_48 cvX0_56 okX9_refuse rfl (Nat.le_of_ble_eq_true rfl) BS_3 (Nat.le_of_ble_eq_true rfl) (Nat.le_of_ble_eq_true rfl) hci_9 (Nat.le_of_ble_eq_true rfl) (Nat.le_of_ble_eq_true rfl) (pX9_refuse  ((1 : Int32))  ⟨rfl, rfl⟩) (fun zv9 wm9 hq9 => ?_)
        obtain ⟨rfl, rfl⟩ := hq9
        exact JS_iret dX0_readFrom_51 rfl (n01 (zX9_refuse s1 (1 : Int32))) h
    · have h := h.2 hc16
      refine JT_aload_n (q := 1) dX0_readFrom_29 rfl rfl ?_
      refine JS_callVI (M' := MX9_isAllRead) (d' := 1) (As := []) (rest := []) (P := (fun zv9 wm9 => (vX9_isAllRead s1 ) = zv9 ∧ (mX9_isAllRead s1 ) = wm9)) dX0_readFrom_30 cvX0_49 okX9_isAllRead rfl (Nat.le_of_ble_eq_true rfl) BS_3 (Nat.le_of_ble_eq_true rfl) (Nat.le_of_ble_eq_true rfl) hci_9 (Nat.le_of_ble_eq_true rfl) (Nat.le_of_ble_eq_true rfl) (pX9_isAllRead    ⟨rfl, rfl⟩) (fun zv9 wm9 hq9 => ?_)
      obtain ⟨rfl, rfl⟩ := hq9
      exact JS_iret dX0_readFrom_33 rfl (n01 (zX9_isAllRead s1 )) h
set_option maxRecDepth 20000 in
theorem bX0_readFrom {k0 : Nat} (hk0 : k0 ∈ BX) {p2 : Nat} (hp2 : p2 ∈ PX) {s : SM} {Q : Int32 → SM → Prop} (h : BI MX0_readFrom 6 11 [(0, .ref k0), (1, .ref 3), (2, .ref p2), (3, .int (0 : Int32))] (mX9_begin (pI s k0 0 (0 : Int32)) ) Q) : KI MX0_readFrom 6 [.ref k0, .ref 3, .ref p2] s Q := by
  show BI MX0_readFrom 6 0 [(0, .ref k0), (1, .ref 3), (2, .ref p2)] s Q
  refine JT_aload_n (q := 0) dX0_readFrom_0 rfl rfl ?_
  refine JT_iconst (v := 0) dX0_readFrom_1 ic_0 ?_
  refine JS_putI dX0_readFrom_2 flX0_33 (bxB hk0) (bx2 hk0) (bxN hk0) ct_0_0 ?_
  refine JT_aload_n (q := 1) dX0_readFrom_5 rfl rfl ?_
  refine JS_callVV (M' := MX9_begin) (d' := 0) (As := []) (rest := []) (P := (fun wm9 => (mX9_begin (pI s k0 0 (0 : Int32)) ) = wm9)) dX0_readFrom_6 cvX0_37 okX9_begin rfl (Nat.le_of_ble_eq_true rfl) BS_3 (Nat.le_of_ble_eq_true rfl) (Nat.le_of_ble_eq_true rfl) hci_9 (Nat.le_of_ble_eq_true rfl) (Nat.le_of_ble_eq_true rfl) (pX9_begin    rfl) (fun wm9 hq9 => ?_)
  subst hq9
  refine JT_iconst (v := 0) dX0_readFrom_9 ic_0 ?_
  refine JT_istore_n (lv' := [(3, .int (0 : Int32)), (0, .ref k0), (1, .ref 3), (2, .ref p2)]) dX0_readFrom_10 rfl (Nat.le_of_ble_eq_true rfl) rfl ?_
  exact JT_sub [1, 2, 3, 0] rfl h
set_option maxRecDepth 20000 in
theorem bX11_owed (a1 : Int32) (a2 : Int32) (a3 : Int32) {s : SM} {Q : Int32 → SM → Prop} (h : (((vX6_hasBody s 5 a1) = 0 → Q (-1 : Int32) s) ∧ (¬ (vX6_hasBody s 5 a1) = 0 → ((a2 < 0 → Q (-1 : Int32) s) ∧ (¬ a2 < 0 → ((((1 : Int32) <<< ((gI s 5 6) &&& 31)) ≤ a2 → Q (-1 : Int32) s) ∧ (¬ ((1 : Int32) <<< ((gI s 5 6) &&& 31)) ≤ a2 → ((a3 < 0 → Q (-1 : Int32) s) ∧ (¬ a3 < 0 → ((a3 ≤ (1 : Int32) → ((¬ a3 = 0 → KI MX4_owedAtMost 5 [.ref 31, .int a1, .int a2] s (fun x2 s1 => Q x2 s1)) ∧ (a3 = 0 → KI MX4_owedSurely 4 [.ref 31, .int a1, .int a2] s (fun x4 s3 => Q x4 s3)))) ∧ (¬ a3 ≤ (1 : Int32) → Q (-1 : Int32) s))))))))))) : KI MX11_owed 6 [.ref 2, .int a1, .int a2, .int a3] s Q := by
  show BI MX11_owed 6 0 [(0, .ref 2), (1, .int a1), (2, .int a2), (3, .int a3)] s Q
  refine JT_aload_n (q := 0) dX11_owed_0 rfl rfl ?_
  refine JS_getR (x := 5) dX11_owed_1 flX11_19 BS_2 (Nat.le_of_ble_eq_true rfl) (Nat.le_of_ble_eq_true rfl) (Or.inl ⟨_, ct_11_1⟩) RF_2_1 ?_
  refine JT_iload_n (q := 1) dX11_owed_4 rfl rfl ?_
  refine JS_callVI (M' := MX6_hasBody) (d' := 0) (As := [.int a1]) (rest := []) (P := (fun zv9 wm9 => (vX6_hasBody s 5 a1) = zv9 ∧ s = wm9)) dX11_owed_5 cvX11_172 okX6_hasBody rfl (Nat.le_of_ble_eq_true rfl) BS_5 (Nat.le_of_ble_eq_true rfl) (Nat.le_of_ble_eq_true rfl) hci_6 (Nat.le_of_ble_eq_true rfl) (Nat.le_of_ble_eq_true rfl) (pX6_hasBody hp_5 (a1)  ⟨rfl, rfl⟩) (fun zv9 wm9 hq9 => ?_)
  obtain ⟨rfl, rfl⟩ := hq9
  refine JT_if_eq (tgt := 37) dX11_owed_8 (by decide) (fun hc10 => ?_) (fun hc10 => ?_)
  · have h := h.1 hc10
    refine JT_iconst (v := -1) dX11_owed_37 ic_m1 ?_
    exact JS_iret dX11_owed_38 rfl rfl h
  · have h := h.2 hc10
    refine JT_iload_n (q := 2) dX11_owed_11 rfl rfl ?_
    refine JT_if_lt (tgt := 37) dX11_owed_12 (by decide) (fun hc9 => ?_) (fun hc9 => ?_)
    · have h := h.1 hc9
      refine JT_iconst (v := -1) dX11_owed_37 ic_m1 ?_
      exact JS_iret dX11_owed_38 rfl rfl h
    · have h := h.2 hc9
      refine JT_iload_n (q := 2) dX11_owed_15 rfl rfl ?_
      refine JT_iconst (v := 1) dX11_owed_16 ic_1 ?_
      refine JT_aload_n (q := 0) dX11_owed_17 rfl rfl ?_
      refine JS_getR (x := 5) dX11_owed_18 flX11_19 BS_2 (Nat.le_of_ble_eq_true rfl) (Nat.le_of_ble_eq_true rfl) (Or.inl ⟨_, ct_11_1⟩) RF_2_1 ?_
      refine JS_getI dX11_owed_21 flX11_150 BS_5 (Nat.le_of_ble_eq_true rfl) (Nat.le_of_ble_eq_true rfl) (Or.inl ct_6_6) ?_
      refine JT_ishl dX11_owed_24 ?_
      refine JT_icmp_ge (tgt := 37) dX11_owed_25 (by decide) (fun hc8 => ?_) (fun hc8 => ?_)
      · have h := h.1 hc8
        refine JT_iconst (v := -1) dX11_owed_37 ic_m1 ?_
        exact JS_iret dX11_owed_38 rfl rfl h
      · have h := h.2 hc8
        refine JT_iload_n (q := 3) dX11_owed_28 rfl rfl ?_
        refine JT_if_lt (tgt := 37) dX11_owed_29 (by decide) (fun hc7 => ?_) (fun hc7 => ?_)
        · have h := h.1 hc7
          refine JT_iconst (v := -1) dX11_owed_37 ic_m1 ?_
          exact JS_iret dX11_owed_38 rfl rfl h
        · have h := h.2 hc7
          refine JT_iload_n (q := 3) dX11_owed_32 rfl rfl ?_
          refine JT_iconst (v := 1) dX11_owed_33 ic_1 ?_
          refine JT_icmp_le (tgt := 39) dX11_owed_34 (by decide) (fun hc6 => ?_) (fun hc6 => ?_)
          · have h := h.1 hc6
            refine JT_iload_n (q := 3) dX11_owed_39 rfl rfl ?_
            refine JT_if_ne (tgt := 55) dX11_owed_40 (by decide) (fun hc5 => ?_) (fun hc5 => ?_)
            · have h := h.1 hc5
              refine JT_aload_n (q := 0) dX11_owed_55 rfl rfl ?_
              refine JS_getR (x := 31) dX11_owed_56 flX11_41 BS_2 (Nat.le_of_ble_eq_true rfl) (Nat.le_of_ble_eq_true rfl) (Or.inl ⟨_, ct_11_5⟩) RF_2_5 ?_
              refine JT_iload_n (q := 1) dX11_owed_59 rfl rfl ?_
              refine JT_iload_n (q := 2) dX11_owed_60 rfl rfl ?_
              refine JS_callVI (M' := MX4_owedAtMost) (d' := 5) (As := [.int a1, .int a2]) (rest := []) dX11_owed_61 cvX11_411 okX4_owedAtMost rfl (Nat.le_of_ble_eq_true rfl) BS_31 (Nat.le_of_ble_eq_true rfl) (Nat.le_of_ble_eq_true rfl) hci_4 (Nat.le_of_ble_eq_true rfl) (Nat.le_of_ble_eq_true rfl) h (fun x2 s1 h => ?_)
              exact JS_iret dX11_owed_64 rfl rfl h
            · have h := h.2 hc5
              refine JT_aload_n (q := 0) dX11_owed_43 rfl rfl ?_
              refine JS_getR (x := 31) dX11_owed_44 flX11_41 BS_2 (Nat.le_of_ble_eq_true rfl) (Nat.le_of_ble_eq_true rfl) (Or.inl ⟨_, ct_11_5⟩) RF_2_5 ?_
              refine JT_iload_n (q := 1) dX11_owed_47 rfl rfl ?_
              refine JT_iload_n (q := 2) dX11_owed_48 rfl rfl ?_
              refine JS_callVI (M' := MX4_owedSurely) (d' := 4) (As := [.int a1, .int a2]) (rest := []) dX11_owed_49 cvX11_408 okX4_owedSurely rfl (Nat.le_of_ble_eq_true rfl) BS_31 (Nat.le_of_ble_eq_true rfl) (Nat.le_of_ble_eq_true rfl) hci_4 (Nat.le_of_ble_eq_true rfl) (Nat.le_of_ble_eq_true rfl) h (fun x4 s3 h => ?_)
              refine JT_goto (tgt := 64) dX11_owed_52 (by decide) ?_
              exact JS_iret dX11_owed_64 rfl rfl h
          · have h := h.2 hc6
            refine JT_iconst (v := -1) dX11_owed_37 ic_m1 ?_
            exact JS_iret dX11_owed_38 rfl rfl h
set_option maxRecDepth 20000 in
theorem bX12_cut  {s : SM} {Q : Int32 → SM → Prop} (h : KI MX12_bestOf 5 [.ref 248, .int (-1 : Int32)] (pI s 248 0 (0 : Int32)) (fun x2 s1 => ((0 ≤ x2 → KV MX12_keep 0 [.ref 248] s1 (fun s3 => KI MX12_cuts 3 [.ref 248] s3 (fun x6 s5 => Q x6 s5))) ∧ (¬ 0 ≤ x2 → Q (-1 : Int32) s1)))) : KI MX12_cut 6 [.ref 248] s Q := by
  show BI MX12_cut 6 0 [(0, .ref 248)] s Q
  refine JT_aload_n (q := 0) dX12_cut_0 rfl rfl ?_
  refine JT_iconst (v := 0) dX12_cut_1 ic_0 ?_
  refine JS_putI dX12_cut_2 flX12_1 BS_248 (Nat.le_of_ble_eq_true rfl) (Nat.le_of_ble_eq_true rfl) ct_12_0 ?_
  refine JT_aload_n (q := 0) dX12_cut_5 rfl rfl ?_
  refine JT_iconst (v := -1) dX12_cut_6 ic_m1 ?_
  refine JS_callVI (M' := MX12_bestOf) (d' := 5) (As := [.int (-1 : Int32)]) (rest := []) dX12_cut_7 cvX12_365 okX12_bestOf rfl (Nat.le_of_ble_eq_true rfl) BS_248 (Nat.le_of_ble_eq_true rfl) (Nat.le_of_ble_eq_true rfl) hci_12 (Nat.le_of_ble_eq_true rfl) (Nat.le_of_ble_eq_true rfl) h (fun x2 s1 h => ?_)
  refine JT_if_ge (tgt := 15) dX12_cut_10 (by decide) (fun hc7 => ?_) (fun hc7 => ?_)
  · have h := h.1 hc7
    refine JT_aload_n (q := 0) dX12_cut_15 rfl rfl ?_
    refine JS_callVV (M' := MX12_keep) (d' := 0) (As := []) (rest := []) dX12_cut_16 cvX12_329 okX12_keep rfl (Nat.le_of_ble_eq_true rfl) BS_248 (Nat.le_of_ble_eq_true rfl) (Nat.le_of_ble_eq_true rfl) hci_12 (Nat.le_of_ble_eq_true rfl) (Nat.le_of_ble_eq_true rfl) h (fun s3 h => ?_)
    refine JT_aload_n (q := 0) dX12_cut_19 rfl rfl ?_
    refine JS_callVI (M' := MX12_cuts) (d' := 3) (As := []) (rest := []) dX12_cut_20 cvX12_371 okX12_cuts rfl (Nat.le_of_ble_eq_true rfl) BS_248 (Nat.le_of_ble_eq_true rfl) (Nat.le_of_ble_eq_true rfl) hci_12 (Nat.le_of_ble_eq_true rfl) (Nat.le_of_ble_eq_true rfl) h (fun x6 s5 h => ?_)
    exact JS_iret dX12_cut_23 rfl rfl h
  · have h := h.2 hc7
    refine JT_iconst (v := -1) dX12_cut_13 ic_m1 ?_
    exact JS_iret dX12_cut_14 rfl rfl h
set_option maxRecDepth 20000 in
theorem bX12_does (a1 : Int32) {s : SM} {Q : Int32 → SM → Prop} (h : vp_in (a1 + (1 : Int32)) 787 ∧ vp_in (a1 + (2 : Int32)) 787 ∧ vp_in a1 787 ∧ (((gI s 250 (a1).toNatClampNeg) = 0 → vp_in (a1 + (4 : Int32)) 787 ∧ KI MX12_whyWrite 4 [.ref 248, .int (gI s 250 ((a1 + (1 : Int32))).toNatClampNeg), .int (gI s 250 ((a1 + (2 : Int32))).toNatClampNeg), .int (gI s 250 ((a1 + (4 : Int32))).toNatClampNeg)] s (fun x8 s7 => ((¬ x8 = 0 → Q x8 s7) ∧ (x8 = 0 → vp_in (a1 + (3 : Int32)) 787 ∧ vp_in (a1 + (4 : Int32)) 787 ∧ KV MX12_writes 4 [.ref 248, .int (gI s 250 ((a1 + (1 : Int32))).toNatClampNeg), .int (gI s 250 ((a1 + (2 : Int32))).toNatClampNeg), .int (gI s7 250 ((a1 + (3 : Int32))).toNatClampNeg), .int (gI s7 250 ((a1 + (4 : Int32))).toNatClampNeg)] s7 (fun s11 => Q x8 s11))))) ∧ ((gI s 250 (a1).toNatClampNeg) = 1 → KI MX12_whyStrike 3 [.ref 248, .int (gI s 250 ((a1 + (1 : Int32))).toNatClampNeg)] s (fun x15 s14 => ((¬ x15 = 0 → Q x15 s14) ∧ (x15 = 0 → KV MX12_strikes 2 [.ref 248, .int (gI s 250 ((a1 + (1 : Int32))).toNatClampNeg)] s14 (fun s16 => Q x15 s16))))) ∧ ((gI s 250 (a1).toNatClampNeg) = 2 → rX12_whyScar s (gI s 250 ((a1 + (1 : Int32))).toNatClampNeg) (gI s 250 ((a1 + (2 : Int32))).toNatClampNeg) ∧ ((¬ (vX12_whyScar s (gI s 250 ((a1 + (1 : Int32))).toNatClampNeg) (gI s 250 ((a1 + (2 : Int32))).toNatClampNeg)) = 0 → Q (vX12_whyScar s (gI s 250 ((a1 + (1 : Int32))).toNatClampNeg) (gI s 250 ((a1 + (2 : Int32))).toNatClampNeg)) s) ∧ ((vX12_whyScar s (gI s 250 ((a1 + (1 : Int32))).toNatClampNeg) (gI s 250 ((a1 + (2 : Int32))).toNatClampNeg)) = 0 → rX12_of s (gI s 250 ((a1 + (1 : Int32))).toNatClampNeg) (8 : Int32) ∧ rX12_set s (gI s 250 ((a1 + (1 : Int32))).toNatClampNeg) (8 : Int32) ((vX12_of s (gI s 250 ((a1 + (1 : Int32))).toNatClampNeg) (8 : Int32)) ||| ((1 : Int32) <<< ((gI s 250 ((a1 + (2 : Int32))).toNatClampNeg) &&& 31))) ∧ (∀ s19, s19 = (mX12_set s (gI s 250 ((a1 + (1 : Int32))).toNatClampNeg) (8 : Int32) ((vX12_of s (gI s 250 ((a1 + (1 : Int32))).toNatClampNeg) (8 : Int32)) ||| ((1 : Int32) <<< ((gI s 250 ((a1 + (2 : Int32))).toNatClampNeg) &&& 31)))) → Q (vX12_whyScar s (gI s 250 ((a1 + (1 : Int32))).toNatClampNeg) (gI s 250 ((a1 + (2 : Int32))).toNatClampNeg)) s19)))) ∧ ((gI s 250 (a1).toNatClampNeg) = 3 → KI MX12_bestOf 5 [.ref 248, .int (-1 : Int32)] s (fun x25 s24 => ((0 ≤ x25 → KI MX12_cuts 3 [.ref 248] s24 (fun x27 s26 => Q (0 : Int32) s26)) ∧ (¬ 0 ≤ x25 → Q (8 : Int32) s24)))) ∧ ((gI s 250 (a1).toNatClampNeg) = 4 → ((¬ (vX12_whyDies s (gI s 250 ((a1 + (1 : Int32))).toNatClampNeg) (gI s 250 ((a1 + (2 : Int32))).toNatClampNeg)) = 0 → Q (vX12_whyDies s (gI s 250 ((a1 + (1 : Int32))).toNatClampNeg) (gI s 250 ((a1 + (2 : Int32))).toNatClampNeg)) s) ∧ ((vX12_whyDies s (gI s 250 ((a1 + (1 : Int32))).toNatClampNeg) (gI s 250 ((a1 + (2 : Int32))).toNatClampNeg)) = 0 → KI MX12_buries 3 [.ref 248, .int (gI s 250 ((a1 + (1 : Int32))).toNatClampNeg), .int (gI s 250 ((a1 + (2 : Int32))).toNatClampNeg)] s (fun x30 s29 => Q (vX12_whyDies s (gI s 250 ((a1 + (1 : Int32))).toNatClampNeg) (gI s 250 ((a1 + (2 : Int32))).toNatClampNeg)) s29)))) ∧ (((gI s 250 (a1).toNatClampNeg).toInt < 0 ∨ 4 < (gI s 250 (a1).toNatClampNeg).toInt) → ((¬ (gI s 250 ((35 : Int32)).toNatClampNeg) = (99 : Int32) → Q (0 : Int32) (pI s 250 ((35 : Int32)).toNatClampNeg ((gI s 250 ((35 : Int32)).toNatClampNeg) + (1 : Int32)))) ∧ ((gI s 250 ((35 : Int32)).toNatClampNeg) = (99 : Int32) → Q (9 : Int32) s))))) : KI MX12_does 6 [.ref 248, .int a1] s Q := by
  show BI MX12_does 6 0 [(0, .ref 248), (1, .int a1)] s Q
  refine JT_aload_n (q := 0) dX12_does_0 rfl rfl ?_
  refine JS_getR (x := 250) dX12_does_1 flX12_33 BS_248 (Nat.le_of_ble_eq_true rfl) (Nat.le_of_ble_eq_true rfl) (Or.inr ⟨_, ct_12_6⟩) RF_248_6 ?_
  refine JT_iload_n (q := 1) dX12_does_4 rfl rfl ?_
  refine JT_iconst (v := 1) dX12_does_5 ic_1 ?_
  refine JT_iadd dX12_does_6 ?_
  obtain ⟨o1, h⟩ := h
  refine JS_iald dX12_does_7 BS_250 (Nat.le_of_ble_eq_true rfl) (Nat.le_of_ble_eq_true rfl) o1 ?_
  refine JT_istore_n (lv' := [(2, .int (gI s 250 ((a1 + (1 : Int32))).toNatClampNeg)), (0, .ref 248), (1, .int a1)]) dX12_does_8 rfl (Nat.le_of_ble_eq_true rfl) rfl ?_
  refine JT_aload_n (q := 1) dX12_does_9 rfl rfl ?_
  refine JS_getR (x := 250) dX12_does_10 flX12_33 BS_248 (Nat.le_of_ble_eq_true rfl) (Nat.le_of_ble_eq_true rfl) (Or.inr ⟨_, ct_12_6⟩) RF_248_6 ?_
  refine JT_iload_n (q := 2) dX12_does_13 rfl rfl ?_
  refine JT_iconst (v := 2) dX12_does_14 ic_2 ?_
  refine JT_iadd dX12_does_15 ?_
  obtain ⟨o2, h⟩ := h
  refine JS_iald dX12_does_16 BS_250 (Nat.le_of_ble_eq_true rfl) (Nat.le_of_ble_eq_true rfl) o2 ?_
  refine JT_istore_n (lv' := [(3, .int (gI s 250 ((a1 + (2 : Int32))).toNatClampNeg)), (2, .int (gI s 250 ((a1 + (1 : Int32))).toNatClampNeg)), (0, .ref 248), (1, .int a1)]) dX12_does_17 rfl (Nat.le_of_ble_eq_true rfl) rfl ?_
  refine JT_iconst (v := 0) dX12_does_18 ic_0 ?_
  refine JT_istore (lv' := [(4, .int (0 : Int32)), (3, .int (gI s 250 ((a1 + (2 : Int32))).toNatClampNeg)), (2, .int (gI s 250 ((a1 + (1 : Int32))).toNatClampNeg)), (0, .ref 248), (1, .int a1)]) dX12_does_19 (Nat.le_of_ble_eq_true rfl) rfl ?_
  refine JT_aload_n (q := 3) dX12_does_21 rfl rfl ?_
  refine JS_getR (x := 250) dX12_does_22 flX12_33 BS_248 (Nat.le_of_ble_eq_true rfl) (Nat.le_of_ble_eq_true rfl) (Or.inr ⟨_, ct_12_6⟩) RF_248_6 ?_
  refine JT_iload_n (q := 4) dX12_does_25 rfl rfl ?_
  obtain ⟨o3, h⟩ := h
  refine JS_iald dX12_does_26 BS_250 (Nat.le_of_ble_eq_true rfl) (Nat.le_of_ble_eq_true rfl) o3 ?_
  by_cases ho4 : ((gI s 250 (a1).toNatClampNeg)).toInt < 0 ∨ 4 < ((gI s 250 (a1).toNatClampNeg)).toInt
  · have h := h.2.2.2.2.2 ho4
    refine JT_tableOut (tgt := 201) dX12_does_27 ho4 (by decide) ?_
    refine JT_aload_n (q := 3) dX12_does_201 rfl rfl ?_
    refine JS_getR (x := 250) dX12_does_202 flX12_33 BS_248 (Nat.le_of_ble_eq_true rfl) (Nat.le_of_ble_eq_true rfl) (Or.inr ⟨_, ct_12_6⟩) RF_248_6 ?_
    refine JT_bipush (v := 35) dX12_does_205 bp_35 ?_
    refine JS_iald dX12_does_207 BS_250 (Nat.le_of_ble_eq_true rfl) (Nat.le_of_ble_eq_true rfl) (by unfold vp_in; decide) ?_
    refine JT_bipush (v := 99) dX12_does_208 bp_99 ?_
    refine JT_icmp_ne (tgt := 216) dX12_does_210 (by decide) (fun hc5 => ?_) (fun hc5 => ?_)
    · have h := h.1 hc5
      refine JT_aload_n (q := 3) dX12_does_216 rfl rfl ?_
      refine JS_getR (x := 250) dX12_does_217 flX12_33 BS_248 (Nat.le_of_ble_eq_true rfl) (Nat.le_of_ble_eq_true rfl) (Or.inr ⟨_, ct_12_6⟩) RF_248_6 ?_
      refine JT_bipush (v := 35) dX12_does_220 bp_35 ?_
      refine JT_dup2 dX12_does_222 rfl rfl ?_
      refine JS_iald dX12_does_223 BS_250 (Nat.le_of_ble_eq_true rfl) (Nat.le_of_ble_eq_true rfl) (by unfold vp_in; decide) ?_
      refine JT_iconst (v := 1) dX12_does_224 ic_1 ?_
      refine JT_iadd dX12_does_225 ?_
      refine JS_iast dX12_does_226 BS_250 (Nat.le_of_ble_eq_true rfl) (Nat.le_of_ble_eq_true rfl) (by unfold vp_in; decide) ?_
      refine JT_iconst (v := 0) dX12_does_227 ic_0 ?_
      exact JS_iret dX12_does_228 rfl rfl h
    · have h := h.2 hc5
      refine JT_bipush (v := 9) dX12_does_213 bp_9 ?_
      exact JS_iret dX12_does_215 rfl rfl h
  · have hk33 : ((gI s 250 (a1).toNatClampNeg)).toInt = 0 ∨ ((gI s 250 (a1).toNatClampNeg)).toInt = 1 ∨ ((gI s 250 (a1).toNatClampNeg)).toInt = 2 ∨ ((gI s 250 (a1).toNatClampNeg)).toInt = 3 ∨ ((gI s 250 (a1).toNatClampNeg)).toInt = 4 := by omega
    rcases hk33 with hk33 | hk33 | hk33 | hk33 | hk33
    · have h := h.1 (i32_of_toInt hk33)
      refine JT_tableIn (tgt := 60) dX12_does_27 (by omega) (by omega) (by rw [hk33]; rfl) (by decide) ?_
      refine JT_aload_n (q := 3) dX12_does_60 rfl rfl ?_
      refine JT_iload_n (q := 2) dX12_does_61 rfl rfl ?_
      refine JT_iload_n (q := 1) dX12_does_62 rfl rfl ?_
      refine JT_aload_n (q := 3) dX12_does_63 rfl rfl ?_
      refine JS_getR (x := 250) dX12_does_64 flX12_33 BS_248 (Nat.le_of_ble_eq_true rfl) (Nat.le_of_ble_eq_true rfl) (Or.inr ⟨_, ct_12_6⟩) RF_248_6 ?_
      refine JT_iload_n (q := 4) dX12_does_67 rfl rfl ?_
      refine JT_iconst (v := 4) dX12_does_68 ic_4 ?_
      refine JT_iadd dX12_does_69 ?_
      obtain ⟨o6, h⟩ := h
      refine JS_iald dX12_does_70 BS_250 (Nat.le_of_ble_eq_true rfl) (Nat.le_of_ble_eq_true rfl) o6 ?_
      refine JS_callVI (M' := MX12_whyWrite) (d' := 4) (As := [.int (gI s 250 ((a1 + (1 : Int32))).toNatClampNeg), .int (gI s 250 ((a1 + (2 : Int32))).toNatClampNeg), .int (gI s 250 ((a1 + (4 : Int32))).toNatClampNeg)]) (rest := []) dX12_does_71 cvX12_326 okX12_whyWrite rfl (Nat.le_of_ble_eq_true rfl) BS_248 (Nat.le_of_ble_eq_true rfl) (Nat.le_of_ble_eq_true rfl) hci_12 (Nat.le_of_ble_eq_true rfl) (Nat.le_of_ble_eq_true rfl) h (fun x8 s7 h => ?_)
      refine JT_istore (lv' := [(4, .int x8), (3, .int (gI s 250 ((a1 + (2 : Int32))).toNatClampNeg)), (2, .int (gI s 250 ((a1 + (1 : Int32))).toNatClampNeg)), (0, .ref 248), (1, .int a1)]) dX12_does_74 (Nat.le_of_ble_eq_true rfl) rfl ?_
      refine JT_iload (q := 0) dX12_does_76 rfl ?_
      refine JT_if_ne (tgt := 103) dX12_does_78 (by decide) (fun hc13 => ?_) (fun hc13 => ?_)
      · have h := h.1 hc13
        refine JT_iload (q := 0) dX12_does_103 rfl ?_
        exact JS_iret dX12_does_105 rfl rfl h
      · have h := h.2 hc13
        refine JT_aload_n (q := 3) dX12_does_81 rfl rfl ?_
        refine JT_iload_n (q := 2) dX12_does_82 rfl rfl ?_
        refine JT_iload_n (q := 1) dX12_does_83 rfl rfl ?_
        refine JT_aload_n (q := 3) dX12_does_84 rfl rfl ?_
        refine JS_getR (x := 250) dX12_does_85 flX12_33 BS_248 (Nat.le_of_ble_eq_true rfl) (Nat.le_of_ble_eq_true rfl) (Or.inr ⟨_, ct_12_6⟩) RF_248_6 ?_
        refine JT_iload_n (q := 4) dX12_does_88 rfl rfl ?_
        refine JT_iconst (v := 3) dX12_does_89 ic_3 ?_
        refine JT_iadd dX12_does_90 ?_
        obtain ⟨o9, h⟩ := h
        refine JS_iald dX12_does_91 BS_250 (Nat.le_of_ble_eq_true rfl) (Nat.le_of_ble_eq_true rfl) o9 ?_
        refine JT_aload_n (q := 3) dX12_does_92 rfl rfl ?_
        refine JS_getR (x := 250) dX12_does_93 flX12_33 BS_248 (Nat.le_of_ble_eq_true rfl) (Nat.le_of_ble_eq_true rfl) (Or.inr ⟨_, ct_12_6⟩) RF_248_6 ?_
        refine JT_iload_n (q := 4) dX12_does_96 rfl rfl ?_
        refine JT_iconst (v := 4) dX12_does_97 ic_4 ?_
        refine JT_iadd dX12_does_98 ?_
        obtain ⟨o10, h⟩ := h
        refine JS_iald dX12_does_99 BS_250 (Nat.le_of_ble_eq_true rfl) (Nat.le_of_ble_eq_true rfl) o10 ?_
        refine JS_callVV (M' := MX12_writes) (d' := 4) (As := [.int (gI s 250 ((a1 + (1 : Int32))).toNatClampNeg), .int (gI s 250 ((a1 + (2 : Int32))).toNatClampNeg), .int (gI s7 250 ((a1 + (3 : Int32))).toNatClampNeg), .int (gI s7 250 ((a1 + (4 : Int32))).toNatClampNeg)]) (rest := []) dX12_does_100 cvX12_332 okX12_writes rfl (Nat.le_of_ble_eq_true rfl) BS_248 (Nat.le_of_ble_eq_true rfl) (Nat.le_of_ble_eq_true rfl) hci_12 (Nat.le_of_ble_eq_true rfl) (Nat.le_of_ble_eq_true rfl) h (fun s11 h => ?_)
        refine JT_iload (q := 0) dX12_does_103 rfl ?_
        exact JS_iret dX12_does_105 rfl rfl h
    · have h := h.2.1 (i32_of_toInt hk33)
      refine JT_tableIn (tgt := 106) dX12_does_27 (by omega) (by omega) (by rw [hk33]; rfl) (by decide) ?_
      refine JT_aload_n (q := 3) dX12_does_106 rfl rfl ?_
      refine JT_iload_n (q := 2) dX12_does_107 rfl rfl ?_
      refine JS_callVI (M' := MX12_whyStrike) (d' := 3) (As := [.int (gI s 250 ((a1 + (1 : Int32))).toNatClampNeg)]) (rest := []) dX12_does_108 cvX12_336 okX12_whyStrike rfl (Nat.le_of_ble_eq_true rfl) BS_248 (Nat.le_of_ble_eq_true rfl) (Nat.le_of_ble_eq_true rfl) hci_12 (Nat.le_of_ble_eq_true rfl) (Nat.le_of_ble_eq_true rfl) h (fun x15 s14 h => ?_)
      refine JT_istore (lv' := [(4, .int x15), (3, .int (gI s 250 ((a1 + (2 : Int32))).toNatClampNeg)), (2, .int (gI s 250 ((a1 + (1 : Int32))).toNatClampNeg)), (0, .ref 248), (1, .int a1)]) dX12_does_111 (Nat.le_of_ble_eq_true rfl) rfl ?_
      refine JT_iload (q := 0) dX12_does_113 rfl ?_
      refine JT_if_ne (tgt := 123) dX12_does_115 (by decide) (fun hc18 => ?_) (fun hc18 => ?_)
      · have h := h.1 hc18
        refine JT_iload (q := 0) dX12_does_123 rfl ?_
        exact JS_iret dX12_does_125 rfl rfl h
      · have h := h.2 hc18
        refine JT_aload_n (q := 3) dX12_does_118 rfl rfl ?_
        refine JT_iload_n (q := 2) dX12_does_119 rfl rfl ?_
        refine JS_callVV (M' := MX12_strikes) (d' := 2) (As := [.int (gI s 250 ((a1 + (1 : Int32))).toNatClampNeg)]) (rest := []) dX12_does_120 cvX12_339 okX12_strikes rfl (Nat.le_of_ble_eq_true rfl) BS_248 (Nat.le_of_ble_eq_true rfl) (Nat.le_of_ble_eq_true rfl) hci_12 (Nat.le_of_ble_eq_true rfl) (Nat.le_of_ble_eq_true rfl) h (fun s16 h => ?_)
        refine JT_iload (q := 0) dX12_does_123 rfl ?_
        exact JS_iret dX12_does_125 rfl rfl h
    · have h := h.2.2.1 (i32_of_toInt hk33)
      refine JT_tableIn (tgt := 126) dX12_does_27 (by omega) (by omega) (by rw [hk33]; rfl) (by decide) ?_
      refine JT_aload_n (q := 3) dX12_does_126 rfl rfl ?_
      refine JT_iload_n (q := 2) dX12_does_127 rfl rfl ?_
      refine JT_iload_n (q := 1) dX12_does_128 rfl rfl ?_
      obtain ⟨o23, h⟩ := h
      refine JS_callVI (M' := MX12_whyScar) (d' := 3) (As := [.int (gI s 250 ((a1 + (1 : Int32))).toNatClampNeg), .int (gI s 250 ((a1 + (2 : Int32))).toNatClampNeg)]) (rest := []) (P := (fun zv9 wm9 => (vX12_whyScar s (gI s 250 ((a1 + (1 : Int32))).toNatClampNeg) (gI s 250 ((a1 + (2 : Int32))).toNatClampNeg)) = zv9 ∧ s = wm9)) dX12_does_129 cvX12_342 okX12_whyScar rfl (Nat.le_of_ble_eq_true rfl) BS_248 (Nat.le_of_ble_eq_true rfl) (Nat.le_of_ble_eq_true rfl) hci_12 (Nat.le_of_ble_eq_true rfl) (Nat.le_of_ble_eq_true rfl) (pX12_whyScar  ((gI s 250 ((a1 + (1 : Int32))).toNatClampNeg)) ((gI s 250 ((a1 + (2 : Int32))).toNatClampNeg)) o23 ⟨rfl, rfl⟩) (fun zv9 wm9 hq9 => ?_)
      obtain ⟨rfl, rfl⟩ := hq9
      refine JT_istore (lv' := [(4, .int (vX12_whyScar s (gI s 250 ((a1 + (1 : Int32))).toNatClampNeg) (gI s 250 ((a1 + (2 : Int32))).toNatClampNeg))), (3, .int (gI s 250 ((a1 + (2 : Int32))).toNatClampNeg)), (2, .int (gI s 250 ((a1 + (1 : Int32))).toNatClampNeg)), (0, .ref 248), (1, .int a1)]) dX12_does_132 (Nat.le_of_ble_eq_true rfl) rfl ?_
      refine JT_iload (q := 0) dX12_does_134 rfl ?_
      refine JT_if_ne (tgt := 157) dX12_does_136 (by decide) (fun hc22 => ?_) (fun hc22 => ?_)
      · have h := h.1 hc22
        refine JT_iload (q := 0) dX12_does_157 rfl ?_
        exact JS_iret dX12_does_159 rfl rfl h
      · have h := h.2 hc22
        refine JT_aload_n (q := 3) dX12_does_139 rfl rfl ?_
        refine JT_iload_n (q := 2) dX12_does_140 rfl rfl ?_
        refine JT_bipush (v := 8) dX12_does_141 bp_8 ?_
        refine JT_aload_n (q := 3) dX12_does_143 rfl rfl ?_
        refine JT_iload_n (q := 2) dX12_does_144 rfl rfl ?_
        refine JT_bipush (v := 8) dX12_does_145 bp_8 ?_
        obtain ⟨o21, h⟩ := h
        refine JS_callVI (M' := MX12_of) (d' := 0) (As := [.int (gI s 250 ((a1 + (1 : Int32))).toNatClampNeg), .int (8 : Int32)]) (rest := [.int (8 : Int32), .int (gI s 250 ((a1 + (1 : Int32))).toNatClampNeg), .ref 248]) (P := (fun zv9 wm9 => (vX12_of s (gI s 250 ((a1 + (1 : Int32))).toNatClampNeg) (8 : Int32)) = zv9 ∧ s = wm9)) dX12_does_147 cvX12_265 okX12_of rfl (Nat.le_of_ble_eq_true rfl) BS_248 (Nat.le_of_ble_eq_true rfl) (Nat.le_of_ble_eq_true rfl) hci_12 (Nat.le_of_ble_eq_true rfl) (Nat.le_of_ble_eq_true rfl) (pX12_of  ((gI s 250 ((a1 + (1 : Int32))).toNatClampNeg)) ((8 : Int32)) o21 ⟨rfl, rfl⟩) (fun zv9 wm9 hq9 => ?_)
        obtain ⟨rfl, rfl⟩ := hq9
        refine JT_iconst (v := 1) dX12_does_150 ic_1 ?_
        refine JT_iload_n (q := 1) dX12_does_151 rfl rfl ?_
        refine JT_ishl dX12_does_152 ?_
        refine JT_ior dX12_does_153 ?_
        obtain ⟨o20, h⟩ := h
        refine JS_callVV (M' := MX12_set) (d' := 0) (As := [.int (gI s 250 ((a1 + (1 : Int32))).toNatClampNeg), .int (8 : Int32), .int ((vX12_of s (gI s 250 ((a1 + (1 : Int32))).toNatClampNeg) (8 : Int32)) ||| ((1 : Int32) <<< ((gI s 250 ((a1 + (2 : Int32))).toNatClampNeg) &&& 31)))]) (rest := []) (P := (fun wm9 => (mX12_set s (gI s 250 ((a1 + (1 : Int32))).toNatClampNeg) (8 : Int32) ((vX12_of s (gI s 250 ((a1 + (1 : Int32))).toNatClampNeg) (8 : Int32)) ||| ((1 : Int32) <<< ((gI s 250 ((a1 + (2 : Int32))).toNatClampNeg) &&& 31)))) = wm9)) dX12_does_154 cvX12_322 okX12_set rfl (Nat.le_of_ble_eq_true rfl) BS_248 (Nat.le_of_ble_eq_true rfl) (Nat.le_of_ble_eq_true rfl) hci_12 (Nat.le_of_ble_eq_true rfl) (Nat.le_of_ble_eq_true rfl) (pX12_set  ((gI s 250 ((a1 + (1 : Int32))).toNatClampNeg)) ((8 : Int32)) (((vX12_of s (gI s 250 ((a1 + (1 : Int32))).toNatClampNeg) (8 : Int32)) ||| ((1 : Int32) <<< ((gI s 250 ((a1 + (2 : Int32))).toNatClampNeg) &&& 31)))) o20 rfl) (fun wm9 hq9 => ?_)
        subst hq9
        obtain ⟨s19, hs19⟩ : ∃ z, z = (mX12_set s (gI s 250 ((a1 + (1 : Int32))).toNatClampNeg) (8 : Int32) ((vX12_of s (gI s 250 ((a1 + (1 : Int32))).toNatClampNeg) (8 : Int32)) ||| ((1 : Int32) <<< ((gI s 250 ((a1 + (2 : Int32))).toNatClampNeg) &&& 31)))) := ⟨_, rfl⟩
        replace h := h s19 hs19
        rw [← hs19]
        refine JT_iload (q := 0) dX12_does_157 rfl ?_
        exact JS_iret dX12_does_159 rfl rfl h
    · have h := h.2.2.2.1 (i32_of_toInt hk33)
      refine JT_tableIn (tgt := 160) dX12_does_27 (by omega) (by omega) (by rw [hk33]; rfl) (by decide) ?_
      refine JT_aload_n (q := 3) dX12_does_160 rfl rfl ?_
      refine JT_iconst (v := -1) dX12_does_161 ic_m1 ?_
      refine JS_callVI (M' := MX12_bestOf) (d' := 5) (As := [.int (-1 : Int32)]) (rest := []) dX12_does_162 cvX12_365 okX12_bestOf rfl (Nat.le_of_ble_eq_true rfl) BS_248 (Nat.le_of_ble_eq_true rfl) (Nat.le_of_ble_eq_true rfl) hci_12 (Nat.le_of_ble_eq_true rfl) (Nat.le_of_ble_eq_true rfl) h (fun x25 s24 h => ?_)
      refine JT_if_ge (tgt := 171) dX12_does_165 (by decide) (fun hc28 => ?_) (fun hc28 => ?_)
      · have h := h.1 hc28
        refine JT_aload_n (q := 3) dX12_does_171 rfl rfl ?_
        refine JS_callVI (M' := MX12_cuts) (d' := 3) (As := []) (rest := []) dX12_does_172 cvX12_371 okX12_cuts rfl (Nat.le_of_ble_eq_true rfl) BS_248 (Nat.le_of_ble_eq_true rfl) (Nat.le_of_ble_eq_true rfl) hci_12 (Nat.le_of_ble_eq_true rfl) (Nat.le_of_ble_eq_true rfl) h (fun x27 s26 h => ?_)
        refine JT_pop dX12_does_175 rfl ?_
        refine JT_iconst (v := 0) dX12_does_176 ic_0 ?_
        exact JS_iret dX12_does_177 rfl rfl h
      · have h := h.2 hc28
        refine JT_bipush (v := 8) dX12_does_168 bp_8 ?_
        exact JS_iret dX12_does_170 rfl rfl h
    · have h := h.2.2.2.2.1 (i32_of_toInt hk33)
      refine JT_tableIn (tgt := 178) dX12_does_27 (by omega) (by omega) (by rw [hk33]; rfl) (by decide) ?_
      refine JT_aload_n (q := 3) dX12_does_178 rfl rfl ?_
      refine JT_iload_n (q := 2) dX12_does_179 rfl rfl ?_
      refine JT_iload_n (q := 1) dX12_does_180 rfl rfl ?_
      refine JS_callVI (M' := MX12_whyDies) (d' := 2) (As := [.int (gI s 250 ((a1 + (1 : Int32))).toNatClampNeg), .int (gI s 250 ((a1 + (2 : Int32))).toNatClampNeg)]) (rest := []) (P := (fun zv9 wm9 => (vX12_whyDies s (gI s 250 ((a1 + (1 : Int32))).toNatClampNeg) (gI s 250 ((a1 + (2 : Int32))).toNatClampNeg)) = zv9 ∧ s = wm9)) dX12_does_181 cvX12_374 okX12_whyDies rfl (Nat.le_of_ble_eq_true rfl) BS_248 (Nat.le_of_ble_eq_true rfl) (Nat.le_of_ble_eq_true rfl) hci_12 (Nat.le_of_ble_eq_true rfl) (Nat.le_of_ble_eq_true rfl) (pX12_whyDies  ((gI s 250 ((a1 + (1 : Int32))).toNatClampNeg)) ((gI s 250 ((a1 + (2 : Int32))).toNatClampNeg))  ⟨rfl, rfl⟩) (fun zv9 wm9 hq9 => ?_)
      obtain ⟨rfl, rfl⟩ := hq9
      refine JT_istore (lv' := [(4, .int (vX12_whyDies s (gI s 250 ((a1 + (1 : Int32))).toNatClampNeg) (gI s 250 ((a1 + (2 : Int32))).toNatClampNeg))), (3, .int (gI s 250 ((a1 + (2 : Int32))).toNatClampNeg)), (2, .int (gI s 250 ((a1 + (1 : Int32))).toNatClampNeg)), (0, .ref 248), (1, .int a1)]) dX12_does_184 (Nat.le_of_ble_eq_true rfl) rfl ?_
      refine JT_iload (q := 0) dX12_does_186 rfl ?_
      refine JT_if_ne (tgt := 198) dX12_does_188 (by decide) (fun hc31 => ?_) (fun hc31 => ?_)
      · have h := h.1 hc31
        refine JT_iload (q := 0) dX12_does_198 rfl ?_
        exact JS_iret dX12_does_200 rfl rfl h
      · have h := h.2 hc31
        refine JT_aload_n (q := 3) dX12_does_191 rfl rfl ?_
        refine JT_iload_n (q := 2) dX12_does_192 rfl rfl ?_
        refine JT_iload_n (q := 1) dX12_does_193 rfl rfl ?_
        refine JS_callVI (M' := MX12_buries) (d' := 3) (As := [.int (gI s 250 ((a1 + (1 : Int32))).toNatClampNeg), .int (gI s 250 ((a1 + (2 : Int32))).toNatClampNeg)]) (rest := []) dX12_does_194 cvX12_377 okX12_buries rfl (Nat.le_of_ble_eq_true rfl) BS_248 (Nat.le_of_ble_eq_true rfl) (Nat.le_of_ble_eq_true rfl) hci_12 (Nat.le_of_ble_eq_true rfl) (Nat.le_of_ble_eq_true rfl) h (fun x30 s29 h => ?_)
        refine JT_pop dX12_does_197 rfl ?_
        refine JT_iload (q := 0) dX12_does_198 rfl ?_
        exact JS_iret dX12_does_200 rfl rfl h
