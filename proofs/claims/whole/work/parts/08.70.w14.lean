set_option maxRecDepth 1000000 in
theorem bX5_search_48 {L1 P1 : Nat} (hL1 : (L1, P1) ∈ LX) (a2 : Int32) (a3 : Int32) {s : SM} {Q : Int32 → SM → Prop} (h : rX5_place s (0 : Int32) (0 : Int32) ∧ Q (gI (mX5_place s (0 : Int32) (0 : Int32)) 225 9) (mX5_place s (0 : Int32) (0 : Int32))) : BI MX5_search 205 48 [(0, .ref 225), (1, .ref L1), (2, .int a2), (3, .int a3)] s Q := by
  refine JT_aload_n (q := 0) dX5_search_48 rfl rfl ?_
  refine JT_iconst (v := 0) dX5_search_49 ic_0 ?_
  refine JT_iconst (v := 0) dX5_search_50 ic_0 ?_
  obtain ⟨o1, h⟩ := h
  refine JS_callVV (M' := MX5_place) (d' := 204) (As := [.int (0 : Int32), .int (0 : Int32)]) (rest := []) (P := (fun wm9 => (mX5_place s (0 : Int32) (0 : Int32)) = wm9)) dX5_search_51 cvX5_83 okX5_place rfl (Nat.le_of_ble_eq_true rfl) BS_225 (Nat.le_of_ble_eq_true rfl) (Nat.le_of_ble_eq_true rfl) hci_5 (Nat.le_of_ble_eq_true rfl) (Nat.le_of_ble_eq_true rfl) (pX5_place  ((0 : Int32)) ((0 : Int32)) o1 rfl) (fun wm9 hq9 => ?_)
  subst hq9
  refine JT_aload_n (q := 0) dX5_search_54 rfl rfl ?_
  refine JS_getI dX5_search_55 flX5_75 BS_225 (Nat.le_of_ble_eq_true rfl) (Nat.le_of_ble_eq_true rfl) (Or.inl ct_5_9) ?_
  exact JS_iret dX5_search_58 rfl rfl h
set_option maxRecDepth 1000000 in
theorem bX5_search {L1 P1 : Nat} (hL1 : (L1, P1) ∈ LX) (a2 : Int32) (a3 : Int32) {s : SM} {Q : Int32 → SM → Prop} (h : gD (pI (pD s 1 L1) 225 9 (-1 : Int32)) 1 = some (gDx (pI (pD s 1 L1) 225 9 (-1 : Int32)) 1) ∧ ((gDx (pI (pD s 1 L1) 225 9 (-1 : Int32)) 1), rfx (gDx (pI (pD s 1 L1) 225 9 (-1 : Int32)) 1) 8) ∈ LX ∧ (∀ s3, s3 = (cI (pI (pD s 1 L1) 225 9 (-1 : Int32)) 232 (va_cpy (gI (pI (pD s 1 L1) 225 9 (-1 : Int32)) ((gDx (pI (pD s 1 L1) 225 9 (-1 : Int32)) 1) + 7)) (gI (pI (pD s 1 L1) 225 9 (-1 : Int32)) 232) ((0 : Int32)).toNatClampNeg ((0 : Int32)).toNatClampNeg ((9 : Int32)).toNatClampNeg)) → ((a2 < 0 → BI MX5_search 205 48 [(0, .ref 225), (1, .ref L1), (2, .int a2), (3, .int a3)] s3 Q) ∧ (¬ a2 < 0 → (((9 : Int32) ≤ a2 → BI MX5_search 205 48 [(0, .ref 225), (1, .ref L1), (2, .int a2), (3, .int a3)] s3 Q) ∧ (¬ (9 : Int32) ≤ a2 → vp_in a2 9 ∧ vp_in a2 9 ∧ BI MX5_search 205 48 [(0, .ref 225), (1, .ref L1), (2, .int a2), (3, .int a3)] (pI s3 232 (a2).toNatClampNeg ((gI s3 232 (a2).toNatClampNeg) + a3)) Q)))))) : KI MX5_search 205 [.ref 225, .ref L1, .int a2, .int a3] s Q := by
  show BI MX5_search 205 0 [(0, .ref 225), (1, .ref L1), (2, .int a2), (3, .int a3)] s Q
  refine JT_aload_n (q := 0) dX5_search_0 rfl rfl ?_
  refine JT_aload_n (q := 1) dX5_search_1 rfl rfl ?_
  refine JS_putD (kk := 1) dX5_search_2 flX5_71 BS_225 (Nat.le_of_ble_eq_true rfl) (Nat.le_of_ble_eq_true rfl) (Or.inl ⟨_, ct_5_10⟩) rfl ?_
  refine JT_aload_n (q := 0) dX5_search_5 rfl rfl ?_
  refine JT_iconst (v := -1) dX5_search_6 ic_m1 ?_
  refine JS_putI dX5_search_7 flX5_75 BS_225 (Nat.le_of_ble_eq_true rfl) (Nat.le_of_ble_eq_true rfl) ct_5_9 ?_
  refine JT_aload_n (q := 0) dX5_search_10 rfl rfl ?_
  obtain ⟨hr1, hL2, h⟩ := h
  refine JS_getR (x := (gDx (pI (pD s 1 L1) 225 9 (-1 : Int32)) 1)) dX5_search_11 flX5_71 BS_225 (Nat.le_of_ble_eq_true rfl) (Nat.le_of_ble_eq_true rfl) (Or.inl ⟨_, ct_5_10⟩) (RF_225_10.trans hr1) ?_
  refine JS_getR (x := ((gDx (pI (pD s 1 L1) 225 9 (-1 : Int32)) 1) + 7)) dX5_search_14 flX5_78 (lxB hL2) (lx2 hL2) (lxN hL2) (Or.inr ⟨_, ct_4_6⟩) (lxR6 hL2) ?_
  refine JT_iconst (v := 0) dX5_search_17 ic_0 ?_
  refine JT_aload_n (q := 0) dX5_search_18 rfl rfl ?_
  refine JS_getR (x := 232) dX5_search_19 flX5_30 BS_225 (Nat.le_of_ble_eq_true rfl) (Nat.le_of_ble_eq_true rfl) (Or.inr ⟨_, ct_5_8⟩) RF_225_8 ?_
  refine JT_iconst (v := 0) dX5_search_22 ic_0 ?_
  refine JT_bipush (v := 9) dX5_search_23 bp_9 ?_
  refine JS_copyI (d2 := 204) (na := 9) (nb := 9) dX5_search_25 mlX5_65 BS_232 (Nat.le_of_ble_eq_true rfl) (Nat.le_of_ble_eq_true rfl) (lxB7 hL2) (lx2k hL2 _) (lxNk hL2 (Nat.le_of_ble_eq_true rfl)) (by decide) (by decide) (by decide) (by decide) (by decide) (Nat.le_of_ble_eq_true rfl) rfl ?_
  obtain ⟨s3, hs3⟩ : ∃ z, z = (cI (pI (pD s 1 L1) 225 9 (-1 : Int32)) 232 (va_cpy (gI (pI (pD s 1 L1) 225 9 (-1 : Int32)) ((gDx (pI (pD s 1 L1) 225 9 (-1 : Int32)) 1) + 7)) (gI (pI (pD s 1 L1) 225 9 (-1 : Int32)) 232) ((0 : Int32)).toNatClampNeg ((0 : Int32)).toNatClampNeg ((9 : Int32)).toNatClampNeg)) := ⟨_, rfl⟩
  replace h := h s3 hs3
  rw [← hs3]
  refine JT_iload_n (q := 2) dX5_search_28 rfl rfl ?_
  refine JT_if_lt (tgt := 48) dX5_search_29 (by decide) (fun hc7 => ?_) (fun hc7 => ?_)
  · have h := h.1 hc7
    exact JT_sub [0, 1, 2, 3] rfl h
  · have h := h.2 hc7
    refine JT_iload_n (q := 2) dX5_search_32 rfl rfl ?_
    refine JT_bipush (v := 9) dX5_search_33 bp_9 ?_
    refine JT_icmp_ge (tgt := 48) dX5_search_35 (by decide) (fun hc6 => ?_) (fun hc6 => ?_)
    · have h := h.1 hc6
      exact JT_sub [0, 1, 2, 3] rfl h
    · have h := h.2 hc6
      refine JT_aload_n (q := 0) dX5_search_38 rfl rfl ?_
      refine JS_getR (x := 232) dX5_search_39 flX5_30 BS_225 (Nat.le_of_ble_eq_true rfl) (Nat.le_of_ble_eq_true rfl) (Or.inr ⟨_, ct_5_8⟩) RF_225_8 ?_
      refine JT_iload_n (q := 2) dX5_search_42 rfl rfl ?_
      refine JT_dup2 dX5_search_43 rfl rfl ?_
      obtain ⟨o4, h⟩ := h
      refine JS_iald dX5_search_44 BS_232 (Nat.le_of_ble_eq_true rfl) (Nat.le_of_ble_eq_true rfl) o4 ?_
      refine JT_iload_n (q := 3) dX5_search_45 rfl rfl ?_
      refine JT_iadd dX5_search_46 ?_
      obtain ⟨o5, h⟩ := h
      refine JS_iast dX5_search_47 BS_232 (Nat.le_of_ble_eq_true rfl) (Nat.le_of_ble_eq_true rfl) o5 ?_
      exact JT_sub [0, 1, 2, 3] rfl h
set_option maxRecDepth 1000000 in
theorem gX5_search {L1 P1 : Nat} (hL1 : (L1, P1) ∈ LX) : ∀ n : Nat, (∀ (a2 : Int32) (a3 : Int32) (s : SM) (Q : Int32 → SM → Prop), ((qX5_search n) s L1 P1 a2 a3) → Q ((lX5_search n) s L1 P1 a2 a3).1 ((lX5_search n) s L1 P1 a2 a3).2 → BI MX5_search 205 48 [(0, .ref 225), (1, .ref L1), (2, .int a2), (3, .int a3)] s Q) := by
  intro n
  induction n with
  | zero => exact fun _ _ _ _ hq _ => absurd hq id
  | succ n ih =>
    intro a2 a3 s Q hr h
    replace hr : uX5_search_48 (qX5_search n) s L1 P1 a2 a3 := hr
    replace h : Q (tX5_search_48 (lX5_search n) s L1 P1 a2 a3).1 (tX5_search_48 (lX5_search n) s L1 P1 a2 a3).2 := h
    unfold uX5_search_48 at hr
    unfold tX5_search_48 at h
    refine bX5_search_48 hL1 a2 a3 ?_
    refine ⟨hr, ?_⟩
    first | exact h | contradiction
set_option maxRecDepth 1000000 in
theorem pX5_search {L1 P1 : Nat} (hL1 : (L1, P1) ∈ LX) (a2 : Int32) (a3 : Int32) {s : SM} {Q : Int32 → SM → Prop} (hr : rX5_search s L1 P1 a2 a3) (h : Q (vX5_search s L1 P1 a2 a3) (mX5_search s L1 P1 a2 a3)) : KI MX5_search 205 [.ref 225, .ref L1, .int a2, .int a3] s Q := by
  replace h : Q (fX5_search s L1 P1 a2 a3).1 (fX5_search s L1 P1 a2 a3).2 := h
  unfold rX5_search at hr
  unfold fX5_search at h
  refine bX5_search hL1 a2 a3 ?_
  refine ⟨hr.1, ?_⟩
  replace hr := hr.2
  refine ⟨hr.1, ?_⟩
  replace hr := hr.2
  intro s3 e9
  replace hr := hr s3 e9
  try rw [← e9] at h
  try dsimp only at h
  refine ⟨fun c => ?_, fun c => ?_⟩
  · replace hr := hr.1 c
    replace h := q3p c h
    first | exact (gX5_search hL1 FU) a2 a3 _ Q hr h | contradiction
  · replace hr := hr.2 c
    replace h := q3n c h
    refine ⟨fun c => ?_, fun c => ?_⟩
    · replace hr := hr.1 c
      replace h := q3p c h
      first | exact (gX5_search hL1 FU) a2 a3 _ Q hr h | contradiction
    · replace hr := hr.2 c
      replace h := q3n c h
      refine ⟨hr.1, ?_⟩
      replace hr := hr.2
      refine ⟨hr.1, ?_⟩
      replace hr := hr.2
      first | exact (gX5_search hL1 FU) a2 a3 _ Q hr h | contradiction
set_option maxRecDepth 1000000 in
theorem bX11_fits_33 (a1 : Int32) {s : SM} {Q : Int32 → SM → Prop} (h : (((0 : Int32) = 0 → Q (-1 : Int32) (pI s 3 1 (0 : Int32))) ∧ (¬ (0 : Int32) = 0 → rX1_search (pI s 3 1 (0 : Int32)) a1 ∧ Q (vX1_search (pI s 3 1 (0 : Int32)) a1) (mX1_search (pI s 3 1 (0 : Int32)) a1)))) : BI MX11_fits 406 33 [(0, .ref 2), (1, .int a1)] s Q := by
  refine JT_iconst (v := 0) dX11_fits_33 ic_0 ?_
  refine JT_istore_n (lv' := [(2, .int (0 : Int32)), (0, .ref 2), (1, .int a1)]) dX11_fits_34 rfl (Nat.le_of_ble_eq_true rfl) rfl ?_
  refine JT_aload_n (q := 1) dX11_fits_35 rfl rfl ?_
  refine JS_getR (x := 3) dX11_fits_36 flX11_10 BS_2 (Nat.le_of_ble_eq_true rfl) (Nat.le_of_ble_eq_true rfl) (Or.inl ⟨_, ct_11_0⟩) RF_2_0 ?_
  refine JT_iconst (v := 0) dX11_fits_39 ic_0 ?_
  refine JS_putI dX11_fits_40 flX11_104 BS_3 (Nat.le_of_ble_eq_true rfl) (Nat.le_of_ble_eq_true rfl) ct_9_1 ?_
  refine JT_iload_n (q := 0) dX11_fits_43 rfl rfl ?_
  refine JT_if_eq (tgt := 58) dX11_fits_44 (by decide) (fun hc2 => ?_) (fun hc2 => ?_)
  · have h := h.1 hc2
    refine JT_iconst (v := -1) dX11_fits_58 ic_m1 ?_
    exact JS_iret dX11_fits_59 rfl rfl h
  · have h := h.2 hc2
    refine JT_aload_n (q := 1) dX11_fits_47 rfl rfl ?_
    refine JS_getR (x := 233) dX11_fits_48 flX11_79 BS_2 (Nat.le_of_ble_eq_true rfl) (Nat.le_of_ble_eq_true rfl) (Or.inl ⟨_, ct_11_11⟩) RF_2_11 ?_
    refine JT_iload_n (q := 2) dX11_fits_51 rfl rfl ?_
    obtain ⟨o1, h⟩ := h
    refine JS_callVI (M' := MX1_search) (d' := 405) (As := [.int a1]) (rest := []) (P := (fun zv9 wm9 => (vX1_search (pI s 3 1 (0 : Int32)) a1) = zv9 ∧ (mX1_search (pI s 3 1 (0 : Int32)) a1) = wm9)) dX11_fits_52 cvX11_404 okX1_search rfl (Nat.le_of_ble_eq_true rfl) BS_233 (Nat.le_of_ble_eq_true rfl) (Nat.le_of_ble_eq_true rfl) hci_1 (Nat.le_of_ble_eq_true rfl) (Nat.le_of_ble_eq_true rfl) (pX1_search  (a1) o1 ⟨rfl, rfl⟩) (fun zv9 wm9 hq9 => ?_)
    obtain ⟨rfl, rfl⟩ := hq9
    refine JT_goto (tgt := 59) dX11_fits_55 (by decide) ?_
    exact JS_iret dX11_fits_59 rfl rfl h
set_option maxRecDepth 1000000 in
theorem bX11_fits (a1 : Int32) {s : SM} {Q : Int32 → SM → Prop} (h : ((a1 < (1 : Int32) → BI MX11_fits 406 33 [(0, .ref 2), (1, .int a1)] s Q) ∧ (¬ a1 < (1 : Int32) → (((20 : Int32) < a1 → BI MX11_fits 406 33 [(0, .ref 2), (1, .int a1)] s Q) ∧ (¬ (20 : Int32) < a1 → rX1_take s 31 5 ∧ (((vX1_take s 31 5) = 0 → BI MX11_fits 406 33 [(0, .ref 2), (1, .int a1)] (mX1_take s 31 5) Q) ∧ (¬ (vX1_take s 31 5) = 0 → (((1 : Int32) = 0 → Q (-1 : Int32) (pI (mX1_take s 31 5) 3 1 (0 : Int32))) ∧ (¬ (1 : Int32) = 0 → rX1_search (pI (mX1_take s 31 5) 3 1 (0 : Int32)) a1 ∧ Q (vX1_search (pI (mX1_take s 31 5) 3 1 (0 : Int32)) a1) (mX1_search (pI (mX1_take s 31 5) 3 1 (0 : Int32)) a1)))))))))) : KI MX11_fits 406 [.ref 2, .int a1] s Q := by
  show BI MX11_fits 406 0 [(0, .ref 2), (1, .int a1)] s Q
  refine JT_iload_n (q := 1) dX11_fits_0 rfl rfl ?_
  refine JT_iconst (v := 1) dX11_fits_1 ic_1 ?_
  refine JT_icmp_lt (tgt := 33) dX11_fits_2 (by decide) (fun hc6 => ?_) (fun hc6 => ?_)
  · have h := h.1 hc6
    exact JT_sub [0, 1] rfl h
  · have h := h.2 hc6
    refine JT_iload_n (q := 1) dX11_fits_5 rfl rfl ?_
    refine JT_bipush (v := 20) dX11_fits_6 bp_20 ?_
    refine JT_icmp_gt (tgt := 33) dX11_fits_8 (by decide) (fun hc5 => ?_) (fun hc5 => ?_)
    · have h := h.1 hc5
      exact JT_sub [0, 1] rfl h
    · have h := h.2 hc5
      refine JT_aload_n (q := 0) dX11_fits_11 rfl rfl ?_
      refine JS_getR (x := 233) dX11_fits_12 flX11_79 BS_2 (Nat.le_of_ble_eq_true rfl) (Nat.le_of_ble_eq_true rfl) (Or.inl ⟨_, ct_11_11⟩) RF_2_11 ?_
      refine JT_aload_n (q := 0) dX11_fits_15 rfl rfl ?_
      refine JS_getR (x := 3) dX11_fits_16 flX11_10 BS_2 (Nat.le_of_ble_eq_true rfl) (Nat.le_of_ble_eq_true rfl) (Or.inl ⟨_, ct_11_0⟩) RF_2_0 ?_
      refine JT_aload_n (q := 0) dX11_fits_19 rfl rfl ?_
      refine JS_getR (x := 31) dX11_fits_20 flX11_41 BS_2 (Nat.le_of_ble_eq_true rfl) (Nat.le_of_ble_eq_true rfl) (Or.inl ⟨_, ct_11_5⟩) RF_2_5 ?_
      obtain ⟨o4, h⟩ := h
      refine JS_callVI (M' := MX1_take) (d' := 6) (As := [.ref 3, .ref 31]) (rest := []) (P := (fun zv9 wm9 => (vX1_take s 31 5) = zv9 ∧ (mX1_take s 31 5) = wm9)) dX11_fits_23 cvX11_401 okX1_take rfl (Nat.le_of_ble_eq_true rfl) BS_233 (Nat.le_of_ble_eq_true rfl) (Nat.le_of_ble_eq_true rfl) hci_1 (Nat.le_of_ble_eq_true rfl) (Nat.le_of_ble_eq_true rfl) (pX1_take hL_31  o4 ⟨rfl, rfl⟩) (fun zv9 wm9 hq9 => ?_)
      obtain ⟨rfl, rfl⟩ := hq9
      refine JT_if_eq (tgt := 33) dX11_fits_26 (by decide) (fun hc3 => ?_) (fun hc3 => ?_)
      · have h := h.1 hc3
        exact JT_sub [0, 1] rfl h
      · have h := h.2 hc3
        refine JT_iconst (v := 1) dX11_fits_29 ic_1 ?_
        refine JT_goto (tgt := 34) dX11_fits_30 (by decide) ?_
        refine JT_istore_n (lv' := [(2, .int (1 : Int32)), (0, .ref 2), (1, .int a1)]) dX11_fits_34 rfl (Nat.le_of_ble_eq_true rfl) rfl ?_
        refine JT_aload_n (q := 1) dX11_fits_35 rfl rfl ?_
        refine JS_getR (x := 3) dX11_fits_36 flX11_10 BS_2 (Nat.le_of_ble_eq_true rfl) (Nat.le_of_ble_eq_true rfl) (Or.inl ⟨_, ct_11_0⟩) RF_2_0 ?_
        refine JT_iconst (v := 0) dX11_fits_39 ic_0 ?_
        refine JS_putI dX11_fits_40 flX11_104 BS_3 (Nat.le_of_ble_eq_true rfl) (Nat.le_of_ble_eq_true rfl) ct_9_1 ?_
        refine JT_iload_n (q := 0) dX11_fits_43 rfl rfl ?_
        refine JT_if_eq (tgt := 58) dX11_fits_44 (by decide) (fun hc2 => ?_) (fun hc2 => ?_)
        · have h := h.1 hc2
          refine JT_iconst (v := -1) dX11_fits_58 ic_m1 ?_
          exact JS_iret dX11_fits_59 rfl rfl h
        · have h := h.2 hc2
          refine JT_aload_n (q := 1) dX11_fits_47 rfl rfl ?_
          refine JS_getR (x := 233) dX11_fits_48 flX11_79 BS_2 (Nat.le_of_ble_eq_true rfl) (Nat.le_of_ble_eq_true rfl) (Or.inl ⟨_, ct_11_11⟩) RF_2_11 ?_
          refine JT_iload_n (q := 2) dX11_fits_51 rfl rfl ?_
          obtain ⟨o1, h⟩ := h
          refine JS_callVI (M' := MX1_search) (d' := 405) (As := [.int a1]) (rest := []) (P := (fun zv9 wm9 => (vX1_search (pI (mX1_take s 31 5) 3 1 (0 : Int32)) a1) = zv9 ∧ (mX1_search (pI (mX1_take s 31 5) 3 1 (0 : Int32)) a1) = wm9)) dX11_fits_52 cvX11_404 okX1_search rfl (Nat.le_of_ble_eq_true rfl) BS_233 (Nat.le_of_ble_eq_true rfl) (Nat.le_of_ble_eq_true rfl) hci_1 (Nat.le_of_ble_eq_true rfl) (Nat.le_of_ble_eq_true rfl) (pX1_search  (a1) o1 ⟨rfl, rfl⟩) (fun zv9 wm9 hq9 => ?_)
          obtain ⟨rfl, rfl⟩ := hq9
          refine JT_goto (tgt := 59) dX11_fits_55 (by decide) ?_
          exact JS_iret dX11_fits_59 rfl rfl h
set_option maxRecDepth 1000000 in
theorem gX11_fits  : ∀ n : Nat, (∀ (a1 : Int32) (s : SM) (Q : Int32 → SM → Prop), ((qX11_fits n) s a1) → Q ((lX11_fits n) s a1).1 ((lX11_fits n) s a1).2 → BI MX11_fits 406 33 [(0, .ref 2), (1, .int a1)] s Q) := by
  intro n
  induction n with
  | zero => exact fun _ _ _ hq _ => absurd hq id
  | succ n ih =>
    intro a1 s Q hr h
    replace hr : uX11_fits_33 (qX11_fits n) s a1 := hr
    replace h : Q (tX11_fits_33 (lX11_fits n) s a1).1 (tX11_fits_33 (lX11_fits n) s a1).2 := h
    unfold uX11_fits_33 at hr
    unfold tX11_fits_33 at h
    refine bX11_fits_33 a1 ?_
    refine ⟨fun c => ?_, fun c => ?_⟩
    · replace h := q3p c h
      first | exact h | contradiction
    · replace hr := hr c
      replace h := q3n c h
      refine ⟨hr, ?_⟩
      first | exact h | contradiction
set_option maxRecDepth 1000000 in
theorem pX11_fits (a1 : Int32) {s : SM} {Q : Int32 → SM → Prop} (hr : rX11_fits s a1) (h : Q (vX11_fits s a1) (mX11_fits s a1)) : KI MX11_fits 406 [.ref 2, .int a1] s Q := by
  replace h : Q (fX11_fits s a1).1 (fX11_fits s a1).2 := h
  unfold rX11_fits at hr
  unfold fX11_fits at h
  refine bX11_fits a1 ?_
  refine ⟨fun c => ?_, fun c => ?_⟩
  · replace hr := hr.1 c
    replace h := q3p c h
    first | exact (gX11_fits  FU) a1 _ Q hr h | contradiction
  · replace hr := hr.2 c
    replace h := q3n c h
    refine ⟨fun c => ?_, fun c => ?_⟩
    · replace hr := hr.1 c
      replace h := q3p c h
      first | exact (gX11_fits  FU) a1 _ Q hr h | contradiction
    · replace hr := hr.2 c
      replace h := q3n c h
      refine ⟨hr.1, ?_⟩
      replace hr := hr.2
      refine ⟨fun c => ?_, fun c => ?_⟩
      · replace hr := hr.1 c
        replace h := q3p c h
        first | exact (gX11_fits  FU) a1 _ Q hr h | contradiction
      · replace hr := hr.2 c
        replace h := q3n c h
        refine ⟨fun c => ?_, fun c => ?_⟩
        · replace h := q3p c h
          first | exact h | contradiction
        · replace hr := hr c
          replace h := q3n c h
          refine ⟨hr, ?_⟩
          first | exact h | contradiction
set_option maxRecDepth 1000000 in
theorem bX11_pack  {s : SM} {Q : Int32 → SM → Prop} (h : rX5_take s 5 ∧ ((¬ (vX5_take s 5) = 0 → rX5_search (pI (mX5_take s 5) 3 1 (0 : Int32)) 31 5 (-1 : Int32) (0 : Int32) ∧ Q (vX5_search (pI (mX5_take s 5) 3 1 (0 : Int32)) 31 5 (-1 : Int32) (0 : Int32)) (mX5_keepTold (mX5_search (pI (mX5_take s 5) 3 1 (0 : Int32)) 31 5 (-1 : Int32) (0 : Int32)) )) ∧ ((vX5_take s 5) = 0 → Q (-1 : Int32) (pI (mX5_take s 5) 3 1 (0 : Int32))))) : KI MX11_pack 206 [.ref 2] s Q := by
  show BI MX11_pack 206 0 [(0, .ref 2)] s Q
  refine JT_aload_n (q := 0) dX11_pack_0 rfl rfl ?_
  refine JS_getR (x := 225) dX11_pack_1 flX11_72 BS_2 (Nat.le_of_ble_eq_true rfl) (Nat.le_of_ble_eq_true rfl) (Or.inl ⟨_, ct_11_10⟩) RF_2_10 ?_
  refine JT_aload_n (q := 0) dX11_pack_4 rfl rfl ?_
  refine JS_getR (x := 3) dX11_pack_5 flX11_10 BS_2 (Nat.le_of_ble_eq_true rfl) (Nat.le_of_ble_eq_true rfl) (Or.inl ⟨_, ct_11_0⟩) RF_2_0 ?_
  refine JT_aload_n (q := 0) dX11_pack_8 rfl rfl ?_
  refine JS_getR (x := 5) dX11_pack_9 flX11_19 BS_2 (Nat.le_of_ble_eq_true rfl) (Nat.le_of_ble_eq_true rfl) (Or.inl ⟨_, ct_11_1⟩) RF_2_1 ?_
  obtain ⟨o4, h⟩ := h
  refine JS_callVI (M' := MX5_take) (d' := 3) (As := [.ref 3, .ref 5]) (rest := []) (P := (fun zv9 wm9 => (vX5_take s 5) = zv9 ∧ (mX5_take s 5) = wm9)) dX11_pack_12 cvX11_381 okX5_take rfl (Nat.le_of_ble_eq_true rfl) BS_225 (Nat.le_of_ble_eq_true rfl) (Nat.le_of_ble_eq_true rfl) hci_5 (Nat.le_of_ble_eq_true rfl) (Nat.le_of_ble_eq_true rfl) (pX5_take hp_5  o4 ⟨rfl, rfl⟩) (fun zv9 wm9 hq9 => ?_)
  obtain ⟨rfl, rfl⟩ := hq9
  refine JT_istore_n (lv' := [(1, .int (vX5_take s 5)), (0, .ref 2)]) dX11_pack_15 rfl (Nat.le_of_ble_eq_true rfl) rfl ?_
  refine JT_aload_n (q := 1) dX11_pack_16 rfl rfl ?_
  refine JS_getR (x := 3) dX11_pack_17 flX11_10 BS_2 (Nat.le_of_ble_eq_true rfl) (Nat.le_of_ble_eq_true rfl) (Or.inl ⟨_, ct_11_0⟩) RF_2_0 ?_
  refine JT_iconst (v := 0) dX11_pack_20 ic_0 ?_
  refine JS_putI dX11_pack_21 flX11_104 BS_3 (Nat.le_of_ble_eq_true rfl) (Nat.le_of_ble_eq_true rfl) ct_9_1 ?_
  refine JT_iload_n (q := 0) dX11_pack_24 rfl rfl ?_
  refine JT_if_ne (tgt := 30) dX11_pack_25 (by decide) (fun hc3 => ?_) (fun hc3 => ?_)
  · have h := h.1 hc3
    refine JT_aload_n (q := 1) dX11_pack_30 rfl rfl ?_
    refine JS_getR (x := 225) dX11_pack_31 flX11_72 BS_2 (Nat.le_of_ble_eq_true rfl) (Nat.le_of_ble_eq_true rfl) (Or.inl ⟨_, ct_11_10⟩) RF_2_10 ?_
    refine JT_aload_n (q := 1) dX11_pack_34 rfl rfl ?_
    refine JS_getR (x := 31) dX11_pack_35 flX11_41 BS_2 (Nat.le_of_ble_eq_true rfl) (Nat.le_of_ble_eq_true rfl) (Or.inl ⟨_, ct_11_5⟩) RF_2_5 ?_
    refine JT_iconst (v := -1) dX11_pack_38 ic_m1 ?_
    refine JT_iconst (v := 0) dX11_pack_39 ic_0 ?_
    obtain ⟨o2, h⟩ := h
    refine JS_callVI (M' := MX5_search) (d' := 205) (As := [.ref 31, .int (-1 : Int32), .int (0 : Int32)]) (rest := []) (P := (fun zv9 wm9 => (vX5_search (pI (mX5_take s 5) 3 1 (0 : Int32)) 31 5 (-1 : Int32) (0 : Int32)) = zv9 ∧ (mX5_search (pI (mX5_take s 5) 3 1 (0 : Int32)) 31 5 (-1 : Int32) (0 : Int32)) = wm9)) dX11_pack_40 cvX11_384 okX5_search rfl (Nat.le_of_ble_eq_true rfl) BS_225 (Nat.le_of_ble_eq_true rfl) (Nat.le_of_ble_eq_true rfl) hci_5 (Nat.le_of_ble_eq_true rfl) (Nat.le_of_ble_eq_true rfl) (pX5_search hL_31 ((-1 : Int32)) ((0 : Int32)) o2 ⟨rfl, rfl⟩) (fun zv9 wm9 hq9 => ?_)
    obtain ⟨rfl, rfl⟩ := hq9
    refine JT_istore_n (lv' := [(2, .int (vX5_search (pI (mX5_take s 5) 3 1 (0 : Int32)) 31 5 (-1 : Int32) (0 : Int32))), (1, .int (vX5_take s 5)), (0, .ref 2)]) dX11_pack_43 rfl (Nat.le_of_ble_eq_true rfl) rfl ?_
    refine JT_aload_n (q := 2) dX11_pack_44 rfl rfl ?_
    refine JS_getR (x := 225) dX11_pack_45 flX11_72 BS_2 (Nat.le_of_ble_eq_true rfl) (Nat.le_of_ble_eq_true rfl) (Or.inl ⟨_, ct_11_10⟩) RF_2_10 ?_
    refine JS_callVV (M' := MX5_keepTold) (d' := 1) (As := []) (rest := []) (P := (fun wm9 => (mX5_keepTold (mX5_search (pI (mX5_take s 5) 3 1 (0 : Int32)) 31 5 (-1 : Int32) (0 : Int32)) ) = wm9)) dX11_pack_48 cvX11_388 okX5_keepTold rfl (Nat.le_of_ble_eq_true rfl) BS_225 (Nat.le_of_ble_eq_true rfl) (Nat.le_of_ble_eq_true rfl) hci_5 (Nat.le_of_ble_eq_true rfl) (Nat.le_of_ble_eq_true rfl) (pX5_keepTold    rfl) (fun wm9 hq9 => ?_)
    subst hq9
    refine JT_iload_n (q := 0) dX11_pack_51 rfl rfl ?_
    exact JS_iret dX11_pack_52 rfl rfl h
  · have h := h.2 hc3
    refine JT_iconst (v := -1) dX11_pack_28 ic_m1 ?_
    exact JS_iret dX11_pack_29 rfl rfl h
set_option maxRecDepth 1000000 in
theorem pX11_pack  {s : SM} {Q : Int32 → SM → Prop} (hr : rX11_pack s ) (h : Q (vX11_pack s ) (mX11_pack s )) : KI MX11_pack 206 [.ref 2] s Q := by
  refine bX11_pack  ?_
  unfold rX11_pack at hr
  unfold vX11_pack mX11_pack at h
  refine ⟨hr.1, ?_⟩
  replace hr := hr.2
  refine ⟨fun c => ?_, fun c => ?_⟩
  · replace hr := hr c
    replace h := q2n c h
    refine ⟨hr, ?_⟩
    first | exact h | contradiction
  · replace h := q2p c h
    first | exact h | contradiction
set_option maxRecDepth 1000000 in
theorem bX11_price (a1 : Int32) (a2 : Int32) {s : SM} {Q : Int32 → SM → Prop} (h : (((vX6_hasBody s 5 a1) = 0 → Q (-1 : Int32) s) ∧ (¬ (vX6_hasBody s 5 a1) = 0 → ((a2 < (1 : Int32) → Q (-1 : Int32) s) ∧ (¬ a2 < (1 : Int32) → (((99 : Int32) < a2 → Q (-1 : Int32) s) ∧ (¬ (99 : Int32) < a2 → ((¬ (vX5_isPackedIn s 5) = 0 → rX5_search s 31 5 a1 a2 ∧ rX5_search (mX5_search s 31 5 a1 a2) 31 5 (-1 : Int32) (0 : Int32) ∧ Q ((vX5_search s 31 5 a1 a2) - (vX5_search (mX5_search s 31 5 a1 a2) 31 5 (-1 : Int32) (0 : Int32))) (mX5_search (mX5_search s 31 5 a1 a2) 31 5 (-1 : Int32) (0 : Int32))) ∧ ((vX5_isPackedIn s 5) = 0 → Q (-1 : Int32) s))))))))) : KI MX11_price 206 [.ref 2, .int a1, .int a2] s Q := by
  show BI MX11_price 206 0 [(0, .ref 2), (1, .int a1), (2, .int a2)] s Q
  refine JT_aload_n (q := 0) dX11_price_0 rfl rfl ?_
  refine JS_getR (x := 5) dX11_price_1 flX11_19 BS_2 (Nat.le_of_ble_eq_true rfl) (Nat.le_of_ble_eq_true rfl) (Or.inl ⟨_, ct_11_1⟩) RF_2_1 ?_
  refine JT_iload_n (q := 1) dX11_price_4 rfl rfl ?_
  refine JS_callVI (M' := MX6_hasBody) (d' := 0) (As := [.int a1]) (rest := []) (P := (fun zv9 wm9 => (vX6_hasBody s 5 a1) = zv9 ∧ s = wm9)) dX11_price_5 cvX11_172 okX6_hasBody rfl (Nat.le_of_ble_eq_true rfl) BS_5 (Nat.le_of_ble_eq_true rfl) (Nat.le_of_ble_eq_true rfl) hci_6 (Nat.le_of_ble_eq_true rfl) (Nat.le_of_ble_eq_true rfl) (pX6_hasBody hp_5 (a1)  ⟨rfl, rfl⟩) (fun zv9 wm9 hq9 => ?_)
  obtain ⟨rfl, rfl⟩ := hq9
  refine JT_if_eq (tgt := 36) dX11_price_8 (by decide) (fun hc7 => ?_) (fun hc7 => ?_)
  · have h := h.1 hc7
    refine JT_iconst (v := -1) dX11_price_36 ic_m1 ?_
    exact JS_iret dX11_price_37 rfl rfl h
  · have h := h.2 hc7
    refine JT_iload_n (q := 2) dX11_price_11 rfl rfl ?_
    refine JT_iconst (v := 1) dX11_price_12 ic_1 ?_
    refine JT_icmp_lt (tgt := 36) dX11_price_13 (by decide) (fun hc6 => ?_) (fun hc6 => ?_)
    · have h := h.1 hc6
      refine JT_iconst (v := -1) dX11_price_36 ic_m1 ?_
      exact JS_iret dX11_price_37 rfl rfl h
    · have h := h.2 hc6
      refine JT_iload_n (q := 2) dX11_price_16 rfl rfl ?_
      refine JT_bipush (v := 99) dX11_price_17 bp_99 ?_
      refine JT_icmp_gt (tgt := 36) dX11_price_19 (by decide) (fun hc5 => ?_) (fun hc5 => ?_)
      · have h := h.1 hc5
        refine JT_iconst (v := -1) dX11_price_36 ic_m1 ?_
        exact JS_iret dX11_price_37 rfl rfl h
      · have h := h.2 hc5
        refine JT_aload_n (q := 0) dX11_price_22 rfl rfl ?_
        refine JS_getR (x := 225) dX11_price_23 flX11_72 BS_2 (Nat.le_of_ble_eq_true rfl) (Nat.le_of_ble_eq_true rfl) (Or.inl ⟨_, ct_11_10⟩) RF_2_10 ?_
        refine JT_aload_n (q := 0) dX11_price_26 rfl rfl ?_
        refine JS_getR (x := 5) dX11_price_27 flX11_19 BS_2 (Nat.le_of_ble_eq_true rfl) (Nat.le_of_ble_eq_true rfl) (Or.inl ⟨_, ct_11_1⟩) RF_2_1 ?_
        refine JS_callVI (M' := MX5_isPackedIn) (d' := 0) (As := [.ref 5]) (rest := []) (P := (fun zv9 wm9 => (vX5_isPackedIn s 5) = zv9 ∧ s = wm9)) dX11_price_30 cvX11_394 okX5_isPackedIn rfl (Nat.le_of_ble_eq_true rfl) BS_225 (Nat.le_of_ble_eq_true rfl) (Nat.le_of_ble_eq_true rfl) hci_5 (Nat.le_of_ble_eq_true rfl) (Nat.le_of_ble_eq_true rfl) (pX5_isPackedIn hp_5   ⟨rfl, rfl⟩) (fun zv9 wm9 hq9 => ?_)
        obtain ⟨rfl, rfl⟩ := hq9
        refine JT_if_ne (tgt := 38) dX11_price_33 (by decide) (fun hc3 => ?_) (fun hc3 => ?_)
        · have h := h.1 hc3
          refine JT_aload_n (q := 0) dX11_price_38 rfl rfl ?_
          refine JS_getR (x := 225) dX11_price_39 flX11_72 BS_2 (Nat.le_of_ble_eq_true rfl) (Nat.le_of_ble_eq_true rfl) (Or.inl ⟨_, ct_11_10⟩) RF_2_10 ?_
          refine JT_aload_n (q := 0) dX11_price_42 rfl rfl ?_
          refine JS_getR (x := 31) dX11_price_43 flX11_41 BS_2 (Nat.le_of_ble_eq_true rfl) (Nat.le_of_ble_eq_true rfl) (Or.inl ⟨_, ct_11_5⟩) RF_2_5 ?_
          refine JT_iload_n (q := 1) dX11_price_46 rfl rfl ?_
          refine JT_iload_n (q := 2) dX11_price_47 rfl rfl ?_
          obtain ⟨o2, h⟩ := h
          refine JS_callVI (M' := MX5_search) (d' := 205) (As := [.ref 31, .int a1, .int a2]) (rest := []) (P := (fun zv9 wm9 => (vX5_search s 31 5 a1 a2) = zv9 ∧ (mX5_search s 31 5 a1 a2) = wm9)) dX11_price_48 cvX11_384 okX5_search rfl (Nat.le_of_ble_eq_true rfl) BS_225 (Nat.le_of_ble_eq_true rfl) (Nat.le_of_ble_eq_true rfl) hci_5 (Nat.le_of_ble_eq_true rfl) (Nat.le_of_ble_eq_true rfl) (pX5_search hL_31 (a1) (a2) o2 ⟨rfl, rfl⟩) (fun zv9 wm9 hq9 => ?_)
          obtain ⟨rfl, rfl⟩ := hq9
          refine JT_aload_n (q := 0) dX11_price_51 rfl rfl ?_
          refine JS_getR (x := 225) dX11_price_52 flX11_72 BS_2 (Nat.le_of_ble_eq_true rfl) (Nat.le_of_ble_eq_true rfl) (Or.inl ⟨_, ct_11_10⟩) RF_2_10 ?_
          refine JT_aload_n (q := 0) dX11_price_55 rfl rfl ?_
          refine JS_getR (x := 31) dX11_price_56 flX11_41 BS_2 (Nat.le_of_ble_eq_true rfl) (Nat.le_of_ble_eq_true rfl) (Or.inl ⟨_, ct_11_5⟩) RF_2_5 ?_
          refine JT_iconst (v := -1) dX11_price_59 ic_m1 ?_
          refine JT_iconst (v := 0) dX11_price_60 ic_0 ?_
          obtain ⟨o1, h⟩ := h
          refine JS_callVI (M' := MX5_search) (d' := 205) (As := [.ref 31, .int (-1 : Int32), .int (0 : Int32)]) (rest := [.int (vX5_search s 31 5 a1 a2)]) (P := (fun zv9 wm9 => (vX5_search (mX5_search s 31 5 a1 a2) 31 5 (-1 : Int32) (0 : Int32)) = zv9 ∧ (mX5_search (mX5_search s 31 5 a1 a2) 31 5 (-1 : Int32) (0 : Int32)) = wm9)) dX11_price_61 cvX11_384 okX5_search rfl (Nat.le_of_ble_eq_true rfl) BS_225 (Nat.le_of_ble_eq_true rfl) (Nat.le_of_ble_eq_true rfl) hci_5 (Nat.le_of_ble_eq_true rfl) (Nat.le_of_ble_eq_true rfl) (pX5_search hL_31 ((-1 : Int32)) ((0 : Int32)) o1 ⟨rfl, rfl⟩) (fun zv9 wm9 hq9 => ?_)
          obtain ⟨rfl, rfl⟩ := hq9
          refine JT_isub dX11_price_64 ?_
          exact JS_iret dX11_price_65 rfl rfl h
        · have h := h.2 hc3
          refine JT_iconst (v := -1) dX11_price_36 ic_m1 ?_
          exact JS_iret dX11_price_37 rfl rfl h
set_option maxRecDepth 1000000 in
theorem pX11_price (a1 : Int32) (a2 : Int32) {s : SM} {Q : Int32 → SM → Prop} (hr : rX11_price s a1 a2) (h : Q (vX11_price s a1 a2) (mX11_price s a1 a2)) : KI MX11_price 206 [.ref 2, .int a1, .int a2] s Q := by
  refine bX11_price a1 a2 ?_
  unfold rX11_price at hr
  unfold vX11_price mX11_price at h
  refine ⟨fun c => ?_, fun c => ?_⟩
  · replace h := q2p c h
    first | exact h | contradiction
  · replace hr := hr c
    replace h := q2n c h
    refine ⟨fun c => ?_, fun c => ?_⟩
    · replace h := q2p c h
      first | exact h | contradiction
    · replace hr := hr c
      replace h := q2n c h
      refine ⟨fun c => ?_, fun c => ?_⟩
      · replace h := q2p c h
        first | exact h | contradiction
      · replace hr := hr c
        replace h := q2n c h
        refine ⟨fun c => ?_, fun c => ?_⟩
        · replace hr := hr c
          replace h := q2n c h
          refine ⟨hr.1, ?_⟩
          replace hr := hr.2
          refine ⟨hr, ?_⟩
          first | exact h | contradiction
        · replace h := q2p c h
          first | exact h | contradiction
set_option maxRecDepth 1000000 in
theorem bX7_extend_35 {e : Nat} (a1 : Int32) (a2 : Int32) (a3 : Int32) (a4 : Int32) (a5 : Int32) (a6 : Int32) {s : SM} {Q : SM → Prop} (h : vp_in a2 9 ∧ (((gI s 224 (a2).toNatClampNeg) ≤ a6 → Q s) ∧ (¬ (gI s 224 (a2).toNatClampNeg) ≤ a6 → vp_in a6 60 ∧ gD s 0 = some (gDx s 0) ∧ ((gDx s 0), rfx (gDx s 0) 8) ∈ LX ∧ vp_in (gI s 222 (a6).toNatClampNeg) 60 ∧ gD s 0 = some (gDx s 0) ∧ ((gDx s 0), rfx (gDx s 0) 8) ∈ LX ∧ vp_in (gI s 222 (a6).toNatClampNeg) 60 ∧ ((a3 ≤ (gI s ((gDx s 0) + 3) ((gI s 222 (a6).toNatClampNeg)).toNatClampNeg) → ((¬ (gI s ((gDx s 0) + 3) ((gI s 222 (a6).toNatClampNeg)).toNatClampNeg) = a3 → vp_in a1 5 ∧ ((¬ (gI s ((gDx s 0) + 2) ((gI s 222 (a6).toNatClampNeg)).toNatClampNeg) = (gI (pI s 220 (a1).toNatClampNeg (gI s 222 (a6).toNatClampNeg)) 218 11) → ((¬ (vX11_isIn (pI s 220 (a1).toNatClampNeg (gI s 222 (a6).toNatClampNeg)) (gI s ((gDx s 0) + 2) ((gI s 222 (a6).toNatClampNeg)).toNatClampNeg) a5) = 0 → BV MX7_extend (e + 4) 35 [(0, .ref 218), (1, .int a1), (2, .int a2), (3, .int a3), (4, .int a4), (5, .int a5), (6, .int (a6 + 1))] (pI s 220 (a1).toNatClampNeg (gI s 222 (a6).toNatClampNeg)) Q) ∧ ((vX11_isIn (pI s 220 (a1).toNatClampNeg (gI s 222 (a6).toNatClampNeg)) (gI s ((gDx s 0) + 2) ((gI s 222 (a6).toNatClampNeg)).toNatClampNeg) a5) = 0 → KV MX7_extend (e + 3) [.ref 218, .int (a1 + (1 : Int32)), .int (gI s ((gDx s 0) + 2) ((gI s 222 (a6).toNatClampNeg)).toNatClampNeg), .int (if a3 < (gI s ((gDx s 0) + 3) ((gI s 222 (a6).toNatClampNeg)).toNatClampNeg) then a3 else (gI s ((gDx s 0) + 3) ((gI s 222 (a6).toNatClampNeg)).toNatClampNeg)), .int a4, .int (a5 ||| ((1 : Int32) <<< ((gI s ((gDx s 0) + 2) ((gI s 222 (a6).toNatClampNeg)).toNatClampNeg) &&& 31)))] (pI s 220 (a1).toNatClampNeg (gI s 222 (a6).toNatClampNeg)) (fun s10 => BV MX7_extend (e + 4) 35 [(0, .ref 218), (1, .int a1), (2, .int a2), (3, .int a3), (4, .int a4), (5, .int a5), (6, .int (a6 + 1))] s10 Q)))) ∧ ((gI s ((gDx s 0) + 2) ((gI s 222 (a6).toNatClampNeg)).toNatClampNeg) = (gI (pI s 220 (a1).toNatClampNeg (gI s 222 (a6).toNatClampNeg)) 218 11) → (∀ s14, s14 = (mX7_offer (pI s 220 (a1).toNatClampNeg (gI s 222 (a6).toNatClampNeg)) (a1 + (1 : Int32)) (if a3 < (gI s ((gDx s 0) + 3) ((gI s 222 (a6).toNatClampNeg)).toNatClampNeg) then a3 else (gI s ((gDx s 0) + 3) ((gI s 222 (a6).toNatClampNeg)).toNatClampNeg)) a4) → BV MX7_extend (e + 4) 35 [(0, .ref 218), (1, .int a1), (2, .int a2), (3, .int a3), (4, .int a4), (5, .int a5), (6, .int (a6 + 1))] s14 Q)))) ∧ ((gI s ((gDx s 0) + 3) ((gI s 222 (a6).toNatClampNeg)).toNatClampNeg) = a3 → vp_in (gI s 222 (a6).toNatClampNeg) 60 ∧ vp_in a1 5 ∧ ((¬ (gI s ((gDx s 0) + 2) ((gI s 222 (a6).toNatClampNeg)).toNatClampNeg) = (gI (pI s 220 (a1).toNatClampNeg (gI s 222 (a6).toNatClampNeg)) 218 11) → ((¬ (vX11_isIn (pI s 220 (a1).toNatClampNeg (gI s 222 (a6).toNatClampNeg)) (gI s ((gDx s 0) + 2) ((gI s 222 (a6).toNatClampNeg)).toNatClampNeg) a5) = 0 → BV MX7_extend (e + 4) 35 [(0, .ref 218), (1, .int a1), (2, .int a2), (3, .int a3), (4, .int a4), (5, .int a5), (6, .int (a6 + 1))] (pI s 220 (a1).toNatClampNeg (gI s 222 (a6).toNatClampNeg)) Q) ∧ ((vX11_isIn (pI s 220 (a1).toNatClampNeg (gI s 222 (a6).toNatClampNeg)) (gI s ((gDx s 0) + 2) ((gI s 222 (a6).toNatClampNeg)).toNatClampNeg) a5) = 0 → KV MX7_extend (e + 3) [.ref 218, .int (a1 + (1 : Int32)), .int (gI s ((gDx s 0) + 2) ((gI s 222 (a6).toNatClampNeg)).toNatClampNeg), .int (if a3 < (gI s ((gDx s 0) + 3) ((gI s 222 (a6).toNatClampNeg)).toNatClampNeg) then a3 else (gI s ((gDx s 0) + 3) ((gI s 222 (a6).toNatClampNeg)).toNatClampNeg)), .int (a4 + (gI s 221 ((gI s 222 (a6).toNatClampNeg)).toNatClampNeg)), .int (a5 ||| ((1 : Int32) <<< ((gI s ((gDx s 0) + 2) ((gI s 222 (a6).toNatClampNeg)).toNatClampNeg) &&& 31)))] (pI s 220 (a1).toNatClampNeg (gI s 222 (a6).toNatClampNeg)) (fun s19 => BV MX7_extend (e + 4) 35 [(0, .ref 218), (1, .int a1), (2, .int a2), (3, .int a3), (4, .int a4), (5, .int a5), (6, .int (a6 + 1))] s19 Q)))) ∧ ((gI s ((gDx s 0) + 2) ((gI s 222 (a6).toNatClampNeg)).toNatClampNeg) = (gI (pI s 220 (a1).toNatClampNeg (gI s 222 (a6).toNatClampNeg)) 218 11) → (∀ s23, s23 = (mX7_offer (pI s 220 (a1).toNatClampNeg (gI s 222 (a6).toNatClampNeg)) (a1 + (1 : Int32)) (if a3 < (gI s ((gDx s 0) + 3) ((gI s 222 (a6).toNatClampNeg)).toNatClampNeg) then a3 else (gI s ((gDx s 0) + 3) ((gI s 222 (a6).toNatClampNeg)).toNatClampNeg)) (a4 + (gI s 221 ((gI s 222 (a6).toNatClampNeg)).toNatClampNeg))) → BV MX7_extend (e + 4) 35 [(0, .ref 218), (1, .int a1), (2, .int a2), (3, .int a3), (4, .int a4), (5, .int a5), (6, .int (a6 + 1))] s23 Q)))))) ∧ (¬ a3 ≤ (gI s ((gDx s 0) + 3) ((gI s 222 (a6).toNatClampNeg)).toNatClampNeg) → vp_in (gI s 222 (a6).toNatClampNeg) 60 ∧ vp_in a1 5 ∧ ((¬ (gI s ((gDx s 0) + 2) ((gI s 222 (a6).toNatClampNeg)).toNatClampNeg) = (gI (pI s 220 (a1).toNatClampNeg (gI s 222 (a6).toNatClampNeg)) 218 11) → ((¬ (vX11_isIn (pI s 220 (a1).toNatClampNeg (gI s 222 (a6).toNatClampNeg)) (gI s ((gDx s 0) + 2) ((gI s 222 (a6).toNatClampNeg)).toNatClampNeg) a5) = 0 → BV MX7_extend (e + 4) 35 [(0, .ref 218), (1, .int a1), (2, .int a2), (3, .int a3), (4, .int a4), (5, .int a5), (6, .int (a6 + 1))] (pI s 220 (a1).toNatClampNeg (gI s 222 (a6).toNatClampNeg)) Q) ∧ ((vX11_isIn (pI s 220 (a1).toNatClampNeg (gI s 222 (a6).toNatClampNeg)) (gI s ((gDx s 0) + 2) ((gI s 222 (a6).toNatClampNeg)).toNatClampNeg) a5) = 0 → KV MX7_extend (e + 3) [.ref 218, .int (a1 + (1 : Int32)), .int (gI s ((gDx s 0) + 2) ((gI s 222 (a6).toNatClampNeg)).toNatClampNeg), .int (if a3 < (gI s ((gDx s 0) + 3) ((gI s 222 (a6).toNatClampNeg)).toNatClampNeg) then a3 else (gI s ((gDx s 0) + 3) ((gI s 222 (a6).toNatClampNeg)).toNatClampNeg)), .int (gI s 221 ((gI s 222 (a6).toNatClampNeg)).toNatClampNeg), .int (a5 ||| ((1 : Int32) <<< ((gI s ((gDx s 0) + 2) ((gI s 222 (a6).toNatClampNeg)).toNatClampNeg) &&& 31)))] (pI s 220 (a1).toNatClampNeg (gI s 222 (a6).toNatClampNeg)) (fun s29 => BV MX7_extend (e + 4) 35 [(0, .ref 218), (1, .int a1), (2, .int a2), (3, .int a3), (4, .int a4), (5, .int a5), (6, .int (a6 + 1))] s29 Q)))) ∧ ((gI s ((gDx s 0) + 2) ((gI s 222 (a6).toNatClampNeg)).toNatClampNeg) = (gI (pI s 220 (a1).toNatClampNeg (gI s 222 (a6).toNatClampNeg)) 218 11) → (∀ s33, s33 = (mX7_offer (pI s 220 (a1).toNatClampNeg (gI s 222 (a6).toNatClampNeg)) (a1 + (1 : Int32)) (if a3 < (gI s ((gDx s 0) + 3) ((gI s 222 (a6).toNatClampNeg)).toNatClampNeg) then a3 else (gI s ((gDx s 0) + 3) ((gI s 222 (a6).toNatClampNeg)).toNatClampNeg)) (gI s 221 ((gI s 222 (a6).toNatClampNeg)).toNatClampNeg)) → BV MX7_extend (e + 4) 35 [(0, .ref 218), (1, .int a1), (2, .int a2), (3, .int a3), (4, .int a4), (5, .int a5), (6, .int (a6 + 1))] s33 Q)))))))) : BV MX7_extend (e + 4) 35 [(0, .ref 218), (1, .int a1), (2, .int a2), (3, .int a3), (4, .int a4), (5, .int a5), (6, .int a6)] s Q := by
  refine JT_iload (q := 6) dX7_extend_35 rfl ?_
  refine JT_aload_n (q := 0) dX7_extend_37 rfl rfl ?_
  refine JS_getR (x := 224) dX7_extend_38 flX7_27 BS_218 (Nat.le_of_ble_eq_true rfl) (Nat.le_of_ble_eq_true rfl) (Or.inr ⟨_, ct_7_10⟩) RF_218_10 ?_
  refine JT_iload_n (q := 2) dX7_extend_41 rfl rfl ?_
  obtain ⟨o1, h⟩ := h
  refine JS_iald dX7_extend_42 BS_224 (Nat.le_of_ble_eq_true rfl) (Nat.le_of_ble_eq_true rfl) o1 ?_
  refine JT_icmp_ge (tgt := 193) dX7_extend_43 (by decide) (fun hc37 => ?_) (fun hc37 => ?_)
  · have h := h.1 hc37
    exact JS_vret dX7_extend_193 rfl h
  · have h := h.2 hc37
    refine JT_aload_n (q := 0) dX7_extend_46 rfl rfl ?_
    refine JS_getR (x := 222) dX7_extend_47 flX7_21 BS_218 (Nat.le_of_ble_eq_true rfl) (Nat.le_of_ble_eq_true rfl) (Or.inr ⟨_, ct_7_8⟩) RF_218_8 ?_
    refine JT_iload (q := 6) dX7_extend_50 rfl ?_
    obtain ⟨o2, h⟩ := h
    refine JS_iald dX7_extend_52 BS_222 (Nat.le_of_ble_eq_true rfl) (Nat.le_of_ble_eq_true rfl) o2 ?_
    refine JT_istore (lv' := [(7, .int (gI s 222 (a6).toNatClampNeg)), (0, .ref 218), (1, .int a1), (2, .int a2), (3, .int a3), (4, .int a4), (5, .int a5), (6, .int a6)]) dX7_extend_53 (Nat.le_of_ble_eq_true rfl) rfl ?_
    refine JT_aload_n (q := 1) dX7_extend_55 rfl rfl ?_
    obtain ⟨hr3, hL4, h⟩ := h
    refine JS_getR (x := (gDx s 0)) dX7_extend_56 flX7_40 BS_218 (Nat.le_of_ble_eq_true rfl) (Nat.le_of_ble_eq_true rfl) (Or.inl ⟨_, ct_7_4⟩) (RF_218_4.trans hr3) ?_
    refine JS_getR (x := ((gDx s 0) + 2)) dX7_extend_59 flX7_101 (lxB hL4) (lx2 hL4) (lxN hL4) (Or.inr ⟨_, ct_4_1⟩) (lxR1 hL4) ?_
    refine JT_iload (q := 0) dX7_extend_62 rfl ?_
    obtain ⟨o5, h⟩ := h
    refine JS_iald dX7_extend_64 (lxB2 hL4) (lx2k hL4 _) (lxNk hL4 (Nat.le_of_ble_eq_true rfl)) o5 ?_
    refine JT_istore (lv' := [(8, .int (gI s ((gDx s 0) + 2) ((gI s 222 (a6).toNatClampNeg)).toNatClampNeg)), (7, .int (gI s 222 (a6).toNatClampNeg)), (0, .ref 218), (1, .int a1), (2, .int a2), (3, .int a3), (4, .int a4), (5, .int a5), (6, .int a6)]) dX7_extend_65 (Nat.le_of_ble_eq_true rfl) rfl ?_
    refine JT_aload_n (q := 2) dX7_extend_67 rfl rfl ?_
    obtain ⟨hr6, hL7, h⟩ := h
    refine JS_getR (x := (gDx s 0)) dX7_extend_68 flX7_40 BS_218 (Nat.le_of_ble_eq_true rfl) (Nat.le_of_ble_eq_true rfl) (Or.inl ⟨_, ct_7_4⟩) (RF_218_4.trans hr6) ?_
    refine JS_getR (x := ((gDx s 0) + 3)) dX7_extend_71 flX7_104 (lxB hL7) (lx2 hL7) (lxN hL7) (Or.inr ⟨_, ct_4_2⟩) (lxR2 hL7) ?_
    refine JT_iload (q := 1) dX7_extend_74 rfl ?_
    obtain ⟨o8, h⟩ := h
    refine JS_iald dX7_extend_76 (lxB3 hL7) (lx2k hL7 _) (lxNk hL7 (Nat.le_of_ble_eq_true rfl)) o8 ?_
    refine JT_istore (lv' := [(9, .int (gI s ((gDx s 0) + 3) ((gI s 222 (a6).toNatClampNeg)).toNatClampNeg)), (8, .int (gI s ((gDx s 0) + 2) ((gI s 222 (a6).toNatClampNeg)).toNatClampNeg)), (7, .int (gI s 222 (a6).toNatClampNeg)), (0, .ref 218), (1, .int a1), (2, .int a2), (3, .int a3), (4, .int a4), (5, .int a5), (6, .int a6)]) dX7_extend_77 (Nat.le_of_ble_eq_true rfl) rfl ?_
    refine JT_iload (q := 0) dX7_extend_79 rfl ?_
    refine JT_iload_n (q := 6) dX7_extend_81 rfl rfl ?_
    refine JT_icmp_ge (tgt := 95) dX7_extend_82 (by decide) (fun hc36 => ?_) (fun hc36 => ?_)
    · have h := h.1 hc36
      refine JT_iload (q := 0) dX7_extend_95 rfl ?_
      refine JT_iload_n (q := 6) dX7_extend_97 rfl rfl ?_
      refine JT_icmp_ne (tgt := 114) dX7_extend_98 (by decide) (fun hc26 => ?_) (fun hc26 => ?_)
      · have h := h.1 hc26
        refine JT_iload (q := 7) dX7_extend_114 rfl ?_
        refine JT_istore (lv' := [(10, .int a4), (9, .int (gI s ((gDx s 0) + 3) ((gI s 222 (a6).toNatClampNeg)).toNatClampNeg)), (8, .int (gI s ((gDx s 0) + 2) ((gI s 222 (a6).toNatClampNeg)).toNatClampNeg)), (7, .int (gI s 222 (a6).toNatClampNeg)), (0, .ref 218), (1, .int a1), (2, .int a2), (3, .int a3), (4, .int a4), (5, .int a5), (6, .int a6)]) dX7_extend_116 (Nat.le_of_ble_eq_true rfl) rfl ?_
        refine JT_aload_n (q := 4) dX7_extend_118 rfl rfl ?_
        refine JS_getR (x := 220) dX7_extend_119 flX7_15 BS_218 (Nat.le_of_ble_eq_true rfl) (Nat.le_of_ble_eq_true rfl) (Or.inr ⟨_, ct_7_5⟩) RF_218_5 ?_
        refine JT_iload_n (q := 5) dX7_extend_122 rfl rfl ?_
        refine JT_iload (q := 3) dX7_extend_123 rfl ?_
        obtain ⟨o9, h⟩ := h
        refine JS_iast dX7_extend_125 BS_220 (Nat.le_of_ble_eq_true rfl) (Nat.le_of_ble_eq_true rfl) o9 ?_
        refine JT_iload (q := 2) dX7_extend_126 rfl ?_
        refine JT_aload_n (q := 4) dX7_extend_128 rfl rfl ?_
        refine JS_getI dX7_extend_129 flX7_98 BS_218 (Nat.le_of_ble_eq_true rfl) (Nat.le_of_ble_eq_true rfl) (Or.inl ct_7_11) ?_
        refine JT_icmp_ne (tgt := 153) dX7_extend_132 (by decide) (fun hc16 => ?_) (fun hc16 => ?_)
        · have h := h.1 hc16
          refine JT_iload (q := 2) dX7_extend_153 rfl ?_
          refine JT_iload (q := 9) dX7_extend_155 rfl ?_
          refine JS_callSNI (M' := MX11_isIn) (d' := 0) (As := [.int (gI s ((gDx s 0) + 2) ((gI s 222 (a6).toNatClampNeg)).toNatClampNeg), .int a5]) (rest := []) (P := (fun zv9 wm9 => (vX11_isIn (pI s 220 (a1).toNatClampNeg (gI s 222 (a6).toNatClampNeg)) (gI s ((gDx s 0) + 2) ((gI s 222 (a6).toNatClampNeg)).toNatClampNeg) a5) = zv9 ∧ (pI s 220 (a1).toNatClampNeg (gI s 222 (a6).toNatClampNeg)) = wm9)) dX7_extend_157 cvX7_122 okX11_isIn rfl (Nat.le_of_ble_eq_true rfl) (Nat.le_of_ble_eq_true rfl) (by show 0 + 1 ≤ e + 4; omega) (pX11_isIn  ((gI s ((gDx s 0) + 2) ((gI s 222 (a6).toNatClampNeg)).toNatClampNeg)) (a5)  ⟨rfl, rfl⟩) (fun zv9 wm9 hq9 => ?_)
          obtain ⟨rfl, rfl⟩ := hq9
          refine JT_if_ne (tgt := 187) dX7_extend_160 (by decide) (fun hc12 => ?_) (fun hc12 => ?_)
          · have h := h.1 hc12
            refine JT_iinc (q := 10) (v := (a6 + 1)) (lv' := [(6, .int (a6 + 1)), (10, .int a4), (9, .int (gI s ((gDx s 0) + 3) ((gI s 222 (a6).toNatClampNeg)).toNatClampNeg)), (8, .int (gI s ((gDx s 0) + 2) ((gI s 222 (a6).toNatClampNeg)).toNatClampNeg)), (7, .int (gI s 222 (a6).toNatClampNeg)), (0, .ref 218), (1, .int a1), (2, .int a2), (3, .int a3), (4, .int a4), (5, .int a5)]) dX7_extend_187 rfl (by rfl) (Nat.le_of_ble_eq_true rfl) rfl ?_
            refine JT_goto (tgt := 35) dX7_extend_190 (by decide) ?_
            exact JT_sub [5, 6, 7, 8, 9, 10, 0] rfl h
          · have h := h.2 hc12
            refine JT_aload_n (q := 4) dX7_extend_163 rfl rfl ?_
            refine JT_iload_n (q := 5) dX7_extend_164 rfl rfl ?_
            refine JT_iconst (v := 1) dX7_extend_165 ic_1 ?_
            refine JT_iadd dX7_extend_166 ?_
            refine JT_iload (q := 2) dX7_extend_167 rfl ?_
            refine JT_iload (q := 1) dX7_extend_169 rfl ?_
            refine JT_iload_n (q := 7) dX7_extend_171 rfl rfl ?_
            refine JT_mmin (d2 := e + 3) dX7_extend_172 mlX7_115 (Nat.le_of_ble_eq_true rfl) rfl ?_
            refine JT_iload (q := 0) dX7_extend_175 rfl ?_
            refine JT_iload (q := 9) dX7_extend_177 rfl ?_
            refine JT_iconst (v := 1) dX7_extend_179 ic_1 ?_
            refine JT_iload (q := 2) dX7_extend_180 rfl ?_
            refine JT_ishl dX7_extend_182 ?_
            refine JT_ior dX7_extend_183 ?_
            refine JS_callVV (M' := MX7_extend) (d' := e + 3) (As := [.int (a1 + (1 : Int32)), .int (gI s ((gDx s 0) + 2) ((gI s 222 (a6).toNatClampNeg)).toNatClampNeg), .int (if a3 < (gI s ((gDx s 0) + 3) ((gI s 222 (a6).toNatClampNeg)).toNatClampNeg) then a3 else (gI s ((gDx s 0) + 3) ((gI s 222 (a6).toNatClampNeg)).toNatClampNeg)), .int a4, .int (a5 ||| ((1 : Int32) <<< ((gI s ((gDx s 0) + 2) ((gI s 222 (a6).toNatClampNeg)).toNatClampNeg) &&& 31)))]) (rest := []) dX7_extend_184 cvX7_107 okX7_extend rfl (Nat.le_of_ble_eq_true rfl) BS_218 (Nat.le_of_ble_eq_true rfl) (Nat.le_of_ble_eq_true rfl) hci_7 (Nat.le_of_ble_eq_true rfl) (by show e + 3 + 1 ≤ e + 4; omega) h (fun s10 h => ?_)
            refine JT_iinc (q := 10) (v := (a6 + 1)) (lv' := [(6, .int (a6 + 1)), (10, .int a4), (9, .int (gI s ((gDx s 0) + 3) ((gI s 222 (a6).toNatClampNeg)).toNatClampNeg)), (8, .int (gI s ((gDx s 0) + 2) ((gI s 222 (a6).toNatClampNeg)).toNatClampNeg)), (7, .int (gI s 222 (a6).toNatClampNeg)), (0, .ref 218), (1, .int a1), (2, .int a2), (3, .int a3), (4, .int a4), (5, .int a5)]) dX7_extend_187 rfl (by rfl) (Nat.le_of_ble_eq_true rfl) rfl ?_
            refine JT_goto (tgt := 35) dX7_extend_190 (by decide) ?_
            exact JT_sub [5, 6, 7, 8, 9, 10, 0] rfl h
        · have h := h.2 hc16
          refine JT_aload_n (q := 4) dX7_extend_135 rfl rfl ?_
          refine JT_iload_n (q := 5) dX7_extend_136 rfl rfl ?_
          refine JT_iconst (v := 1) dX7_extend_137 ic_1 ?_
          refine JT_iadd dX7_extend_138 ?_
          refine JT_iload (q := 1) dX7_extend_139 rfl ?_
          refine JT_iload_n (q := 7) dX7_extend_141 rfl rfl ?_
          refine JT_mmin (d2 := e + 3) dX7_extend_142 mlX7_115 (Nat.le_of_ble_eq_true rfl) rfl ?_
          refine JT_iload (q := 0) dX7_extend_145 rfl ?_
          refine JS_callVV (M' := MX7_offer) (d' := 1) (As := [.int (a1 + (1 : Int32)), .int (if a3 < (gI s ((gDx s 0) + 3) ((gI s 222 (a6).toNatClampNeg)).toNatClampNeg) then a3 else (gI s ((gDx s 0) + 3) ((gI s 222 (a6).toNatClampNeg)).toNatClampNeg)), .int a4]) (rest := []) (P := (fun wm9 => (mX7_offer (pI s 220 (a1).toNatClampNeg (gI s 222 (a6).toNatClampNeg)) (a1 + (1 : Int32)) (if a3 < (gI s ((gDx s 0) + 3) ((gI s 222 (a6).toNatClampNeg)).toNatClampNeg) then a3 else (gI s ((gDx s 0) + 3) ((gI s 222 (a6).toNatClampNeg)).toNatClampNeg)) a4) = wm9)) dX7_extend_147 cvX7_118 okX7_offer rfl (Nat.le_of_ble_eq_true rfl) BS_218 (Nat.le_of_ble_eq_true rfl) (Nat.le_of_ble_eq_true rfl) hci_7 (Nat.le_of_ble_eq_true rfl) (by show 1 + 1 ≤ e + 4; omega) (pX7_offer  ((a1 + (1 : Int32))) ((if a3 < (gI s ((gDx s 0) + 3) ((gI s 222 (a6).toNatClampNeg)).toNatClampNeg) then a3 else (gI s ((gDx s 0) + 3) ((gI s 222 (a6).toNatClampNeg)).toNatClampNeg))) (a4)  rfl) (fun wm9 hq9 => ?_)
          subst hq9
          obtain ⟨s14, hs14⟩ : ∃ z, z = (mX7_offer (pI s 220 (a1).toNatClampNeg (gI s 222 (a6).toNatClampNeg)) (a1 + (1 : Int32)) (if a3 < (gI s ((gDx s 0) + 3) ((gI s 222 (a6).toNatClampNeg)).toNatClampNeg) then a3 else (gI s ((gDx s 0) + 3) ((gI s 222 (a6).toNatClampNeg)).toNatClampNeg)) a4) := ⟨_, rfl⟩
          replace h := h s14 hs14
          rw [← hs14]
          refine JT_goto (tgt := 187) dX7_extend_150 (by decide) ?_
          refine JT_iinc (q := 10) (v := (a6 + 1)) (lv' := [(6, .int (a6 + 1)), (10, .int a4), (9, .int (gI s ((gDx s 0) + 3) ((gI s 222 (a6).toNatClampNeg)).toNatClampNeg)), (8, .int (gI s ((gDx s 0) + 2) ((gI s 222 (a6).toNatClampNeg)).toNatClampNeg)), (7, .int (gI s 222 (a6).toNatClampNeg)), (0, .ref 218), (1, .int a1), (2, .int a2), (3, .int a3), (4, .int a4), (5, .int a5)]) dX7_extend_187 rfl (by rfl) (Nat.le_of_ble_eq_true rfl) rfl ?_
          refine JT_goto (tgt := 35) dX7_extend_190 (by decide) ?_
          exact JT_sub [5, 6, 7, 8, 9, 10, 0] rfl h
      · have h := h.2 hc26
        refine JT_iload (q := 7) dX7_extend_101 rfl ?_
        refine JT_aload_n (q := 3) dX7_extend_103 rfl rfl ?_
        refine JS_getR (x := 221) dX7_extend_104 flX7_18 BS_218 (Nat.le_of_ble_eq_true rfl) (Nat.le_of_ble_eq_true rfl) (Or.inr ⟨_, ct_7_6⟩) RF_218_6 ?_
        refine JT_iload (q := 2) dX7_extend_107 rfl ?_
        obtain ⟨o17, h⟩ := h
        refine JS_iald dX7_extend_109 BS_221 (Nat.le_of_ble_eq_true rfl) (Nat.le_of_ble_eq_true rfl) o17 ?_
        refine JT_iadd dX7_extend_110 ?_
        refine JT_goto (tgt := 116) dX7_extend_111 (by decide) ?_
        refine JT_istore (lv' := [(10, .int (a4 + (gI s 221 ((gI s 222 (a6).toNatClampNeg)).toNatClampNeg))), (9, .int (gI s ((gDx s 0) + 3) ((gI s 222 (a6).toNatClampNeg)).toNatClampNeg)), (8, .int (gI s ((gDx s 0) + 2) ((gI s 222 (a6).toNatClampNeg)).toNatClampNeg)), (7, .int (gI s 222 (a6).toNatClampNeg)), (0, .ref 218), (1, .int a1), (2, .int a2), (3, .int a3), (4, .int a4), (5, .int a5), (6, .int a6)]) dX7_extend_116 (Nat.le_of_ble_eq_true rfl) rfl ?_
        refine JT_aload_n (q := 4) dX7_extend_118 rfl rfl ?_
        refine JS_getR (x := 220) dX7_extend_119 flX7_15 BS_218 (Nat.le_of_ble_eq_true rfl) (Nat.le_of_ble_eq_true rfl) (Or.inr ⟨_, ct_7_5⟩) RF_218_5 ?_
        refine JT_iload_n (q := 5) dX7_extend_122 rfl rfl ?_
        refine JT_iload (q := 3) dX7_extend_123 rfl ?_
        obtain ⟨o18, h⟩ := h
        refine JS_iast dX7_extend_125 BS_220 (Nat.le_of_ble_eq_true rfl) (Nat.le_of_ble_eq_true rfl) o18 ?_
        refine JT_iload (q := 2) dX7_extend_126 rfl ?_
        refine JT_aload_n (q := 4) dX7_extend_128 rfl rfl ?_
        refine JS_getI dX7_extend_129 flX7_98 BS_218 (Nat.le_of_ble_eq_true rfl) (Nat.le_of_ble_eq_true rfl) (Or.inl ct_7_11) ?_
        refine JT_icmp_ne (tgt := 153) dX7_extend_132 (by decide) (fun hc25 => ?_) (fun hc25 => ?_)
        · have h := h.1 hc25
          refine JT_iload (q := 2) dX7_extend_153 rfl ?_
          refine JT_iload (q := 9) dX7_extend_155 rfl ?_
          refine JS_callSNI (M' := MX11_isIn) (d' := 0) (As := [.int (gI s ((gDx s 0) + 2) ((gI s 222 (a6).toNatClampNeg)).toNatClampNeg), .int a5]) (rest := []) (P := (fun zv9 wm9 => (vX11_isIn (pI s 220 (a1).toNatClampNeg (gI s 222 (a6).toNatClampNeg)) (gI s ((gDx s 0) + 2) ((gI s 222 (a6).toNatClampNeg)).toNatClampNeg) a5) = zv9 ∧ (pI s 220 (a1).toNatClampNeg (gI s 222 (a6).toNatClampNeg)) = wm9)) dX7_extend_157 cvX7_122 okX11_isIn rfl (Nat.le_of_ble_eq_true rfl) (Nat.le_of_ble_eq_true rfl) (by show 0 + 1 ≤ e + 4; omega) (pX11_isIn  ((gI s ((gDx s 0) + 2) ((gI s 222 (a6).toNatClampNeg)).toNatClampNeg)) (a5)  ⟨rfl, rfl⟩) (fun zv9 wm9 hq9 => ?_)
          obtain ⟨rfl, rfl⟩ := hq9
          refine JT_if_ne (tgt := 187) dX7_extend_160 (by decide) (fun hc21 => ?_) (fun hc21 => ?_)
          · have h := h.1 hc21
            refine JT_iinc (q := 10) (v := (a6 + 1)) (lv' := [(6, .int (a6 + 1)), (10, .int (a4 + (gI s 221 ((gI s 222 (a6).toNatClampNeg)).toNatClampNeg))), (9, .int (gI s ((gDx s 0) + 3) ((gI s 222 (a6).toNatClampNeg)).toNatClampNeg)), (8, .int (gI s ((gDx s 0) + 2) ((gI s 222 (a6).toNatClampNeg)).toNatClampNeg)), (7, .int (gI s 222 (a6).toNatClampNeg)), (0, .ref 218), (1, .int a1), (2, .int a2), (3, .int a3), (4, .int a4), (5, .int a5)]) dX7_extend_187 rfl (by rfl) (Nat.le_of_ble_eq_true rfl) rfl ?_
            refine JT_goto (tgt := 35) dX7_extend_190 (by decide) ?_
            exact JT_sub [5, 6, 7, 8, 9, 10, 0] rfl h
          · have h := h.2 hc21
            refine JT_aload_n (q := 4) dX7_extend_163 rfl rfl ?_
            refine JT_iload_n (q := 5) dX7_extend_164 rfl rfl ?_
            refine JT_iconst (v := 1) dX7_extend_165 ic_1 ?_
            refine JT_iadd dX7_extend_166 ?_
            refine JT_iload (q := 2) dX7_extend_167 rfl ?_
            refine JT_iload (q := 1) dX7_extend_169 rfl ?_
            refine JT_iload_n (q := 7) dX7_extend_171 rfl rfl ?_
            refine JT_mmin (d2 := e + 3) dX7_extend_172 mlX7_115 (Nat.le_of_ble_eq_true rfl) rfl ?_
            refine JT_iload (q := 0) dX7_extend_175 rfl ?_
            refine JT_iload (q := 9) dX7_extend_177 rfl ?_
            refine JT_iconst (v := 1) dX7_extend_179 ic_1 ?_
            refine JT_iload (q := 2) dX7_extend_180 rfl ?_
            refine JT_ishl dX7_extend_182 ?_
            refine JT_ior dX7_extend_183 ?_
            refine JS_callVV (M' := MX7_extend) (d' := e + 3) (As := [.int (a1 + (1 : Int32)), .int (gI s ((gDx s 0) + 2) ((gI s 222 (a6).toNatClampNeg)).toNatClampNeg), .int (if a3 < (gI s ((gDx s 0) + 3) ((gI s 222 (a6).toNatClampNeg)).toNatClampNeg) then a3 else (gI s ((gDx s 0) + 3) ((gI s 222 (a6).toNatClampNeg)).toNatClampNeg)), .int (a4 + (gI s 221 ((gI s 222 (a6).toNatClampNeg)).toNatClampNeg)), .int (a5 ||| ((1 : Int32) <<< ((gI s ((gDx s 0) + 2) ((gI s 222 (a6).toNatClampNeg)).toNatClampNeg) &&& 31)))]) (rest := []) dX7_extend_184 cvX7_107 okX7_extend rfl (Nat.le_of_ble_eq_true rfl) BS_218 (Nat.le_of_ble_eq_true rfl) (Nat.le_of_ble_eq_true rfl) hci_7 (Nat.le_of_ble_eq_true rfl) (by show e + 3 + 1 ≤ e + 4; omega) h (fun s19 h => ?_)
            refine JT_iinc (q := 10) (v := (a6 + 1)) (lv' := [(6, .int (a6 + 1)), (10, .int (a4 + (gI s 221 ((gI s 222 (a6).toNatClampNeg)).toNatClampNeg))), (9, .int (gI s ((gDx s 0) + 3) ((gI s 222 (a6).toNatClampNeg)).toNatClampNeg)), (8, .int (gI s ((gDx s 0) + 2) ((gI s 222 (a6).toNatClampNeg)).toNatClampNeg)), (7, .int (gI s 222 (a6).toNatClampNeg)), (0, .ref 218), (1, .int a1), (2, .int a2), (3, .int a3), (4, .int a4), (5, .int a5)]) dX7_extend_187 rfl (by rfl) (Nat.le_of_ble_eq_true rfl) rfl ?_
            refine JT_goto (tgt := 35) dX7_extend_190 (by decide) ?_
            exact JT_sub [5, 6, 7, 8, 9, 10, 0] rfl h
        · have h := h.2 hc25
          refine JT_aload_n (q := 4) dX7_extend_135 rfl rfl ?_
          refine JT_iload_n (q := 5) dX7_extend_136 rfl rfl ?_
          refine JT_iconst (v := 1) dX7_extend_137 ic_1 ?_
          refine JT_iadd dX7_extend_138 ?_
          refine JT_iload (q := 1) dX7_extend_139 rfl ?_
          refine JT_iload_n (q := 7) dX7_extend_141 rfl rfl ?_
          refine JT_mmin (d2 := e + 3) dX7_extend_142 mlX7_115 (Nat.le_of_ble_eq_true rfl) rfl ?_
          refine JT_iload (q := 0) dX7_extend_145 rfl ?_
          refine JS_callVV (M' := MX7_offer) (d' := 1) (As := [.int (a1 + (1 : Int32)), .int (if a3 < (gI s ((gDx s 0) + 3) ((gI s 222 (a6).toNatClampNeg)).toNatClampNeg) then a3 else (gI s ((gDx s 0) + 3) ((gI s 222 (a6).toNatClampNeg)).toNatClampNeg)), .int (a4 + (gI s 221 ((gI s 222 (a6).toNatClampNeg)).toNatClampNeg))]) (rest := []) (P := (fun wm9 => (mX7_offer (pI s 220 (a1).toNatClampNeg (gI s 222 (a6).toNatClampNeg)) (a1 + (1 : Int32)) (if a3 < (gI s ((gDx s 0) + 3) ((gI s 222 (a6).toNatClampNeg)).toNatClampNeg) then a3 else (gI s ((gDx s 0) + 3) ((gI s 222 (a6).toNatClampNeg)).toNatClampNeg)) (a4 + (gI s 221 ((gI s 222 (a6).toNatClampNeg)).toNatClampNeg))) = wm9)) dX7_extend_147 cvX7_118 okX7_offer rfl (Nat.le_of_ble_eq_true rfl) BS_218 (Nat.le_of_ble_eq_true rfl) (Nat.le_of_ble_eq_true rfl) hci_7 (Nat.le_of_ble_eq_true rfl) (by show 1 + 1 ≤ e + 4; omega) (pX7_offer  ((a1 + (1 : Int32))) ((if a3 < (gI s ((gDx s 0) + 3) ((gI s 222 (a6).toNatClampNeg)).toNatClampNeg) then a3 else (gI s ((gDx s 0) + 3) ((gI s 222 (a6).toNatClampNeg)).toNatClampNeg))) ((a4 + (gI s 221 ((gI s 222 (a6).toNatClampNeg)).toNatClampNeg)))  rfl) (fun wm9 hq9 => ?_)
          subst hq9
          obtain ⟨s23, hs23⟩ : ∃ z, z = (mX7_offer (pI s 220 (a1).toNatClampNeg (gI s 222 (a6).toNatClampNeg)) (a1 + (1 : Int32)) (if a3 < (gI s ((gDx s 0) + 3) ((gI s 222 (a6).toNatClampNeg)).toNatClampNeg) then a3 else (gI s ((gDx s 0) + 3) ((gI s 222 (a6).toNatClampNeg)).toNatClampNeg)) (a4 + (gI s 221 ((gI s 222 (a6).toNatClampNeg)).toNatClampNeg))) := ⟨_, rfl⟩
          replace h := h s23 hs23
          rw [← hs23]
          refine JT_goto (tgt := 187) dX7_extend_150 (by decide) ?_
          refine JT_iinc (q := 10) (v := (a6 + 1)) (lv' := [(6, .int (a6 + 1)), (10, .int (a4 + (gI s 221 ((gI s 222 (a6).toNatClampNeg)).toNatClampNeg))), (9, .int (gI s ((gDx s 0) + 3) ((gI s 222 (a6).toNatClampNeg)).toNatClampNeg)), (8, .int (gI s ((gDx s 0) + 2) ((gI s 222 (a6).toNatClampNeg)).toNatClampNeg)), (7, .int (gI s 222 (a6).toNatClampNeg)), (0, .ref 218), (1, .int a1), (2, .int a2), (3, .int a3), (4, .int a4), (5, .int a5)]) dX7_extend_187 rfl (by rfl) (Nat.le_of_ble_eq_true rfl) rfl ?_
          refine JT_goto (tgt := 35) dX7_extend_190 (by decide) ?_
          exact JT_sub [5, 6, 7, 8, 9, 10, 0] rfl h
    · have h := h.2 hc36
      refine JT_aload_n (q := 3) dX7_extend_85 rfl rfl ?_
      refine JS_getR (x := 221) dX7_extend_86 flX7_18 BS_218 (Nat.le_of_ble_eq_true rfl) (Nat.le_of_ble_eq_true rfl) (Or.inr ⟨_, ct_7_6⟩) RF_218_6 ?_
      refine JT_iload (q := 2) dX7_extend_89 rfl ?_
      obtain ⟨o27, h⟩ := h
      refine JS_iald dX7_extend_91 BS_221 (Nat.le_of_ble_eq_true rfl) (Nat.le_of_ble_eq_true rfl) o27 ?_
      refine JT_goto (tgt := 116) dX7_extend_92 (by decide) ?_
      refine JT_istore (lv' := [(10, .int (gI s 221 ((gI s 222 (a6).toNatClampNeg)).toNatClampNeg)), (9, .int (gI s ((gDx s 0) + 3) ((gI s 222 (a6).toNatClampNeg)).toNatClampNeg)), (8, .int (gI s ((gDx s 0) + 2) ((gI s 222 (a6).toNatClampNeg)).toNatClampNeg)), (7, .int (gI s 222 (a6).toNatClampNeg)), (0, .ref 218), (1, .int a1), (2, .int a2), (3, .int a3), (4, .int a4), (5, .int a5), (6, .int a6)]) dX7_extend_116 (Nat.le_of_ble_eq_true rfl) rfl ?_
      refine JT_aload_n (q := 4) dX7_extend_118 rfl rfl ?_
      refine JS_getR (x := 220) dX7_extend_119 flX7_15 BS_218 (Nat.le_of_ble_eq_true rfl) (Nat.le_of_ble_eq_true rfl) (Or.inr ⟨_, ct_7_5⟩) RF_218_5 ?_
      refine JT_iload_n (q := 5) dX7_extend_122 rfl rfl ?_
      refine JT_iload (q := 3) dX7_extend_123 rfl ?_
      obtain ⟨o28, h⟩ := h
      refine JS_iast dX7_extend_125 BS_220 (Nat.le_of_ble_eq_true rfl) (Nat.le_of_ble_eq_true rfl) o28 ?_
      refine JT_iload (q := 2) dX7_extend_126 rfl ?_
      refine JT_aload_n (q := 4) dX7_extend_128 rfl rfl ?_
      refine JS_getI dX7_extend_129 flX7_98 BS_218 (Nat.le_of_ble_eq_true rfl) (Nat.le_of_ble_eq_true rfl) (Or.inl ct_7_11) ?_
      refine JT_icmp_ne (tgt := 153) dX7_extend_132 (by decide) (fun hc35 => ?_) (fun hc35 => ?_)
      · have h := h.1 hc35
        refine JT_iload (q := 2) dX7_extend_153 rfl ?_
        refine JT_iload (q := 9) dX7_extend_155 rfl ?_
        refine JS_callSNI (M' := MX11_isIn) (d' := 0) (As := [.int (gI s ((gDx s 0) + 2) ((gI s 222 (a6).toNatClampNeg)).toNatClampNeg), .int a5]) (rest := []) (P := (fun zv9 wm9 => (vX11_isIn (pI s 220 (a1).toNatClampNeg (gI s 222 (a6).toNatClampNeg)) (gI s ((gDx s 0) + 2) ((gI s 222 (a6).toNatClampNeg)).toNatClampNeg) a5) = zv9 ∧ (pI s 220 (a1).toNatClampNeg (gI s 222 (a6).toNatClampNeg)) = wm9)) dX7_extend_157 cvX7_122 okX11_isIn rfl (Nat.le_of_ble_eq_true rfl) (Nat.le_of_ble_eq_true rfl) (by show 0 + 1 ≤ e + 4; omega) (pX11_isIn  ((gI s ((gDx s 0) + 2) ((gI s 222 (a6).toNatClampNeg)).toNatClampNeg)) (a5)  ⟨rfl, rfl⟩) (fun zv9 wm9 hq9 => ?_)
        obtain ⟨rfl, rfl⟩ := hq9
        refine JT_if_ne (tgt := 187) dX7_extend_160 (by decide) (fun hc31 => ?_) (fun hc31 => ?_)
        · have h := h.1 hc31
          refine JT_iinc (q := 10) (v := (a6 + 1)) (lv' := [(6, .int (a6 + 1)), (10, .int (gI s 221 ((gI s 222 (a6).toNatClampNeg)).toNatClampNeg)), (9, .int (gI s ((gDx s 0) + 3) ((gI s 222 (a6).toNatClampNeg)).toNatClampNeg)), (8, .int (gI s ((gDx s 0) + 2) ((gI s 222 (a6).toNatClampNeg)).toNatClampNeg)), (7, .int (gI s 222 (a6).toNatClampNeg)), (0, .ref 218), (1, .int a1), (2, .int a2), (3, .int a3), (4, .int a4), (5, .int a5)]) dX7_extend_187 rfl (by rfl) (Nat.le_of_ble_eq_true rfl) rfl ?_
          refine JT_goto (tgt := 35) dX7_extend_190 (by decide) ?_
          exact JT_sub [5, 6, 7, 8, 9, 10, 0] rfl h
        · have h := h.2 hc31
          refine JT_aload_n (q := 4) dX7_extend_163 rfl rfl ?_
          refine JT_iload_n (q := 5) dX7_extend_164 rfl rfl ?_
          refine JT_iconst (v := 1) dX7_extend_165 ic_1 ?_
          refine JT_iadd dX7_extend_166 ?_
          refine JT_iload (q := 2) dX7_extend_167 rfl ?_
          refine JT_iload (q := 1) dX7_extend_169 rfl ?_
          refine JT_iload_n (q := 7) dX7_extend_171 rfl rfl ?_
          refine JT_mmin (d2 := e + 3) dX7_extend_172 mlX7_115 (Nat.le_of_ble_eq_true rfl) rfl ?_
          refine JT_iload (q := 0) dX7_extend_175 rfl ?_
          refine JT_iload (q := 9) dX7_extend_177 rfl ?_
          refine JT_iconst (v := 1) dX7_extend_179 ic_1 ?_
          refine JT_iload (q := 2) dX7_extend_180 rfl ?_
          refine JT_ishl dX7_extend_182 ?_
          refine JT_ior dX7_extend_183 ?_
          refine JS_callVV (M' := MX7_extend) (d' := e + 3) (As := [.int (a1 + (1 : Int32)), .int (gI s ((gDx s 0) + 2) ((gI s 222 (a6).toNatClampNeg)).toNatClampNeg), .int (if a3 < (gI s ((gDx s 0) + 3) ((gI s 222 (a6).toNatClampNeg)).toNatClampNeg) then a3 else (gI s ((gDx s 0) + 3) ((gI s 222 (a6).toNatClampNeg)).toNatClampNeg)), .int (gI s 221 ((gI s 222 (a6).toNatClampNeg)).toNatClampNeg), .int (a5 ||| ((1 : Int32) <<< ((gI s ((gDx s 0) + 2) ((gI s 222 (a6).toNatClampNeg)).toNatClampNeg) &&& 31)))]) (rest := []) dX7_extend_184 cvX7_107 okX7_extend rfl (Nat.le_of_ble_eq_true rfl) BS_218 (Nat.le_of_ble_eq_true rfl) (Nat.le_of_ble_eq_true rfl) hci_7 (Nat.le_of_ble_eq_true rfl) (by show e + 3 + 1 ≤ e + 4; omega) h (fun s29 h => ?_)
          refine JT_iinc (q := 10) (v := (a6 + 1)) (lv' := [(6, .int (a6 + 1)), (10, .int (gI s 221 ((gI s 222 (a6).toNatClampNeg)).toNatClampNeg)), (9, .int (gI s ((gDx s 0) + 3) ((gI s 222 (a6).toNatClampNeg)).toNatClampNeg)), (8, .int (gI s ((gDx s 0) + 2) ((gI s 222 (a6).toNatClampNeg)).toNatClampNeg)), (7, .int (gI s 222 (a6).toNatClampNeg)), (0, .ref 218), (1, .int a1), (2, .int a2), (3, .int a3), (4, .int a4), (5, .int a5)]) dX7_extend_187 rfl (by rfl) (Nat.le_of_ble_eq_true rfl) rfl ?_
          refine JT_goto (tgt := 35) dX7_extend_190 (by decide) ?_
          exact JT_sub [5, 6, 7, 8, 9, 10, 0] rfl h
      · have h := h.2 hc35
        refine JT_aload_n (q := 4) dX7_extend_135 rfl rfl ?_
        refine JT_iload_n (q := 5) dX7_extend_136 rfl rfl ?_
        refine JT_iconst (v := 1) dX7_extend_137 ic_1 ?_
        refine JT_iadd dX7_extend_138 ?_
        refine JT_iload (q := 1) dX7_extend_139 rfl ?_
        refine JT_iload_n (q := 7) dX7_extend_141 rfl rfl ?_
        refine JT_mmin (d2 := e + 3) dX7_extend_142 mlX7_115 (Nat.le_of_ble_eq_true rfl) rfl ?_
        refine JT_iload (q := 0) dX7_extend_145 rfl ?_
        refine JS_callVV (M' := MX7_offer) (d' := 1) (As := [.int (a1 + (1 : Int32)), .int (if a3 < (gI s ((gDx s 0) + 3) ((gI s 222 (a6).toNatClampNeg)).toNatClampNeg) then a3 else (gI s ((gDx s 0) + 3) ((gI s 222 (a6).toNatClampNeg)).toNatClampNeg)), .int (gI s 221 ((gI s 222 (a6).toNatClampNeg)).toNatClampNeg)]) (rest := []) (P := (fun wm9 => (mX7_offer (pI s 220 (a1).toNatClampNeg (gI s 222 (a6).toNatClampNeg)) (a1 + (1 : Int32)) (if a3 < (gI s ((gDx s 0) + 3) ((gI s 222 (a6).toNatClampNeg)).toNatClampNeg) then a3 else (gI s ((gDx s 0) + 3) ((gI s 222 (a6).toNatClampNeg)).toNatClampNeg)) (gI s 221 ((gI s 222 (a6).toNatClampNeg)).toNatClampNeg)) = wm9)) dX7_extend_147 cvX7_118 okX7_offer rfl (Nat.le_of_ble_eq_true rfl) BS_218 (Nat.le_of_ble_eq_true rfl) (Nat.le_of_ble_eq_true rfl) hci_7 (Nat.le_of_ble_eq_true rfl) (by show 1 + 1 ≤ e + 4; omega) (pX7_offer  ((a1 + (1 : Int32))) ((if a3 < (gI s ((gDx s 0) + 3) ((gI s 222 (a6).toNatClampNeg)).toNatClampNeg) then a3 else (gI s ((gDx s 0) + 3) ((gI s 222 (a6).toNatClampNeg)).toNatClampNeg))) ((gI s 221 ((gI s 222 (a6).toNatClampNeg)).toNatClampNeg))  rfl) (fun wm9 hq9 => ?_)
        subst hq9
        obtain ⟨s33, hs33⟩ : ∃ z, z = (mX7_offer (pI s 220 (a1).toNatClampNeg (gI s 222 (a6).toNatClampNeg)) (a1 + (1 : Int32)) (if a3 < (gI s ((gDx s 0) + 3) ((gI s 222 (a6).toNatClampNeg)).toNatClampNeg) then a3 else (gI s ((gDx s 0) + 3) ((gI s 222 (a6).toNatClampNeg)).toNatClampNeg)) (gI s 221 ((gI s 222 (a6).toNatClampNeg)).toNatClampNeg)) := ⟨_, rfl⟩
        replace h := h s33 hs33
        rw [← hs33]
        refine JT_goto (tgt := 187) dX7_extend_150 (by decide) ?_
        refine JT_iinc (q := 10) (v := (a6 + 1)) (lv' := [(6, .int (a6 + 1)), (10, .int (gI s 221 ((gI s 222 (a6).toNatClampNeg)).toNatClampNeg)), (9, .int (gI s ((gDx s 0) + 3) ((gI s 222 (a6).toNatClampNeg)).toNatClampNeg)), (8, .int (gI s ((gDx s 0) + 2) ((gI s 222 (a6).toNatClampNeg)).toNatClampNeg)), (7, .int (gI s 222 (a6).toNatClampNeg)), (0, .ref 218), (1, .int a1), (2, .int a2), (3, .int a3), (4, .int a4), (5, .int a5)]) dX7_extend_187 rfl (by rfl) (Nat.le_of_ble_eq_true rfl) rfl ?_
        refine JT_goto (tgt := 35) dX7_extend_190 (by decide) ?_
        exact JT_sub [5, 6, 7, 8, 9, 10, 0] rfl h
set_option maxRecDepth 1000000 in
theorem bX7_extend {e : Nat} (a1 : Int32) (a2 : Int32) (a3 : Int32) (a4 : Int32) (a5 : Int32) {s : SM} {Q : SM → Prop} (h : (((5 : Int32) ≤ a1 → Q s) ∧ (¬ (5 : Int32) ≤ a1 → ((¬ (vX7_isBetter s (a1 + (1 : Int32)) (a4 + (((5 : Int32) - a1) * (gI s 218 7)))) = 0 → vp_in a2 9 ∧ BV MX7_extend (e + 4) 35 [(0, .ref 218), (1, .int a1), (2, .int a2), (3, .int a3), (4, .int a4), (5, .int a5), (6, .int (gI s 223 (a2).toNatClampNeg))] s Q) ∧ ((vX7_isBetter s (a1 + (1 : Int32)) (a4 + (((5 : Int32) - a1) * (gI s 218 7)))) = 0 → Q s))))) : KV MX7_extend (e + 4) [.ref 218, .int a1, .int a2, .int a3, .int a4, .int a5] s Q := by
  show BV MX7_extend (e + 4) 0 [(0, .ref 218), (1, .int a1), (2, .int a2), (3, .int a3), (4, .int a4), (5, .int a5)] s Q
  refine JT_iload_n (q := 1) dX7_extend_0 rfl rfl ?_
  refine JT_iconst (v := 5) dX7_extend_1 ic_5 ?_
  refine JT_icmp_ge (tgt := 26) dX7_extend_2 (by decide) (fun hc4 => ?_) (fun hc4 => ?_)
  · have h := h.1 hc4
    exact JS_vret dX7_extend_26 rfl h
  · have h := h.2 hc4
    refine JT_aload_n (q := 0) dX7_extend_5 rfl rfl ?_
    refine JT_iload_n (q := 1) dX7_extend_6 rfl rfl ?_
    refine JT_iconst (v := 1) dX7_extend_7 ic_1 ?_
    refine JT_iadd dX7_extend_8 ?_
    refine JT_iload (q := 4) dX7_extend_9 rfl ?_
    refine JT_iconst (v := 5) dX7_extend_11 ic_5 ?_
    refine JT_iload_n (q := 1) dX7_extend_12 rfl rfl ?_
    refine JT_isub dX7_extend_13 ?_
    refine JT_aload_n (q := 0) dX7_extend_14 rfl rfl ?_
    refine JS_getI dX7_extend_15 flX7_85 BS_218 (Nat.le_of_ble_eq_true rfl) (Nat.le_of_ble_eq_true rfl) (Or.inl ct_7_7) ?_
    refine JT_imul dX7_extend_18 ?_
    refine JT_iadd dX7_extend_19 ?_
    refine JS_callVI (M' := MX7_isBetter) (d' := 0) (As := [.int (a1 + (1 : Int32)), .int (a4 + (((5 : Int32) - a1) * (gI s 218 7)))]) (rest := []) (P := (fun zv9 wm9 => (vX7_isBetter s (a1 + (1 : Int32)) (a4 + (((5 : Int32) - a1) * (gI s 218 7)))) = zv9 ∧ s = wm9)) dX7_extend_20 cvX7_111 okX7_isBetter rfl (Nat.le_of_ble_eq_true rfl) BS_218 (Nat.le_of_ble_eq_true rfl) (Nat.le_of_ble_eq_true rfl) hci_7 (Nat.le_of_ble_eq_true rfl) (by show 0 + 1 ≤ e + 4; omega) (pX7_isBetter  ((a1 + (1 : Int32))) ((a4 + (((5 : Int32) - a1) * (gI s 218 7))))  ⟨rfl, rfl⟩) (fun zv9 wm9 hq9 => ?_)
    obtain ⟨rfl, rfl⟩ := hq9
    refine JT_if_ne (tgt := 27) dX7_extend_23 (by decide) (fun hc2 => ?_) (fun hc2 => ?_)
    · have h := h.1 hc2
      refine JT_aload_n (q := 0) dX7_extend_27 rfl rfl ?_
      refine JS_getR (x := 223) dX7_extend_28 flX7_24 BS_218 (Nat.le_of_ble_eq_true rfl) (Nat.le_of_ble_eq_true rfl) (Or.inr ⟨_, ct_7_9⟩) RF_218_9 ?_
      refine JT_iload_n (q := 2) dX7_extend_31 rfl rfl ?_
      obtain ⟨o1, h⟩ := h
      refine JS_iald dX7_extend_32 BS_223 (Nat.le_of_ble_eq_true rfl) (Nat.le_of_ble_eq_true rfl) o1 ?_
      refine JT_istore (lv' := [(6, .int (gI s 223 (a2).toNatClampNeg)), (0, .ref 218), (1, .int a1), (2, .int a2), (3, .int a3), (4, .int a4), (5, .int a5)]) dX7_extend_33 (Nat.le_of_ble_eq_true rfl) rfl ?_
      exact JT_sub [1, 2, 3, 4, 5, 6, 0] rfl h
    · have h := h.2 hc2
      exact JS_vret dX7_extend_26 rfl h
set_option maxRecDepth 1000000 in
theorem gX7_extend : ∀ n : Nat, ∀ e : Nat, n ≤ e → (∀ (a1 : Int32) (a2 : Int32) (a3 : Int32) (a4 : Int32) (a5 : Int32) (a6 : Int32) (s : SM) (Q : SM → Prop), (qX7_extend n).1 s a1 a2 a3 a4 a5 a6 → Q ((lX7_extend n).1 s a1 a2 a3 a4 a5 a6) → BV MX7_extend (e + 4) 35 [(0, .ref 218), (1, .int a1), (2, .int a2), (3, .int a3), (4, .int a4), (5, .int a5), (6, .int a6)] s Q) ∧ (∀ (a1 : Int32) (a2 : Int32) (a3 : Int32) (a4 : Int32) (a5 : Int32) (s : SM) (Q : SM → Prop), (qX7_extend n).2 s a1 a2 a3 a4 a5 → Q ((lX7_extend n).2 s a1 a2 a3 a4 a5) → KV MX7_extend (e + 4) [.ref 218, .int a1, .int a2, .int a3, .int a4, .int a5] s Q) := by
  intro n
  induction n with
  | zero =>
    intro e _
    exact ⟨fun _ _ _ _ _ _ _ _ hq _ => absurd hq id, fun _ _ _ _ _ _ _ hq _ => absurd hq id⟩
  | succ n ih =>
    intro e he
    obtain ⟨e, rfl⟩ : ∃ e9, e = e9 + 1 := ⟨e - 1, by omega⟩
    have ihs := ih e (by omega)
    have ihl := ih (e + 1) (by omega)
    refine ⟨?_, ?_⟩
    · intro a1 a2 a3 a4 a5 a6 s Q hr h
      replace hr : uX7_extend_35 (lX7_extend n) (qX7_extend n) s a1 a2 a3 a4 a5 a6 := hr
      replace h : Q (tX7_extend_35 (lX7_extend n) s a1 a2 a3 a4 a5 a6) := h
      unfold uX7_extend_35 at hr
      unfold tX7_extend_35 at h
      refine bX7_extend_35 (e := e + 1) a1 a2 a3 a4 a5 a6 ?_
      refine ⟨hr.1, ?_⟩
      replace hr := hr.2
      refine ⟨fun c => ?_, fun c => ?_⟩
      · replace h := q1p c h
        first | exact h | contradiction
      · replace hr := hr c
        replace h := q1n c h
        refine ⟨hr.1, ?_⟩
        replace hr := hr.2
        refine ⟨hr.1, ?_⟩
        replace hr := hr.2
        refine ⟨hr.1, ?_⟩
        replace hr := hr.2
        refine ⟨hr.1, ?_⟩
        replace hr := hr.2
        refine ⟨hr.1, ?_⟩
        replace hr := hr.2
        refine ⟨hr.1, ?_⟩
        replace hr := hr.2
        refine ⟨hr.1, ?_⟩
        replace hr := hr.2
        refine ⟨fun c => ?_, fun c => ?_⟩
        · replace hr := hr.1 c
          replace h := q1p c h
          refine ⟨fun c => ?_, fun c => ?_⟩
          · replace hr := hr.1 c
            replace h := q1n c h
            refine ⟨hr.1, ?_⟩
            replace hr := hr.2
            refine ⟨fun c => ?_, fun c => ?_⟩
            · replace hr := hr.1 c
              replace h := q1n c h
              refine ⟨fun c => ?_, fun c => ?_⟩
              · replace hr := hr.1 c
                replace h := q1n c h
                first | exact ihl.1 a1 a2 a3 a4 a5 (a6 + 1) _ Q hr h | contradiction
              · replace hr := hr.2 c
                replace h := q1p c h
                refine ihs.2 (a1 + (1 : Int32)) (gI s ((gDx s 0) + 2) ((gI s 222 (a6).toNatClampNeg)).toNatClampNeg) (if a3 < (gI s ((gDx s 0) + 3) ((gI s 222 (a6).toNatClampNeg)).toNatClampNeg) then a3 else (gI s ((gDx s 0) + 3) ((gI s 222 (a6).toNatClampNeg)).toNatClampNeg)) a4 (a5 ||| ((1 : Int32) <<< ((gI s ((gDx s 0) + 2) ((gI s 222 (a6).toNatClampNeg)).toNatClampNeg) &&& 31))) _ _ hr.1 ?_
                replace hr := hr.2 _ rfl
                try dsimp only at h
                first | exact ihl.1 a1 a2 a3 a4 a5 (a6 + 1) _ Q hr h | contradiction
            · replace hr := hr.2 c
              replace h := q1p c h
              intro s14 e9
              replace hr := hr s14 e9
              try rw [← e9] at h
              try dsimp only at h
              first | exact ihl.1 a1 a2 a3 a4 a5 (a6 + 1) _ Q hr h | contradiction
          · replace hr := hr.2 c
            replace h := q1p c h
            refine ⟨hr.1, ?_⟩
            replace hr := hr.2
            refine ⟨hr.1, ?_⟩
            replace hr := hr.2
            refine ⟨fun c => ?_, fun c => ?_⟩
            · replace hr := hr.1 c
              replace h := q1n c h
              refine ⟨fun c => ?_, fun c => ?_⟩
              · replace hr := hr.1 c
                replace h := q1n c h
                first | exact ihl.1 a1 a2 a3 a4 a5 (a6 + 1) _ Q hr h | contradiction
              · replace hr := hr.2 c
                replace h := q1p c h
                refine ihs.2 (a1 + (1 : Int32)) (gI s ((gDx s 0) + 2) ((gI s 222 (a6).toNatClampNeg)).toNatClampNeg) (if a3 < (gI s ((gDx s 0) + 3) ((gI s 222 (a6).toNatClampNeg)).toNatClampNeg) then a3 else (gI s ((gDx s 0) + 3) ((gI s 222 (a6).toNatClampNeg)).toNatClampNeg)) (a4 + (gI s 221 ((gI s 222 (a6).toNatClampNeg)).toNatClampNeg)) (a5 ||| ((1 : Int32) <<< ((gI s ((gDx s 0) + 2) ((gI s 222 (a6).toNatClampNeg)).toNatClampNeg) &&& 31))) _ _ hr.1 ?_
                replace hr := hr.2 _ rfl
                try dsimp only at h
                first | exact ihl.1 a1 a2 a3 a4 a5 (a6 + 1) _ Q hr h | contradiction
            · replace hr := hr.2 c
              replace h := q1p c h
              intro s23 e9
              replace hr := hr s23 e9
              try rw [← e9] at h
              try dsimp only at h
              first | exact ihl.1 a1 a2 a3 a4 a5 (a6 + 1) _ Q hr h | contradiction
        · replace hr := hr.2 c
          replace h := q1n c h
          refine ⟨hr.1, ?_⟩
          replace hr := hr.2
          refine ⟨hr.1, ?_⟩
          replace hr := hr.2
          refine ⟨fun c => ?_, fun c => ?_⟩
          · replace hr := hr.1 c
            replace h := q1n c h
            refine ⟨fun c => ?_, fun c => ?_⟩
            · replace hr := hr.1 c
              replace h := q1n c h
              first | exact ihl.1 a1 a2 a3 a4 a5 (a6 + 1) _ Q hr h | contradiction
            · replace hr := hr.2 c
              replace h := q1p c h
              refine ihs.2 (a1 + (1 : Int32)) (gI s ((gDx s 0) + 2) ((gI s 222 (a6).toNatClampNeg)).toNatClampNeg) (if a3 < (gI s ((gDx s 0) + 3) ((gI s 222 (a6).toNatClampNeg)).toNatClampNeg) then a3 else (gI s ((gDx s 0) + 3) ((gI s 222 (a6).toNatClampNeg)).toNatClampNeg)) (gI s 221 ((gI s 222 (a6).toNatClampNeg)).toNatClampNeg) (a5 ||| ((1 : Int32) <<< ((gI s ((gDx s 0) + 2) ((gI s 222 (a6).toNatClampNeg)).toNatClampNeg) &&& 31))) _ _ hr.1 ?_
              replace hr := hr.2 _ rfl
              try dsimp only at h
              first | exact ihl.1 a1 a2 a3 a4 a5 (a6 + 1) _ Q hr h | contradiction
          · replace hr := hr.2 c
            replace h := q1p c h
            intro s33 e9
            replace hr := hr s33 e9
            try rw [← e9] at h
            try dsimp only at h
            first | exact ihl.1 a1 a2 a3 a4 a5 (a6 + 1) _ Q hr h | contradiction
    · intro a1 a2 a3 a4 a5 s Q hr h
      replace hr : uX7_extend_e (lX7_extend n) (qX7_extend n) s a1 a2 a3 a4 a5 := hr
      replace h : Q (tX7_extend_e (lX7_extend n) s a1 a2 a3 a4 a5) := h
      unfold uX7_extend_e at hr
      unfold tX7_extend_e at h
      refine bX7_extend (e := e + 1) a1 a2 a3 a4 a5 ?_
      refine ⟨fun c => ?_, fun c => ?_⟩
      · replace h := q1p c h
        first | exact h | contradiction
      · replace hr := hr c
        replace h := q1n c h
        refine ⟨fun c => ?_, fun c => ?_⟩
        · replace hr := hr c
          replace h := q1n c h
          refine ⟨hr.1, ?_⟩
          replace hr := hr.2
          first | exact ihl.1 a1 a2 a3 a4 a5 (gI s 223 (a2).toNatClampNeg) _ Q hr h | contradiction
        · replace h := q1p c h
          first | exact h | contradiction
set_option maxRecDepth 1000000 in
theorem pX7_extend (a1 : Int32) (a2 : Int32) (a3 : Int32) (a4 : Int32) (a5 : Int32) {s : SM} {Q : SM → Prop} (hr : rX7_extend s a1 a2 a3 a4 a5) (h : Q (mX7_extend s a1 a2 a3 a4 a5)) : KV MX7_extend 404 [.ref 218, .int a1, .int a2, .int a3, .int a4, .int a5] s Q := (gX7_extend 400 400 (Nat.le_refl _)).2 a1 a2 a3 a4 a5 s Q hr h
set_option maxRecDepth 1000000 in
theorem bX7_start (a1 : Int32) {s : SM} {Q : SM → Prop} (h : gD s 0 = some (gDx s 0) ∧ ((gDx s 0), rfx (gDx s 0) 8) ∈ LX ∧ vp_in a1 60 ∧ gD (pI (pI s 218 11 (gI s ((gDx s 0) + 1) (a1).toNatClampNeg)) 220 ((0 : Int32)).toNatClampNeg a1) 0 = some (gDx (pI (pI s 218 11 (gI s ((gDx s 0) + 1) (a1).toNatClampNeg)) 220 ((0 : Int32)).toNatClampNeg a1) 0) ∧ ((gDx (pI (pI s 218 11 (gI s ((gDx s 0) + 1) (a1).toNatClampNeg)) 220 ((0 : Int32)).toNatClampNeg a1) 0), rfx (gDx (pI (pI s 218 11 (gI s ((gDx s 0) + 1) (a1).toNatClampNeg)) 220 ((0 : Int32)).toNatClampNeg a1) 0) 8) ∈ LX ∧ vp_in a1 60 ∧ gD (pI (pI s 218 11 (gI s ((gDx s 0) + 1) (a1).toNatClampNeg)) 220 ((0 : Int32)).toNatClampNeg a1) 0 = some (gDx (pI (pI s 218 11 (gI s ((gDx s 0) + 1) (a1).toNatClampNeg)) 220 ((0 : Int32)).toNatClampNeg a1) 0) ∧ ((gDx (pI (pI s 218 11 (gI s ((gDx s 0) + 1) (a1).toNatClampNeg)) 220 ((0 : Int32)).toNatClampNeg a1) 0), rfx (gDx (pI (pI s 218 11 (gI s ((gDx s 0) + 1) (a1).toNatClampNeg)) 220 ((0 : Int32)).toNatClampNeg a1) 0) 8) ∈ LX ∧ vp_in a1 60 ∧ vp_in a1 60 ∧ rX7_extend (pI (pI s 218 11 (gI s ((gDx s 0) + 1) (a1).toNatClampNeg)) 220 ((0 : Int32)).toNatClampNeg a1) (1 : Int32) (gI (pI (pI s 218 11 (gI s ((gDx s 0) + 1) (a1).toNatClampNeg)) 220 ((0 : Int32)).toNatClampNeg a1) ((gDx (pI (pI s 218 11 (gI s ((gDx s 0) + 1) (a1).toNatClampNeg)) 220 ((0 : Int32)).toNatClampNeg a1) 0) + 2) (a1).toNatClampNeg) (gI (pI (pI s 218 11 (gI s ((gDx s 0) + 1) (a1).toNatClampNeg)) 220 ((0 : Int32)).toNatClampNeg a1) ((gDx (pI (pI s 218 11 (gI s ((gDx s 0) + 1) (a1).toNatClampNeg)) 220 ((0 : Int32)).toNatClampNeg a1) 0) + 3) (a1).toNatClampNeg) (gI (pI (pI s 218 11 (gI s ((gDx s 0) + 1) (a1).toNatClampNeg)) 220 ((0 : Int32)).toNatClampNeg a1) 221 (a1).toNatClampNeg) (((1 : Int32) <<< ((gI (pI (pI s 218 11 (gI s ((gDx s 0) + 1) (a1).toNatClampNeg)) 220 ((0 : Int32)).toNatClampNeg a1) 218 11) &&& 31)) ||| ((1 : Int32) <<< ((gI (pI (pI s 218 11 (gI s ((gDx s 0) + 1) (a1).toNatClampNeg)) 220 ((0 : Int32)).toNatClampNeg a1) ((gDx (pI (pI s 218 11 (gI s ((gDx s 0) + 1) (a1).toNatClampNeg)) 220 ((0 : Int32)).toNatClampNeg a1) 0) + 2) (a1).toNatClampNeg) &&& 31))) ∧ (∀ s11, s11 = (mX7_extend (pI (pI s 218 11 (gI s ((gDx s 0) + 1) (a1).toNatClampNeg)) 220 ((0 : Int32)).toNatClampNeg a1) (1 : Int32) (gI (pI (pI s 218 11 (gI s ((gDx s 0) + 1) (a1).toNatClampNeg)) 220 ((0 : Int32)).toNatClampNeg a1) ((gDx (pI (pI s 218 11 (gI s ((gDx s 0) + 1) (a1).toNatClampNeg)) 220 ((0 : Int32)).toNatClampNeg a1) 0) + 2) (a1).toNatClampNeg) (gI (pI (pI s 218 11 (gI s ((gDx s 0) + 1) (a1).toNatClampNeg)) 220 ((0 : Int32)).toNatClampNeg a1) ((gDx (pI (pI s 218 11 (gI s ((gDx s 0) + 1) (a1).toNatClampNeg)) 220 ((0 : Int32)).toNatClampNeg a1) 0) + 3) (a1).toNatClampNeg) (gI (pI (pI s 218 11 (gI s ((gDx s 0) + 1) (a1).toNatClampNeg)) 220 ((0 : Int32)).toNatClampNeg a1) 221 (a1).toNatClampNeg) (((1 : Int32) <<< ((gI (pI (pI s 218 11 (gI s ((gDx s 0) + 1) (a1).toNatClampNeg)) 220 ((0 : Int32)).toNatClampNeg a1) 218 11) &&& 31)) ||| ((1 : Int32) <<< ((gI (pI (pI s 218 11 (gI s ((gDx s 0) + 1) (a1).toNatClampNeg)) 220 ((0 : Int32)).toNatClampNeg a1) ((gDx (pI (pI s 218 11 (gI s ((gDx s 0) + 1) (a1).toNatClampNeg)) 220 ((0 : Int32)).toNatClampNeg a1) 0) + 2) (a1).toNatClampNeg) &&& 31)))) → Q s11)) : KV MX7_start 405 [.ref 218, .int a1] s Q := by
  show BV MX7_start 405 0 [(0, .ref 218), (1, .int a1)] s Q
  refine JT_aload_n (q := 0) dX7_start_0 rfl rfl ?_
  refine JT_aload_n (q := 0) dX7_start_1 rfl rfl ?_
  obtain ⟨hr1, hL2, h⟩ := h
  refine JS_getR (x := (gDx s 0)) dX7_start_2 flX7_40 BS_218 (Nat.le_of_ble_eq_true rfl) (Nat.le_of_ble_eq_true rfl) (Or.inl ⟨_, ct_7_4⟩) (RF_218_4.trans hr1) ?_
  refine JS_getR (x := ((gDx s 0) + 1)) dX7_start_5 flX7_58 (lxB hL2) (lx2 hL2) (lxN hL2) (Or.inr ⟨_, ct_4_0⟩) (lxR0 hL2) ?_
  refine JT_iload_n (q := 1) dX7_start_8 rfl rfl ?_
  obtain ⟨o3, h⟩ := h
  refine JS_iald dX7_start_9 (lxB1 hL2) (lx2k hL2 _) (lxNk hL2 (Nat.le_of_ble_eq_true rfl)) o3 ?_
  refine JS_putI dX7_start_10 flX7_98 BS_218 (Nat.le_of_ble_eq_true rfl) (Nat.le_of_ble_eq_true rfl) ct_7_11 ?_
  refine JT_aload_n (q := 0) dX7_start_13 rfl rfl ?_
  refine JS_getR (x := 220) dX7_start_14 flX7_15 BS_218 (Nat.le_of_ble_eq_true rfl) (Nat.le_of_ble_eq_true rfl) (Or.inr ⟨_, ct_7_5⟩) RF_218_5 ?_
  refine JT_iconst (v := 0) dX7_start_17 ic_0 ?_
  refine JT_iload_n (q := 1) dX7_start_18 rfl rfl ?_
  refine JS_iast dX7_start_19 BS_220 (Nat.le_of_ble_eq_true rfl) (Nat.le_of_ble_eq_true rfl) (by unfold vp_in; decide) ?_
  refine JT_aload_n (q := 0) dX7_start_20 rfl rfl ?_
  obtain ⟨hr4, hL5, h⟩ := h
  refine JS_getR (x := (gDx (pI (pI s 218 11 (gI s ((gDx s 0) + 1) (a1).toNatClampNeg)) 220 ((0 : Int32)).toNatClampNeg a1) 0)) dX7_start_21 flX7_40 BS_218 (Nat.le_of_ble_eq_true rfl) (Nat.le_of_ble_eq_true rfl) (Or.inl ⟨_, ct_7_4⟩) (RF_218_4.trans hr4) ?_
  refine JS_getR (x := ((gDx (pI (pI s 218 11 (gI s ((gDx s 0) + 1) (a1).toNatClampNeg)) 220 ((0 : Int32)).toNatClampNeg a1) 0) + 2)) dX7_start_24 flX7_101 (lxB hL5) (lx2 hL5) (lxN hL5) (Or.inr ⟨_, ct_4_1⟩) (lxR1 hL5) ?_
  refine JT_iload_n (q := 1) dX7_start_27 rfl rfl ?_
  obtain ⟨o6, h⟩ := h
  refine JS_iald dX7_start_28 (lxB2 hL5) (lx2k hL5 _) (lxNk hL5 (Nat.le_of_ble_eq_true rfl)) o6 ?_
  refine JT_istore_n (lv' := [(2, .int (gI (pI (pI s 218 11 (gI s ((gDx s 0) + 1) (a1).toNatClampNeg)) 220 ((0 : Int32)).toNatClampNeg a1) ((gDx (pI (pI s 218 11 (gI s ((gDx s 0) + 1) (a1).toNatClampNeg)) 220 ((0 : Int32)).toNatClampNeg a1) 0) + 2) (a1).toNatClampNeg)), (0, .ref 218), (1, .int a1)]) dX7_start_29 rfl (Nat.le_of_ble_eq_true rfl) rfl ?_
  refine JT_aload_n (q := 1) dX7_start_30 rfl rfl ?_
  refine JT_iconst (v := 1) dX7_start_31 ic_1 ?_
  refine JT_iload_n (q := 0) dX7_start_32 rfl rfl ?_
  refine JT_aload_n (q := 1) dX7_start_33 rfl rfl ?_
  obtain ⟨hr7, hL8, h⟩ := h
  refine JS_getR (x := (gDx (pI (pI s 218 11 (gI s ((gDx s 0) + 1) (a1).toNatClampNeg)) 220 ((0 : Int32)).toNatClampNeg a1) 0)) dX7_start_34 flX7_40 BS_218 (Nat.le_of_ble_eq_true rfl) (Nat.le_of_ble_eq_true rfl) (Or.inl ⟨_, ct_7_4⟩) (RF_218_4.trans hr7) ?_
  refine JS_getR (x := ((gDx (pI (pI s 218 11 (gI s ((gDx s 0) + 1) (a1).toNatClampNeg)) 220 ((0 : Int32)).toNatClampNeg a1) 0) + 3)) dX7_start_37 flX7_104 (lxB hL8) (lx2 hL8) (lxN hL8) (Or.inr ⟨_, ct_4_2⟩) (lxR2 hL8) ?_
  refine JT_iload_n (q := 2) dX7_start_40 rfl rfl ?_
  obtain ⟨o9, h⟩ := h
  refine JS_iald dX7_start_41 (lxB3 hL8) (lx2k hL8 _) (lxNk hL8 (Nat.le_of_ble_eq_true rfl)) o9 ?_
  refine JT_aload_n (q := 1) dX7_start_42 rfl rfl ?_
  refine JS_getR (x := 221) dX7_start_43 flX7_18 BS_218 (Nat.le_of_ble_eq_true rfl) (Nat.le_of_ble_eq_true rfl) (Or.inr ⟨_, ct_7_6⟩) RF_218_6 ?_
  refine JT_iload_n (q := 2) dX7_start_46 rfl rfl ?_
  obtain ⟨o10, h⟩ := h
  refine JS_iald dX7_start_47 BS_221 (Nat.le_of_ble_eq_true rfl) (Nat.le_of_ble_eq_true rfl) o10 ?_
  refine JT_iconst (v := 1) dX7_start_48 ic_1 ?_
  refine JT_aload_n (q := 1) dX7_start_49 rfl rfl ?_
  refine JS_getI dX7_start_50 flX7_98 BS_218 (Nat.le_of_ble_eq_true rfl) (Nat.le_of_ble_eq_true rfl) (Or.inl ct_7_11) ?_
  refine JT_ishl dX7_start_53 ?_
  refine JT_iconst (v := 1) dX7_start_54 ic_1 ?_
  refine JT_iload_n (q := 0) dX7_start_55 rfl rfl ?_
  refine JT_ishl dX7_start_56 ?_
  refine JT_ior dX7_start_57 ?_
  obtain ⟨o12, h⟩ := h
  refine JS_callVV (M' := MX7_extend) (d' := 404) (As := [.int (1 : Int32), .int (gI (pI (pI s 218 11 (gI s ((gDx s 0) + 1) (a1).toNatClampNeg)) 220 ((0 : Int32)).toNatClampNeg a1) ((gDx (pI (pI s 218 11 (gI s ((gDx s 0) + 1) (a1).toNatClampNeg)) 220 ((0 : Int32)).toNatClampNeg a1) 0) + 2) (a1).toNatClampNeg), .int (gI (pI (pI s 218 11 (gI s ((gDx s 0) + 1) (a1).toNatClampNeg)) 220 ((0 : Int32)).toNatClampNeg a1) ((gDx (pI (pI s 218 11 (gI s ((gDx s 0) + 1) (a1).toNatClampNeg)) 220 ((0 : Int32)).toNatClampNeg a1) 0) + 3) (a1).toNatClampNeg), .int (gI (pI (pI s 218 11 (gI s ((gDx s 0) + 1) (a1).toNatClampNeg)) 220 ((0 : Int32)).toNatClampNeg a1) 221 (a1).toNatClampNeg), .int (((1 : Int32) <<< ((gI (pI (pI s 218 11 (gI s ((gDx s 0) + 1) (a1).toNatClampNeg)) 220 ((0 : Int32)).toNatClampNeg a1) 218 11) &&& 31)) ||| ((1 : Int32) <<< ((gI (pI (pI s 218 11 (gI s ((gDx s 0) + 1) (a1).toNatClampNeg)) 220 ((0 : Int32)).toNatClampNeg a1) ((gDx (pI (pI s 218 11 (gI s ((gDx s 0) + 1) (a1).toNatClampNeg)) 220 ((0 : Int32)).toNatClampNeg a1) 0) + 2) (a1).toNatClampNeg) &&& 31)))]) (rest := []) (P := (fun wm9 => (mX7_extend (pI (pI s 218 11 (gI s ((gDx s 0) + 1) (a1).toNatClampNeg)) 220 ((0 : Int32)).toNatClampNeg a1) (1 : Int32) (gI (pI (pI s 218 11 (gI s ((gDx s 0) + 1) (a1).toNatClampNeg)) 220 ((0 : Int32)).toNatClampNeg a1) ((gDx (pI (pI s 218 11 (gI s ((gDx s 0) + 1) (a1).toNatClampNeg)) 220 ((0 : Int32)).toNatClampNeg a1) 0) + 2) (a1).toNatClampNeg) (gI (pI (pI s 218 11 (gI s ((gDx s 0) + 1) (a1).toNatClampNeg)) 220 ((0 : Int32)).toNatClampNeg a1) ((gDx (pI (pI s 218 11 (gI s ((gDx s 0) + 1) (a1).toNatClampNeg)) 220 ((0 : Int32)).toNatClampNeg a1) 0) + 3) (a1).toNatClampNeg) (gI (pI (pI s 218 11 (gI s ((gDx s 0) + 1) (a1).toNatClampNeg)) 220 ((0 : Int32)).toNatClampNeg a1) 221 (a1).toNatClampNeg) (((1 : Int32) <<< ((gI (pI (pI s 218 11 (gI s ((gDx s 0) + 1) (a1).toNatClampNeg)) 220 ((0 : Int32)).toNatClampNeg a1) 218 11) &&& 31)) ||| ((1 : Int32) <<< ((gI (pI (pI s 218 11 (gI s ((gDx s 0) + 1) (a1).toNatClampNeg)) 220 ((0 : Int32)).toNatClampNeg a1) ((gDx (pI (pI s 218 11 (gI s ((gDx s 0) + 1) (a1).toNatClampNeg)) 220 ((0 : Int32)).toNatClampNeg a1) 0) + 2) (a1).toNatClampNeg) &&& 31)))) = wm9)) dX7_start_58 cvX7_107 okX7_extend rfl (Nat.le_of_ble_eq_true rfl) BS_218 (Nat.le_of_ble_eq_true rfl) (Nat.le_of_ble_eq_true rfl) hci_7 (Nat.le_of_ble_eq_true rfl) (Nat.le_of_ble_eq_true rfl) (pX7_extend  ((1 : Int32)) ((gI (pI (pI s 218 11 (gI s ((gDx s 0) + 1) (a1).toNatClampNeg)) 220 ((0 : Int32)).toNatClampNeg a1) ((gDx (pI (pI s 218 11 (gI s ((gDx s 0) + 1) (a1).toNatClampNeg)) 220 ((0 : Int32)).toNatClampNeg a1) 0) + 2) (a1).toNatClampNeg)) ((gI (pI (pI s 218 11 (gI s ((gDx s 0) + 1) (a1).toNatClampNeg)) 220 ((0 : Int32)).toNatClampNeg a1) ((gDx (pI (pI s 218 11 (gI s ((gDx s 0) + 1) (a1).toNatClampNeg)) 220 ((0 : Int32)).toNatClampNeg a1) 0) + 3) (a1).toNatClampNeg)) ((gI (pI (pI s 218 11 (gI s ((gDx s 0) + 1) (a1).toNatClampNeg)) 220 ((0 : Int32)).toNatClampNeg a1) 221 (a1).toNatClampNeg)) ((((1 : Int32) <<< ((gI (pI (pI s 218 11 (gI s ((gDx s 0) + 1) (a1).toNatClampNeg)) 220 ((0 : Int32)).toNatClampNeg a1) 218 11) &&& 31)) ||| ((1 : Int32) <<< ((gI (pI (pI s 218 11 (gI s ((gDx s 0) + 1) (a1).toNatClampNeg)) 220 ((0 : Int32)).toNatClampNeg a1) ((gDx (pI (pI s 218 11 (gI s ((gDx s 0) + 1) (a1).toNatClampNeg)) 220 ((0 : Int32)).toNatClampNeg a1) 0) + 2) (a1).toNatClampNeg) &&& 31)))) o12 rfl) (fun wm9 hq9 => ?_)
  subst hq9
  obtain ⟨s11, hs11⟩ : ∃ z, z = (mX7_extend (pI (pI s 218 11 (gI s ((gDx s 0) + 1) (a1).toNatClampNeg)) 220 ((0 : Int32)).toNatClampNeg a1) (1 : Int32) (gI (pI (pI s 218 11 (gI s ((gDx s 0) + 1) (a1).toNatClampNeg)) 220 ((0 : Int32)).toNatClampNeg a1) ((gDx (pI (pI s 218 11 (gI s ((gDx s 0) + 1) (a1).toNatClampNeg)) 220 ((0 : Int32)).toNatClampNeg a1) 0) + 2) (a1).toNatClampNeg) (gI (pI (pI s 218 11 (gI s ((gDx s 0) + 1) (a1).toNatClampNeg)) 220 ((0 : Int32)).toNatClampNeg a1) ((gDx (pI (pI s 218 11 (gI s ((gDx s 0) + 1) (a1).toNatClampNeg)) 220 ((0 : Int32)).toNatClampNeg a1) 0) + 3) (a1).toNatClampNeg) (gI (pI (pI s 218 11 (gI s ((gDx s 0) + 1) (a1).toNatClampNeg)) 220 ((0 : Int32)).toNatClampNeg a1) 221 (a1).toNatClampNeg) (((1 : Int32) <<< ((gI (pI (pI s 218 11 (gI s ((gDx s 0) + 1) (a1).toNatClampNeg)) 220 ((0 : Int32)).toNatClampNeg a1) 218 11) &&& 31)) ||| ((1 : Int32) <<< ((gI (pI (pI s 218 11 (gI s ((gDx s 0) + 1) (a1).toNatClampNeg)) 220 ((0 : Int32)).toNatClampNeg a1) ((gDx (pI (pI s 218 11 (gI s ((gDx s 0) + 1) (a1).toNatClampNeg)) 220 ((0 : Int32)).toNatClampNeg a1) 0) + 2) (a1).toNatClampNeg) &&& 31)))) := ⟨_, rfl⟩
  replace h := h s11 hs11
  rw [← hs11]
  exact JS_vret dX7_start_61 rfl h
set_option maxRecDepth 1000000 in
theorem pX7_start (a1 : Int32) {s : SM} {Q : SM → Prop} (hr : rX7_start s a1) (h : Q (mX7_start s a1)) : KV MX7_start 405 [.ref 218, .int a1] s Q := by
  refine bX7_start a1 ?_
  unfold rX7_start at hr
  unfold mX7_start at h
  refine ⟨hr.1, ?_⟩
  replace hr := hr.2
  refine ⟨hr.1, ?_⟩
  replace hr := hr.2
  refine ⟨hr.1, ?_⟩
  replace hr := hr.2
  refine ⟨hr.1, ?_⟩
  replace hr := hr.2
  refine ⟨hr.1, ?_⟩
  replace hr := hr.2
  refine ⟨hr.1, ?_⟩
  replace hr := hr.2
  refine ⟨hr.1, ?_⟩
  replace hr := hr.2
  refine ⟨hr.1, ?_⟩
  replace hr := hr.2
  refine ⟨hr.1, ?_⟩
  replace hr := hr.2
  refine ⟨hr.1, ?_⟩
  replace hr := hr.2
  refine ⟨hr, ?_⟩
  intro s11 e9
  try rw [← e9] at h
  try dsimp only at h
  first | exact h | contradiction
set_option maxRecDepth 1000000 in
theorem bX7_findBest_30 {L1 P1 : Nat} (hL1 : (L1, P1) ∈ LX) (a2 : Int32) {s : SM} {Q : Int32 → SM → Prop} (h : ((a2 < 0 → Q (if (gI s 218 1) ≤ 0 then (0 : Int32) else (1 : Int32)) s) ∧ (¬ a2 < 0 → rX7_mayBeIn s a2 ∧ (((vX7_mayBeIn s a2) = 0 → BI MX7_findBest 406 30 [(0, .ref 218), (1, .ref L1), (2, .int (a2 + (-1)))] s Q) ∧ (¬ (vX7_mayBeIn s a2) = 0 → rX7_start s a2 ∧ gD (mX7_start s a2) 0 = some (gDx (mX7_start s a2) 0) ∧ ((gDx (mX7_start s a2) 0), rfx (gDx (mX7_start s a2) 0) 8) ∈ LX ∧ vp_in a2 60 ∧ vp_in (gI (mX7_start s a2) ((gDx (mX7_start s a2) 0) + 1) (a2).toNatClampNeg) 9 ∧ vp_in (gI (mX7_start s a2) ((gDx (mX7_start s a2) 0) + 1) (a2).toNatClampNeg) 9 ∧ (∀ s8, s8 = (pI (mX7_start s a2) 223 ((gI (mX7_start s a2) ((gDx (mX7_start s a2) 0) + 1) (a2).toNatClampNeg)).toNatClampNeg ((gI (mX7_start s a2) 223 ((gI (mX7_start s a2) ((gDx (mX7_start s a2) 0) + 1) (a2).toNatClampNeg)).toNatClampNeg) - (1 : Int32))) → BI MX7_findBest 406 30 [(0, .ref 218), (1, .ref L1), (2, .int (a2 + (-1)))] s8 Q)))))) : BI MX7_findBest 406 30 [(0, .ref 218), (1, .ref L1), (2, .int a2)] s Q := by
  refine JT_iload_n (q := 2) dX7_findBest_30 rfl rfl ?_
  refine JT_if_lt (tgt := 71) dX7_findBest_31 (by decide) (fun hc12 => ?_) (fun hc12 => ?_)
  · have h := h.1 hc12
    refine JT_aload_n (q := 0) dX7_findBest_71 rfl rfl ?_
    refine JS_getI dX7_findBest_72 flX7_61 BS_218 (Nat.le_of_ble_eq_true rfl) (Nat.le_of_ble_eq_true rfl) (Or.inl ct_7_1) ?_
    have hj1 : ∀ v : Int32, v = (if (gI s 218 1) ≤ 0 then (0 : Int32) else (1 : Int32)) → JT MX7_findBest 406 0 0 83 [(0, .ref 218), (1, .ref L1), (2, .int a2)] [.int v] (std s) (KQ Q) := by
      intro v hv
      subst hv
      exact JS_iret dX7_findBest_83 rfl (n01 (i01 (Or.inl rfl) (Or.inr rfl))) h
    refine JT_if_le (tgt := 82) dX7_findBest_75 (by decide) (fun hc2 => ?_) (fun hc2 => ?_)
    · refine JT_iconst (v := 0) dX7_findBest_82 ic_0 ?_
      exact hj1 _ (by rw [if_pos hc2])
    · refine JT_iconst (v := 1) dX7_findBest_78 ic_1 ?_
      refine JT_goto (tgt := 83) dX7_findBest_79 (by decide) ?_
      exact hj1 _ (by rw [if_neg hc2])
  · have h := h.2 hc12
    refine JT_aload_n (q := 0) dX7_findBest_34 rfl rfl ?_
    refine JT_iload_n (q := 2) dX7_findBest_35 rfl rfl ?_
    obtain ⟨o11, h⟩ := h
    refine JS_callVI (M' := MX7_mayBeIn) (d' := 2) (As := [.int a2]) (rest := []) (P := (fun zv9 wm9 => (vX7_mayBeIn s a2) = zv9 ∧ s = wm9)) dX7_findBest_36 cvX7_50 okX7_mayBeIn rfl (Nat.le_of_ble_eq_true rfl) BS_218 (Nat.le_of_ble_eq_true rfl) (Nat.le_of_ble_eq_true rfl) hci_7 (Nat.le_of_ble_eq_true rfl) (Nat.le_of_ble_eq_true rfl) (pX7_mayBeIn  (a2) o11 ⟨rfl, rfl⟩) (fun zv9 wm9 hq9 => ?_)
    obtain ⟨rfl, rfl⟩ := hq9
    refine JT_if_eq (tgt := 65) dX7_findBest_39 (by decide) (fun hc10 => ?_) (fun hc10 => ?_)
    · have h := h.1 hc10
      refine JT_iinc (q := 2) (v := (a2 + (-1))) (lv' := [(2, .int (a2 + (-1))), (0, .ref 218), (1, .ref L1)]) dX7_findBest_65 rfl (by rfl) (Nat.le_of_ble_eq_true rfl) rfl ?_
      refine JT_goto (tgt := 30) dX7_findBest_68 (by decide) ?_
      exact JT_sub [1, 2, 0] rfl h
    · have h := h.2 hc10
      refine JT_aload_n (q := 0) dX7_findBest_42 rfl rfl ?_
      refine JT_iload_n (q := 2) dX7_findBest_43 rfl rfl ?_
      obtain ⟨o9, h⟩ := h
      refine JS_callVV (M' := MX7_start) (d' := 405) (As := [.int a2]) (rest := []) (P := (fun wm9 => (mX7_start s a2) = wm9)) dX7_findBest_44 cvX7_54 okX7_start rfl (Nat.le_of_ble_eq_true rfl) BS_218 (Nat.le_of_ble_eq_true rfl) (Nat.le_of_ble_eq_true rfl) hci_7 (Nat.le_of_ble_eq_true rfl) (Nat.le_of_ble_eq_true rfl) (pX7_start  (a2) o9 rfl) (fun wm9 hq9 => ?_)
      subst hq9
      refine JT_aload_n (q := 0) dX7_findBest_47 rfl rfl ?_
      refine JS_getR (x := 223) dX7_findBest_48 flX7_24 BS_218 (Nat.le_of_ble_eq_true rfl) (Nat.le_of_ble_eq_true rfl) (Or.inr ⟨_, ct_7_9⟩) RF_218_9 ?_
      refine JT_aload_n (q := 0) dX7_findBest_51 rfl rfl ?_
      obtain ⟨hr3, hL4, h⟩ := h
      refine JS_getR (x := (gDx (mX7_start s a2) 0)) dX7_findBest_52 flX7_40 BS_218 (Nat.le_of_ble_eq_true rfl) (Nat.le_of_ble_eq_true rfl) (Or.inl ⟨_, ct_7_4⟩) (RF_218_4.trans hr3) ?_
      refine JS_getR (x := ((gDx (mX7_start s a2) 0) + 1)) dX7_findBest_55 flX7_58 (lxB hL4) (lx2 hL4) (lxN hL4) (Or.inr ⟨_, ct_4_0⟩) (lxR0 hL4) ?_
      refine JT_iload_n (q := 2) dX7_findBest_58 rfl rfl ?_
      obtain ⟨o5, h⟩ := h
      refine JS_iald dX7_findBest_59 (lxB1 hL4) (lx2k hL4 _) (lxNk hL4 (Nat.le_of_ble_eq_true rfl)) o5 ?_
      refine JT_dup2 dX7_findBest_60 rfl rfl ?_
      obtain ⟨o6, h⟩ := h
      refine JS_iald dX7_findBest_61 BS_223 (Nat.le_of_ble_eq_true rfl) (Nat.le_of_ble_eq_true rfl) o6 ?_
      refine JT_iconst (v := 1) dX7_findBest_62 ic_1 ?_
      refine JT_isub dX7_findBest_63 ?_
      obtain ⟨o7, h⟩ := h
      refine JS_iast dX7_findBest_64 BS_223 (Nat.le_of_ble_eq_true rfl) (Nat.le_of_ble_eq_true rfl) o7 ?_
      obtain ⟨s8, hs8⟩ : ∃ z, z = (pI (mX7_start s a2) 223 ((gI (mX7_start s a2) ((gDx (mX7_start s a2) 0) + 1) (a2).toNatClampNeg)).toNatClampNeg ((gI (mX7_start s a2) 223 ((gI (mX7_start s a2) ((gDx (mX7_start s a2) 0) + 1) (a2).toNatClampNeg)).toNatClampNeg) - (1 : Int32))) := ⟨_, rfl⟩
      replace h := h s8 hs8
      rw [← hs8]
      refine JT_iinc (q := 2) (v := (a2 + (-1))) (lv' := [(2, .int (a2 + (-1))), (0, .ref 218), (1, .ref L1)]) dX7_findBest_65 rfl (by rfl) (Nat.le_of_ble_eq_true rfl) rfl ?_
      refine JT_goto (tgt := 30) dX7_findBest_68 (by decide) ?_
      exact JT_sub [1, 2, 0] rfl h
set_option maxRecDepth 1000000 in
theorem bX7_findBest {L1 P1 : Nat} (hL1 : (L1, P1) ∈ LX) {s : SM} {Q : Int32 → SM → Prop} (h : rX7_prepare s L1 P1 ∧ (∀ s1, s1 = (cI (mX7_prepare s L1 P1) 223 (va_cpy (gI (mX7_prepare s L1 P1) 224) (gI (mX7_prepare s L1 P1) 223) ((0 : Int32)).toNatClampNeg ((0 : Int32)).toNatClampNeg ((9 : Int32)).toNatClampNeg)) → gD s1 0 = some (gDx s1 0) ∧ ((gDx s1 0), rfx (gDx s1 0) 8) ∈ LX ∧ BI MX7_findBest 406 30 [(0, .ref 218), (1, .ref L1), (2, .int ((gI s1 (gDx s1 0) 9) - (1 : Int32)))] s1 Q)) : KI MX7_findBest 406 [.ref 218, .ref L1] s Q := by
  show BI MX7_findBest 406 0 [(0, .ref 218), (1, .ref L1)] s Q
  refine JT_aload_n (q := 0) dX7_findBest_0 rfl rfl ?_
  refine JT_aload_n (q := 1) dX7_findBest_1 rfl rfl ?_
  obtain ⟨o4, h⟩ := h
  refine JS_callVV (M' := MX7_prepare) (d' := 3) (As := [.ref L1]) (rest := []) (P := (fun wm9 => (mX7_prepare s L1 P1) = wm9)) dX7_findBest_2 cvX7_30 okX7_prepare rfl (Nat.le_of_ble_eq_true rfl) BS_218 (Nat.le_of_ble_eq_true rfl) (Nat.le_of_ble_eq_true rfl) hci_7 (Nat.le_of_ble_eq_true rfl) (Nat.le_of_ble_eq_true rfl) (pX7_prepare hL1  o4 rfl) (fun wm9 hq9 => ?_)
  subst hq9
  refine JT_aload_n (q := 0) dX7_findBest_5 rfl rfl ?_
  refine JS_getR (x := 224) dX7_findBest_6 flX7_27 BS_218 (Nat.le_of_ble_eq_true rfl) (Nat.le_of_ble_eq_true rfl) (Or.inr ⟨_, ct_7_10⟩) RF_218_10 ?_
  refine JT_iconst (v := 0) dX7_findBest_9 ic_0 ?_
  refine JT_aload_n (q := 0) dX7_findBest_10 rfl rfl ?_
  refine JS_getR (x := 223) dX7_findBest_11 flX7_24 BS_218 (Nat.le_of_ble_eq_true rfl) (Nat.le_of_ble_eq_true rfl) (Or.inr ⟨_, ct_7_9⟩) RF_218_9 ?_
  refine JT_iconst (v := 0) dX7_findBest_14 ic_0 ?_
  refine JT_bipush (v := 9) dX7_findBest_15 bp_9 ?_
  refine JS_copyI (d2 := 405) (na := 9) (nb := 9) dX7_findBest_17 mlX7_34 BS_223 (Nat.le_of_ble_eq_true rfl) (Nat.le_of_ble_eq_true rfl) BS_224 (Nat.le_of_ble_eq_true rfl) (Nat.le_of_ble_eq_true rfl) (by decide) (by decide) (by decide) (by decide) (by decide) (Nat.le_of_ble_eq_true rfl) rfl ?_
  obtain ⟨s1, hs1⟩ : ∃ z, z = (cI (mX7_prepare s L1 P1) 223 (va_cpy (gI (mX7_prepare s L1 P1) 224) (gI (mX7_prepare s L1 P1) 223) ((0 : Int32)).toNatClampNeg ((0 : Int32)).toNatClampNeg ((9 : Int32)).toNatClampNeg)) := ⟨_, rfl⟩
  replace h := h s1 hs1
  rw [← hs1]
  refine JT_aload_n (q := 0) dX7_findBest_20 rfl rfl ?_
  obtain ⟨hr2, hL3, h⟩ := h
  refine JS_getR (x := (gDx s1 0)) dX7_findBest_21 flX7_40 BS_218 (Nat.le_of_ble_eq_true rfl) (Nat.le_of_ble_eq_true rfl) (Or.inl ⟨_, ct_7_4⟩) (RF_218_4.trans hr2) ?_
  refine JS_getI dX7_findBest_24 flX7_44 (lxB hL3) (lx2 hL3) (lxN hL3) (Or.inl ct_4_9) ?_
  refine JT_iconst (v := 1) dX7_findBest_27 ic_1 ?_
  refine JT_isub dX7_findBest_28 ?_
  refine JT_istore_n (lv' := [(2, .int ((gI s1 (gDx s1 0) 9) - (1 : Int32))), (0, .ref 218), (1, .ref L1)]) dX7_findBest_29 rfl (Nat.le_of_ble_eq_true rfl) rfl ?_
  exact JT_sub [1, 2, 0] rfl h
set_option maxRecDepth 1000000 in
theorem gX7_findBest {L1 P1 : Nat} (hL1 : (L1, P1) ∈ LX) : ∀ n : Nat, (∀ (a2 : Int32) (s : SM) (Q : Int32 → SM → Prop), ((qX7_findBest n) s L1 P1 a2) → Q ((lX7_findBest n) s L1 P1 a2).1 ((lX7_findBest n) s L1 P1 a2).2 → BI MX7_findBest 406 30 [(0, .ref 218), (1, .ref L1), (2, .int a2)] s Q) := by
  intro n
  induction n with
  | zero => exact fun _ _ _ hq _ => absurd hq id
  | succ n ih =>
    intro a2 s Q hr h
    replace hr : uX7_findBest_30 (qX7_findBest n) s L1 P1 a2 := hr
    replace h : Q (tX7_findBest_30 (lX7_findBest n) s L1 P1 a2).1 (tX7_findBest_30 (lX7_findBest n) s L1 P1 a2).2 := h
    unfold uX7_findBest_30 at hr
    unfold tX7_findBest_30 at h
    refine bX7_findBest_30 hL1 a2 ?_
    refine ⟨fun c => ?_, fun c => ?_⟩
    · replace h := q3p c h
      first | exact h | contradiction
    · replace hr := hr c
      replace h := q3n c h
      refine ⟨hr.1, ?_⟩
      replace hr := hr.2
      refine ⟨fun c => ?_, fun c => ?_⟩
      · replace hr := hr.1 c
        replace h := q3p c h
        first | exact ih (a2 + (-1)) _ Q hr h | contradiction
      · replace hr := hr.2 c
        replace h := q3n c h
        refine ⟨hr.1, ?_⟩
        replace hr := hr.2
        refine ⟨hr.1, ?_⟩
        replace hr := hr.2
        refine ⟨hr.1, ?_⟩
        replace hr := hr.2
        refine ⟨hr.1, ?_⟩
        replace hr := hr.2
        refine ⟨hr.1, ?_⟩
        replace hr := hr.2
        refine ⟨hr.1, ?_⟩
        replace hr := hr.2
        intro s8 e9
        replace hr := hr s8 e9
        try rw [← e9] at h
        try dsimp only at h
        first | exact ih (a2 + (-1)) _ Q hr h | contradiction
set_option maxRecDepth 1000000 in
theorem pX7_findBest {L1 P1 : Nat} (hL1 : (L1, P1) ∈ LX) {s : SM} {Q : Int32 → SM → Prop} (hr : rX7_findBest s L1 P1) (h : Q (vX7_findBest s L1 P1) (mX7_findBest s L1 P1)) : KI MX7_findBest 406 [.ref 218, .ref L1] s Q := by
  replace h : Q (fX7_findBest s L1 P1).1 (fX7_findBest s L1 P1).2 := h
  unfold rX7_findBest at hr
  unfold fX7_findBest at h
  refine bX7_findBest hL1 ?_
  refine ⟨hr.1, ?_⟩
  replace hr := hr.2
  intro s1 e9
  replace hr := hr s1 e9
  try rw [← e9] at h
  try dsimp only at h
  refine ⟨hr.1, ?_⟩
  replace hr := hr.2
  refine ⟨hr.1, ?_⟩
  replace hr := hr.2
  first | exact (gX7_findBest hL1 FU) ((gI s1 (gDx s1 0) 9) - (1 : Int32)) _ Q hr h | contradiction
set_option maxRecDepth 1000000 in
theorem bX7_findBestWith_18 {L1 P1 : Nat} (hL1 : (L1, P1) ∈ LX) (a2 : Int32) {s : SM} {Q : Int32 → SM → Prop} (h : Q (if (gI s 218 1) ≤ 0 then (0 : Int32) else (1 : Int32)) s) : BI MX7_findBestWith 406 18 [(0, .ref 218), (1, .ref L1), (2, .int a2)] s Q := by
  refine JT_aload_n (q := 0) dX7_findBestWith_18 rfl rfl ?_
  refine JS_getI dX7_findBestWith_19 flX7_61 BS_218 (Nat.le_of_ble_eq_true rfl) (Nat.le_of_ble_eq_true rfl) (Or.inl ct_7_1) ?_
  have hj1 : ∀ v : Int32, v = (if (gI s 218 1) ≤ 0 then (0 : Int32) else (1 : Int32)) → JT MX7_findBestWith 406 0 0 30 [(0, .ref 218), (1, .ref L1), (2, .int a2)] [.int v] (std s) (KQ Q) := by
    intro v hv
    subst hv
    exact JS_iret dX7_findBestWith_30 rfl (n01 (i01 (Or.inl rfl) (Or.inr rfl))) h
  refine JT_if_le (tgt := 29) dX7_findBestWith_22 (by decide) (fun hc2 => ?_) (fun hc2 => ?_)
  · refine JT_iconst (v := 0) dX7_findBestWith_29 ic_0 ?_
    exact hj1 _ (by rw [if_pos hc2])
  · refine JT_iconst (v := 1) dX7_findBestWith_25 ic_1 ?_
    refine JT_goto (tgt := 30) dX7_findBestWith_26 (by decide) ?_
    exact hj1 _ (by rw [if_neg hc2])
set_option maxRecDepth 1000000 in
theorem bX7_findBestWith {L1 P1 : Nat} (hL1 : (L1, P1) ∈ LX) (a2 : Int32) {s : SM} {Q : Int32 → SM → Prop} (h : rX7_prepare s L1 P1 ∧ rX7_mayBeIn (mX7_prepare s L1 P1) a2 ∧ (((vX7_mayBeIn (mX7_prepare s L1 P1) a2) = 0 → BI MX7_findBestWith 406 18 [(0, .ref 218), (1, .ref L1), (2, .int a2)] (mX7_prepare s L1 P1) Q) ∧ (¬ (vX7_mayBeIn (mX7_prepare s L1 P1) a2) = 0 → rX7_start (mX7_prepare s L1 P1) a2 ∧ BI MX7_findBestWith 406 18 [(0, .ref 218), (1, .ref L1), (2, .int a2)] (mX7_start (mX7_prepare s L1 P1) a2) Q))) : KI MX7_findBestWith 406 [.ref 218, .ref L1, .int a2] s Q := by
  show BI MX7_findBestWith 406 0 [(0, .ref 218), (1, .ref L1), (2, .int a2)] s Q
  refine JT_aload_n (q := 0) dX7_findBestWith_0 rfl rfl ?_
  refine JT_aload_n (q := 1) dX7_findBestWith_1 rfl rfl ?_
  obtain ⟨o4, h⟩ := h
  refine JS_callVV (M' := MX7_prepare) (d' := 3) (As := [.ref L1]) (rest := []) (P := (fun wm9 => (mX7_prepare s L1 P1) = wm9)) dX7_findBestWith_2 cvX7_30 okX7_prepare rfl (Nat.le_of_ble_eq_true rfl) BS_218 (Nat.le_of_ble_eq_true rfl) (Nat.le_of_ble_eq_true rfl) hci_7 (Nat.le_of_ble_eq_true rfl) (Nat.le_of_ble_eq_true rfl) (pX7_prepare hL1  o4 rfl) (fun wm9 hq9 => ?_)
  subst hq9
  refine JT_aload_n (q := 0) dX7_findBestWith_5 rfl rfl ?_
  refine JT_iload_n (q := 2) dX7_findBestWith_6 rfl rfl ?_
  obtain ⟨o3, h⟩ := h
  refine JS_callVI (M' := MX7_mayBeIn) (d' := 2) (As := [.int a2]) (rest := []) (P := (fun zv9 wm9 => (vX7_mayBeIn (mX7_prepare s L1 P1) a2) = zv9 ∧ (mX7_prepare s L1 P1) = wm9)) dX7_findBestWith_7 cvX7_50 okX7_mayBeIn rfl (Nat.le_of_ble_eq_true rfl) BS_218 (Nat.le_of_ble_eq_true rfl) (Nat.le_of_ble_eq_true rfl) hci_7 (Nat.le_of_ble_eq_true rfl) (Nat.le_of_ble_eq_true rfl) (pX7_mayBeIn  (a2) o3 ⟨rfl, rfl⟩) (fun zv9 wm9 hq9 => ?_)
  obtain ⟨rfl, rfl⟩ := hq9
  refine JT_if_eq (tgt := 18) dX7_findBestWith_10 (by decide) (fun hc2 => ?_) (fun hc2 => ?_)
  · have h := h.1 hc2
    exact JT_sub [0, 1, 2] rfl h
  · have h := h.2 hc2
    refine JT_aload_n (q := 0) dX7_findBestWith_13 rfl rfl ?_
    refine JT_iload_n (q := 2) dX7_findBestWith_14 rfl rfl ?_
    obtain ⟨o1, h⟩ := h
    refine JS_callVV (M' := MX7_start) (d' := 405) (As := [.int a2]) (rest := []) (P := (fun wm9 => (mX7_start (mX7_prepare s L1 P1) a2) = wm9)) dX7_findBestWith_15 cvX7_54 okX7_start rfl (Nat.le_of_ble_eq_true rfl) BS_218 (Nat.le_of_ble_eq_true rfl) (Nat.le_of_ble_eq_true rfl) hci_7 (Nat.le_of_ble_eq_true rfl) (Nat.le_of_ble_eq_true rfl) (pX7_start  (a2) o1 rfl) (fun wm9 hq9 => ?_)
    subst hq9
    exact JT_sub [0, 1, 2] rfl h
set_option maxRecDepth 1000000 in
theorem gX7_findBestWith {L1 P1 : Nat} (hL1 : (L1, P1) ∈ LX) : ∀ n : Nat, (∀ (a2 : Int32) (s : SM) (Q : Int32 → SM → Prop), ((qX7_findBestWith n) s L1 P1 a2) → Q ((lX7_findBestWith n) s L1 P1 a2).1 ((lX7_findBestWith n) s L1 P1 a2).2 → BI MX7_findBestWith 406 18 [(0, .ref 218), (1, .ref L1), (2, .int a2)] s Q) := by
  intro n
  induction n with
  | zero => exact fun _ _ _ hq _ => absurd hq id
  | succ n ih =>
    intro a2 s Q hr h
    replace hr : uX7_findBestWith_18 (qX7_findBestWith n) s L1 P1 a2 := hr
    replace h : Q (tX7_findBestWith_18 (lX7_findBestWith n) s L1 P1 a2).1 (tX7_findBestWith_18 (lX7_findBestWith n) s L1 P1 a2).2 := h
    unfold uX7_findBestWith_18 at hr
    unfold tX7_findBestWith_18 at h
    refine bX7_findBestWith_18 hL1 a2 ?_
    first | exact h | contradiction
set_option maxRecDepth 1000000 in
theorem pX7_findBestWith {L1 P1 : Nat} (hL1 : (L1, P1) ∈ LX) (a2 : Int32) {s : SM} {Q : Int32 → SM → Prop} (hr : rX7_findBestWith s L1 P1 a2) (h : Q (vX7_findBestWith s L1 P1 a2) (mX7_findBestWith s L1 P1 a2)) : KI MX7_findBestWith 406 [.ref 218, .ref L1, .int a2] s Q := by
  replace h : Q (fX7_findBestWith s L1 P1 a2).1 (fX7_findBestWith s L1 P1 a2).2 := h
  unfold rX7_findBestWith at hr
  unfold fX7_findBestWith at h
  refine bX7_findBestWith hL1 a2 ?_
  refine ⟨hr.1, ?_⟩
  replace hr := hr.2
  refine ⟨hr.1, ?_⟩
  replace hr := hr.2
  refine ⟨fun c => ?_, fun c => ?_⟩
  · replace hr := hr.1 c
    replace h := q3p c h
    first | exact (gX7_findBestWith hL1 FU) a2 _ Q hr h | contradiction
  · replace hr := hr.2 c
    replace h := q3n c h
    refine ⟨hr.1, ?_⟩
    replace hr := hr.2
    first | exact (gX7_findBestWith hL1 FU) a2 _ Q hr h | contradiction
set_option maxRecDepth 1000000 in
theorem bX11_ring_29 (a1 : Int32) {s : SM} {Q : Int32 → SM → Prop} (h : (((5 : Int32) ≤ a1 → Q (gI s 218 2) s) ∧ (¬ (5 : Int32) ≤ a1 → vp_in a1 5 ∧ vp_in a1 5 ∧ BI MX11_ring 407 29 [(0, .ref 2), (1, .int (a1 + 1))] (pI s 246 (a1).toNatClampNeg (gI s 219 (a1).toNatClampNeg)) Q))) : BI MX11_ring 407 29 [(0, .ref 2), (1, .int a1)] s Q := by
  refine JT_iload_n (q := 1) dX11_ring_29 rfl rfl ?_
  refine JT_iconst (v := 5) dX11_ring_30 ic_5 ?_
  refine JT_icmp_ge (tgt := 55) dX11_ring_31 (by decide) (fun hc3 => ?_) (fun hc3 => ?_)
  · have h := h.1 hc3
    refine JT_aload_n (q := 0) dX11_ring_55 rfl rfl ?_
    refine JS_getR (x := 218) dX11_ring_56 flX11_65 BS_2 (Nat.le_of_ble_eq_true rfl) (Nat.le_of_ble_eq_true rfl) (Or.inl ⟨_, ct_11_9⟩) RF_2_9 ?_
    refine JS_getI dX11_ring_59 flX11_347 BS_218 (Nat.le_of_ble_eq_true rfl) (Nat.le_of_ble_eq_true rfl) (Or.inl ct_7_2) ?_
    exact JS_iret dX11_ring_62 rfl rfl h
  · have h := h.2 hc3
    refine JT_aload_n (q := 0) dX11_ring_34 rfl rfl ?_
    refine JS_getR (x := 246) dX11_ring_35 flX11_97 BS_2 (Nat.le_of_ble_eq_true rfl) (Nat.le_of_ble_eq_true rfl) (Or.inr ⟨_, ct_11_14⟩) RF_2_14 ?_
    refine JT_iload_n (q := 1) dX11_ring_38 rfl rfl ?_
    refine JT_aload_n (q := 0) dX11_ring_39 rfl rfl ?_
    refine JS_getR (x := 218) dX11_ring_40 flX11_65 BS_2 (Nat.le_of_ble_eq_true rfl) (Nat.le_of_ble_eq_true rfl) (Or.inl ⟨_, ct_11_9⟩) RF_2_9 ?_
    refine JS_getR (x := 219) dX11_ring_43 flX11_344 BS_218 (Nat.le_of_ble_eq_true rfl) (Nat.le_of_ble_eq_true rfl) (Or.inr ⟨_, ct_7_0⟩) RF_218_0 ?_
    refine JT_iload_n (q := 1) dX11_ring_46 rfl rfl ?_
    obtain ⟨o1, h⟩ := h
    refine JS_iald dX11_ring_47 BS_219 (Nat.le_of_ble_eq_true rfl) (Nat.le_of_ble_eq_true rfl) o1 ?_
    obtain ⟨o2, h⟩ := h
    refine JS_iast dX11_ring_48 BS_246 (Nat.le_of_ble_eq_true rfl) (Nat.le_of_ble_eq_true rfl) o2 ?_
    refine JT_iinc (q := 1) (v := (a1 + 1)) (lv' := [(1, .int (a1 + 1)), (0, .ref 2)]) dX11_ring_49 rfl (by rfl) (Nat.le_of_ble_eq_true rfl) rfl ?_
    refine JT_goto (tgt := 29) dX11_ring_52 (by decide) ?_
    exact JT_sub [1, 0] rfl h
set_option maxRecDepth 1000000 in
theorem bX11_ring  {s : SM} {Q : Int32 → SM → Prop} (h : rX7_findBest s 31 5 ∧ ((¬ (vX7_findBest s 31 5) = 0 → BI MX11_ring 407 29 [(0, .ref 2), (1, .int (0 : Int32))] (pI (mX7_findBest s 31 5) 2 15 (gI (mX7_findBest s 31 5) 218 1)) Q) ∧ ((vX7_findBest s 31 5) = 0 → Q (-1 : Int32) (mX7_findBest s 31 5)))) : KI MX11_ring 407 [.ref 2] s Q := by
  show BI MX11_ring 407 0 [(0, .ref 2)] s Q
  refine JT_aload_n (q := 0) dX11_ring_0 rfl rfl ?_
  refine JS_getR (x := 218) dX11_ring_1 flX11_65 BS_2 (Nat.le_of_ble_eq_true rfl) (Nat.le_of_ble_eq_true rfl) (Or.inl ⟨_, ct_11_9⟩) RF_2_9 ?_
  refine JT_aload_n (q := 0) dX11_ring_4 rfl rfl ?_
  refine JS_getR (x := 31) dX11_ring_5 flX11_41 BS_2 (Nat.le_of_ble_eq_true rfl) (Nat.le_of_ble_eq_true rfl) (Or.inl ⟨_, ct_11_5⟩) RF_2_5 ?_
  obtain ⟨o2, h⟩ := h
  refine JS_callVI (M' := MX7_findBest) (d' := 406) (As := [.ref 31]) (rest := []) (P := (fun zv9 wm9 => (vX7_findBest s 31 5) = zv9 ∧ (mX7_findBest s 31 5) = wm9)) dX11_ring_8 cvX11_336 okX7_findBest rfl (Nat.le_of_ble_eq_true rfl) BS_218 (Nat.le_of_ble_eq_true rfl) (Nat.le_of_ble_eq_true rfl) hci_7 (Nat.le_of_ble_eq_true rfl) (Nat.le_of_ble_eq_true rfl) (pX7_findBest hL_31  o2 ⟨rfl, rfl⟩) (fun zv9 wm9 hq9 => ?_)
  obtain ⟨rfl, rfl⟩ := hq9
  refine JT_if_ne (tgt := 16) dX11_ring_11 (by decide) (fun hc1 => ?_) (fun hc1 => ?_)
  · have h := h.1 hc1
    refine JT_aload_n (q := 0) dX11_ring_16 rfl rfl ?_
    refine JT_aload_n (q := 0) dX11_ring_17 rfl rfl ?_
    refine JS_getR (x := 218) dX11_ring_18 flX11_65 BS_2 (Nat.le_of_ble_eq_true rfl) (Nat.le_of_ble_eq_true rfl) (Or.inl ⟨_, ct_11_9⟩) RF_2_9 ?_
    refine JS_getI dX11_ring_21 flX11_340 BS_218 (Nat.le_of_ble_eq_true rfl) (Nat.le_of_ble_eq_true rfl) (Or.inl ct_7_1) ?_
    refine JS_putI dX11_ring_24 flX11_341 BS_2 (Nat.le_of_ble_eq_true rfl) (Nat.le_of_ble_eq_true rfl) ct_11_15 ?_
    refine JT_iconst (v := 0) dX11_ring_27 ic_0 ?_
    refine JT_istore_n (lv' := [(1, .int (0 : Int32)), (0, .ref 2)]) dX11_ring_28 rfl (Nat.le_of_ble_eq_true rfl) rfl ?_
    exact JT_sub [1, 0] rfl h
  · have h := h.2 hc1
    refine JT_iconst (v := -1) dX11_ring_14 ic_m1 ?_
    exact JS_iret dX11_ring_15 rfl rfl h
set_option maxRecDepth 1000000 in
theorem gX11_ring  : ∀ n : Nat, (∀ (a1 : Int32) (s : SM) (Q : Int32 → SM → Prop), ((qX11_ring n) s a1) → Q ((lX11_ring n) s a1).1 ((lX11_ring n) s a1).2 → BI MX11_ring 407 29 [(0, .ref 2), (1, .int a1)] s Q) := by
  intro n
  induction n with
  | zero => exact fun _ _ _ hq _ => absurd hq id
  | succ n ih =>
    intro a1 s Q hr h
    replace hr : uX11_ring_29 (qX11_ring n) s a1 := hr
    replace h : Q (tX11_ring_29 (lX11_ring n) s a1).1 (tX11_ring_29 (lX11_ring n) s a1).2 := h
    unfold uX11_ring_29 at hr
    unfold tX11_ring_29 at h
    refine bX11_ring_29 a1 ?_
    refine ⟨fun c => ?_, fun c => ?_⟩
    · replace h := q3p c h
      first | exact h | contradiction
    · replace hr := hr c
      replace h := q3n c h
      refine ⟨hr.1, ?_⟩
      replace hr := hr.2
      refine ⟨hr.1, ?_⟩
      replace hr := hr.2
      first | exact ih (a1 + 1) _ Q hr h | contradiction
set_option maxRecDepth 1000000 in
theorem pX11_ring  {s : SM} {Q : Int32 → SM → Prop} (hr : rX11_ring s ) (h : Q (vX11_ring s ) (mX11_ring s )) : KI MX11_ring 407 [.ref 2] s Q := by
  replace h : Q (fX11_ring s ).1 (fX11_ring s ).2 := h
  unfold rX11_ring at hr
  unfold fX11_ring at h
  refine bX11_ring  ?_
  refine ⟨hr.1, ?_⟩
  replace hr := hr.2
  refine ⟨fun c => ?_, fun c => ?_⟩
  · replace hr := hr c
    replace h := q3n c h
    first | exact (gX11_ring  FU) (0 : Int32) _ Q hr h | contradiction
  · replace h := q3p c h
    first | exact h | contradiction
set_option maxRecDepth 1000000 in
theorem bX11_ringOf (a1 : Int32) {s : SM} {Q : Int32 → SM → Prop} (h : (((vX4_hasDeal s 31 5 a1) = 0 → Q (-1 : Int32) s) ∧ (¬ (vX4_hasDeal s 31 5 a1) = 0 → rX7_findBestWith s 31 5 a1 ∧ (((vX7_findBestWith s 31 5 a1) = 0 → Q (-1 : Int32) (mX7_findBestWith s 31 5 a1)) ∧ (¬ (vX7_findBestWith s 31 5 a1) = 0 → Q (gI (mX7_findBestWith s 31 5 a1) 218 2) (mX7_findBestWith s 31 5 a1)))))) : KI MX11_ringOf 407 [.ref 2, .int a1] s Q := by
  show BI MX11_ringOf 407 0 [(0, .ref 2), (1, .int a1)] s Q
  refine JT_aload_n (q := 0) dX11_ringOf_0 rfl rfl ?_
  refine JS_getR (x := 31) dX11_ringOf_1 flX11_41 BS_2 (Nat.le_of_ble_eq_true rfl) (Nat.le_of_ble_eq_true rfl) (Or.inl ⟨_, ct_11_5⟩) RF_2_5 ?_
  refine JT_iload_n (q := 1) dX11_ringOf_4 rfl rfl ?_
  refine JS_callVI (M' := MX4_hasDeal) (d' := 0) (As := [.int a1]) (rest := []) (P := (fun zv9 wm9 => (vX4_hasDeal s 31 5 a1) = zv9 ∧ s = wm9)) dX11_ringOf_5 cvX11_211 okX4_hasDeal rfl (Nat.le_of_ble_eq_true rfl) BS_31 (Nat.le_of_ble_eq_true rfl) (Nat.le_of_ble_eq_true rfl) hci_4 (Nat.le_of_ble_eq_true rfl) (Nat.le_of_ble_eq_true rfl) (pX4_hasDeal hL_31 (a1)  ⟨rfl, rfl⟩) (fun zv9 wm9 hq9 => ?_)
  obtain ⟨rfl, rfl⟩ := hq9
  refine JT_if_eq (tgt := 36) dX11_ringOf_8 (by decide) (fun hc3 => ?_) (fun hc3 => ?_)
  · have h := h.1 hc3
    refine JT_iconst (v := -1) dX11_ringOf_36 ic_m1 ?_
    exact JS_iret dX11_ringOf_37 rfl rfl h
  · have h := h.2 hc3
    refine JT_aload_n (q := 0) dX11_ringOf_11 rfl rfl ?_
    refine JS_getR (x := 218) dX11_ringOf_12 flX11_65 BS_2 (Nat.le_of_ble_eq_true rfl) (Nat.le_of_ble_eq_true rfl) (Or.inl ⟨_, ct_11_9⟩) RF_2_9 ?_
    refine JT_aload_n (q := 0) dX11_ringOf_15 rfl rfl ?_
    refine JS_getR (x := 31) dX11_ringOf_16 flX11_41 BS_2 (Nat.le_of_ble_eq_true rfl) (Nat.le_of_ble_eq_true rfl) (Or.inl ⟨_, ct_11_5⟩) RF_2_5 ?_
    refine JT_iload_n (q := 1) dX11_ringOf_19 rfl rfl ?_
    obtain ⟨o2, h⟩ := h
    refine JS_callVI (M' := MX7_findBestWith) (d' := 406) (As := [.ref 31, .int a1]) (rest := []) (P := (fun zv9 wm9 => (vX7_findBestWith s 31 5 a1) = zv9 ∧ (mX7_findBestWith s 31 5 a1) = wm9)) dX11_ringOf_20 cvX11_350 okX7_findBestWith rfl (Nat.le_of_ble_eq_true rfl) BS_218 (Nat.le_of_ble_eq_true rfl) (Nat.le_of_ble_eq_true rfl) hci_7 (Nat.le_of_ble_eq_true rfl) (Nat.le_of_ble_eq_true rfl) (pX7_findBestWith hL_31 (a1) o2 ⟨rfl, rfl⟩) (fun zv9 wm9 hq9 => ?_)
    obtain ⟨rfl, rfl⟩ := hq9
    refine JT_if_eq (tgt := 36) dX11_ringOf_23 (by decide) (fun hc1 => ?_) (fun hc1 => ?_)
    · have h := h.1 hc1
      refine JT_iconst (v := -1) dX11_ringOf_36 ic_m1 ?_
      exact JS_iret dX11_ringOf_37 rfl rfl h
    · have h := h.2 hc1
      refine JT_aload_n (q := 0) dX11_ringOf_26 rfl rfl ?_
      refine JS_getR (x := 218) dX11_ringOf_27 flX11_65 BS_2 (Nat.le_of_ble_eq_true rfl) (Nat.le_of_ble_eq_true rfl) (Or.inl ⟨_, ct_11_9⟩) RF_2_9 ?_
      refine JS_getI dX11_ringOf_30 flX11_347 BS_218 (Nat.le_of_ble_eq_true rfl) (Nat.le_of_ble_eq_true rfl) (Or.inl ct_7_2) ?_
      refine JT_goto (tgt := 37) dX11_ringOf_33 (by decide) ?_
      exact JS_iret dX11_ringOf_37 rfl rfl h
set_option maxRecDepth 1000000 in
theorem pX11_ringOf (a1 : Int32) {s : SM} {Q : Int32 → SM → Prop} (hr : rX11_ringOf s a1) (h : Q (vX11_ringOf s a1) (mX11_ringOf s a1)) : KI MX11_ringOf 407 [.ref 2, .int a1] s Q := by
  refine bX11_ringOf a1 ?_
  unfold rX11_ringOf at hr
  unfold vX11_ringOf mX11_ringOf at h
  refine ⟨fun c => ?_, fun c => ?_⟩
  · replace h := q2p c h
    first | exact h | contradiction
  · replace hr := hr c
    replace h := q2n c h
    refine ⟨hr, ?_⟩
    refine ⟨fun c => ?_, fun c => ?_⟩
    · replace h := qlp c h
      first | exact h | contradiction
    · replace h := qln c h
      first | exact h | contradiction
set_option maxRecDepth 1000000 in
theorem bX4_tryCut_13 {L0 P0 : Nat} (hL0 : (L0, P0) ∈ LX) (a2 : Int32) {s : SM} {Q : Int32 → SM → Prop} (h : (((gI s 218 1) ≤ a2 → Q (0 : Int32) s) ∧ (¬ (gI s 218 1) ≤ a2 → (((5 : Int32) ≤ a2 → Q (0 : Int32) s) ∧ (¬ (5 : Int32) ≤ a2 → vp_in a2 5 ∧ rX4_lessen s L0 P0 (gI s 219 (a2).toNatClampNeg) (gI s 218 3) ∧ BI MX4_tryCut 407 13 [(0, .ref L0), (1, .ref 218), (2, .int (a2 + 1))] (mX4_lessen s L0 P0 (gI s 219 (a2).toNatClampNeg) (gI s 218 3)) Q))))) : BI MX4_tryCut 407 13 [(0, .ref L0), (1, .ref 218), (2, .int a2)] s Q := by
  refine JT_iload_n (q := 2) dX4_tryCut_13 rfl rfl ?_
  refine JT_aload_n (q := 1) dX4_tryCut_14 rfl rfl ?_
  refine JS_getI dX4_tryCut_15 flX4_160 BS_218 (Nat.le_of_ble_eq_true rfl) (Nat.le_of_ble_eq_true rfl) (Or.inl ct_7_1) ?_
  refine JT_icmp_ge (tgt := 46) dX4_tryCut_18 (by decide) (fun hc4 => ?_) (fun hc4 => ?_)
  · have h := h.1 hc4
    refine JT_iconst (v := 0) dX4_tryCut_46 ic_0 ?_
    exact JS_iret dX4_tryCut_47 rfl rfl h
  · have h := h.2 hc4
    refine JT_iload_n (q := 2) dX4_tryCut_21 rfl rfl ?_
    refine JT_iconst (v := 5) dX4_tryCut_22 ic_5 ?_
    refine JT_icmp_ge (tgt := 46) dX4_tryCut_23 (by decide) (fun hc3 => ?_) (fun hc3 => ?_)
    · have h := h.1 hc3
      refine JT_iconst (v := 0) dX4_tryCut_46 ic_0 ?_
      exact JS_iret dX4_tryCut_47 rfl rfl h
    · have h := h.2 hc3
      refine JT_aload_n (q := 0) dX4_tryCut_26 rfl rfl ?_
      refine JT_aload_n (q := 1) dX4_tryCut_27 rfl rfl ?_
      refine JS_getR (x := 219) dX4_tryCut_28 flX4_163 BS_218 (Nat.le_of_ble_eq_true rfl) (Nat.le_of_ble_eq_true rfl) (Or.inr ⟨_, ct_7_0⟩) RF_218_0 ?_
      refine JT_iload_n (q := 2) dX4_tryCut_31 rfl rfl ?_
      obtain ⟨o1, h⟩ := h
      refine JS_iald dX4_tryCut_32 BS_219 (Nat.le_of_ble_eq_true rfl) (Nat.le_of_ble_eq_true rfl) o1 ?_
      refine JT_aload_n (q := 1) dX4_tryCut_33 rfl rfl ?_
      refine JS_getI dX4_tryCut_34 flX4_166 BS_218 (Nat.le_of_ble_eq_true rfl) (Nat.le_of_ble_eq_true rfl) (Or.inl ct_7_3) ?_
      obtain ⟨o2, h⟩ := h
      refine JS_callVV (M' := MX4_lessen) (d' := 3) (As := [.int (gI s 219 (a2).toNatClampNeg), .int (gI s 218 3)]) (rest := []) (P := (fun wm9 => (mX4_lessen s L0 P0 (gI s 219 (a2).toNatClampNeg) (gI s 218 3)) = wm9)) dX4_tryCut_37 cvX4_169 okX4_lessen rfl (Nat.le_of_ble_eq_true rfl) (lxB hL0) (lx2 hL0) (lxN hL0) hci_4 (Nat.le_of_ble_eq_true rfl) (Nat.le_of_ble_eq_true rfl) (pX4_lessen hL0 ((gI s 219 (a2).toNatClampNeg)) ((gI s 218 3)) o2 rfl) (fun wm9 hq9 => ?_)
      subst hq9
      refine JT_iinc (q := 2) (v := (a2 + 1)) (lv' := [(2, .int (a2 + 1)), (0, .ref L0), (1, .ref 218)]) dX4_tryCut_40 rfl (by rfl) (Nat.le_of_ble_eq_true rfl) rfl ?_
      refine JT_goto (tgt := 13) dX4_tryCut_43 (by decide) ?_
      exact JT_sub [1, 2, 0] rfl h
set_option maxRecDepth 1000000 in
theorem bX4_tryCut {L0 P0 : Nat} (hL0 : (L0, P0) ∈ LX) {s : SM} {Q : Int32 → SM → Prop} (h : rX7_findBest s L0 P0 ∧ ((¬ (vX7_findBest s L0 P0) = 0 → BI MX4_tryCut 407 13 [(0, .ref L0), (1, .ref 218), (2, .int (0 : Int32))] (mX7_findBest s L0 P0) Q) ∧ ((vX7_findBest s L0 P0) = 0 → Q (8 : Int32) (mX7_findBest s L0 P0)))) : KI MX4_tryCut 407 [.ref L0, .ref 218] s Q := by
  show BI MX4_tryCut 407 0 [(0, .ref L0), (1, .ref 218)] s Q
  refine JT_aload_n (q := 1) dX4_tryCut_0 rfl rfl ?_
  refine JT_aload_n (q := 0) dX4_tryCut_1 rfl rfl ?_
  obtain ⟨o2, h⟩ := h
  refine JS_callVI (M' := MX7_findBest) (d' := 406) (As := [.ref L0]) (rest := []) (P := (fun zv9 wm9 => (vX7_findBest s L0 P0) = zv9 ∧ (mX7_findBest s L0 P0) = wm9)) dX4_tryCut_2 cvX4_154 okX7_findBest rfl (Nat.le_of_ble_eq_true rfl) BS_218 (Nat.le_of_ble_eq_true rfl) (Nat.le_of_ble_eq_true rfl) hci_7 (Nat.le_of_ble_eq_true rfl) (Nat.le_of_ble_eq_true rfl) (pX7_findBest hL0  o2 ⟨rfl, rfl⟩) (fun zv9 wm9 hq9 => ?_)
  obtain ⟨rfl, rfl⟩ := hq9
  refine JT_if_ne (tgt := 11) dX4_tryCut_5 (by decide) (fun hc1 => ?_) (fun hc1 => ?_)
  · have h := h.1 hc1
    refine JT_iconst (v := 0) dX4_tryCut_11 ic_0 ?_
    refine JT_istore_n (lv' := [(2, .int (0 : Int32)), (0, .ref L0), (1, .ref 218)]) dX4_tryCut_12 rfl (Nat.le_of_ble_eq_true rfl) rfl ?_
    exact JT_sub [1, 2, 0] rfl h
  · have h := h.2 hc1
    refine JT_bipush (v := 8) dX4_tryCut_8 bp_8 ?_
    exact JS_iret dX4_tryCut_10 rfl rfl h
set_option maxRecDepth 1000000 in
theorem gX4_tryCut {L0 P0 : Nat} (hL0 : (L0, P0) ∈ LX) : ∀ n : Nat, (∀ (a2 : Int32) (s : SM) (Q : Int32 → SM → Prop), ((qX4_tryCut n) s L0 P0 a2) → Q ((lX4_tryCut n) s L0 P0 a2).1 ((lX4_tryCut n) s L0 P0 a2).2 → BI MX4_tryCut 407 13 [(0, .ref L0), (1, .ref 218), (2, .int a2)] s Q) := by
  intro n
  induction n with
  | zero => exact fun _ _ _ hq _ => absurd hq id
  | succ n ih =>
    intro a2 s Q hr h
    replace hr : uX4_tryCut_13 (qX4_tryCut n) s L0 P0 a2 := hr
    replace h : Q (tX4_tryCut_13 (lX4_tryCut n) s L0 P0 a2).1 (tX4_tryCut_13 (lX4_tryCut n) s L0 P0 a2).2 := h
    unfold uX4_tryCut_13 at hr
    unfold tX4_tryCut_13 at h
    refine bX4_tryCut_13 hL0 a2 ?_
    refine ⟨fun c => ?_, fun c => ?_⟩
    · replace h := q3p c h
      first | exact h | contradiction
    · replace hr := hr c
      replace h := q3n c h
      refine ⟨fun c => ?_, fun c => ?_⟩
      · replace h := q3p c h
        first | exact h | contradiction
      · replace hr := hr c
        replace h := q3n c h
        refine ⟨hr.1, ?_⟩
        replace hr := hr.2
        refine ⟨hr.1, ?_⟩
        replace hr := hr.2
        first | exact ih (a2 + 1) _ Q hr h | contradiction
set_option maxRecDepth 1000000 in
theorem pX4_tryCut {L0 P0 : Nat} (hL0 : (L0, P0) ∈ LX) {s : SM} {Q : Int32 → SM → Prop} (hr : rX4_tryCut s L0 P0) (h : Q (vX4_tryCut s L0 P0) (mX4_tryCut s L0 P0)) : KI MX4_tryCut 407 [.ref L0, .ref 218] s Q := by
  replace h : Q (fX4_tryCut s L0 P0).1 (fX4_tryCut s L0 P0).2 := h
  unfold rX4_tryCut at hr
  unfold fX4_tryCut at h
  refine bX4_tryCut hL0 ?_
  refine ⟨hr.1, ?_⟩
  replace hr := hr.2
  refine ⟨fun c => ?_, fun c => ?_⟩
  · replace hr := hr c
    replace h := q3n c h
    first | exact (gX4_tryCut hL0 FU) (0 : Int32) _ Q hr h | contradiction
  · replace h := q3p c h
    first | exact h | contradiction
set_option maxRecDepth 1000000 in
theorem bX0_tryLine {k0 : Nat} (hk0 : k0 ∈ BX) (a1 : Int32) {L2 P2 : Nat} (hL2 : (L2, P2) ∈ LX) {s : SM} {Q : Int32 → SM → Prop} (h : ((a1 < 0 → Q (0 : Int32) s) ∧ (¬ a1 < 0 → ((a1 < (40 : Int32) → vp_in a1 40 ∧ (((gI s (k0 + 1) (a1).toNatClampNeg) = 0 → vp_in a1 40 ∧ vp_in a1 40 ∧ vp_in a1 40 ∧ vp_in a1 40 ∧ rX4_tryWrite s L2 P2 (gI s (k0 + 2) (a1).toNatClampNeg) (gI s (k0 + 3) (a1).toNatClampNeg) (gI s (k0 + 4) (a1).toNatClampNeg) (gI s (k0 + 5) (a1).toNatClampNeg) ∧ (∀ s8, s8 = (mX4_tryWrite s L2 P2 (gI s (k0 + 2) (a1).toNatClampNeg) (gI s (k0 + 3) (a1).toNatClampNeg) (gI s (k0 + 4) (a1).toNatClampNeg) (gI s (k0 + 5) (a1).toNatClampNeg)) → Q (vX4_tryWrite s L2 P2 (gI s (k0 + 2) (a1).toNatClampNeg) (gI s (k0 + 3) (a1).toNatClampNeg) (gI s (k0 + 4) (a1).toNatClampNeg) (gI s (k0 + 5) (a1).toNatClampNeg)) s8)) ∧ ((gI s (k0 + 1) (a1).toNatClampNeg) = 1 → vp_in a1 40 ∧ rX4_tryStrike s L2 P2 (gI s (k0 + 2) (a1).toNatClampNeg) ∧ Q (vX4_tryStrike s L2 P2 (gI s (k0 + 2) (a1).toNatClampNeg)) (mX4_tryStrike s L2 P2 (gI s (k0 + 2) (a1).toNatClampNeg))) ∧ ((gI s (k0 + 1) (a1).toNatClampNeg) = 2 → vp_in a1 40 ∧ vp_in a1 40 ∧ rX4_tryScar s L2 P2 (gI s (k0 + 2) (a1).toNatClampNeg) (gI s (k0 + 3) (a1).toNatClampNeg) ∧ Q (vX4_tryScar s L2 P2 (gI s (k0 + 2) (a1).toNatClampNeg) (gI s (k0 + 3) (a1).toNatClampNeg)) (mX4_tryScar s L2 P2 (gI s (k0 + 2) (a1).toNatClampNeg) (gI s (k0 + 3) (a1).toNatClampNeg))) ∧ ((gI s (k0 + 1) (a1).toNatClampNeg) = 3 → rX4_tryCut s L2 P2 ∧ Q (vX4_tryCut s L2 P2) (mX4_tryCut s L2 P2)) ∧ ((gI s (k0 + 1) (a1).toNatClampNeg) = 4 → vp_in a1 40 ∧ vp_in a1 40 ∧ rX4_tryBury s L2 P2 (gI s (k0 + 2) (a1).toNatClampNeg) (gI s (k0 + 3) (a1).toNatClampNeg) ∧ Q (vX4_tryBury s L2 P2 (gI s (k0 + 2) (a1).toNatClampNeg) (gI s (k0 + 3) (a1).toNatClampNeg)) (mX4_tryBury s L2 P2 (gI s (k0 + 2) (a1).toNatClampNeg) (gI s (k0 + 3) (a1).toNatClampNeg))) ∧ (((gI s (k0 + 1) (a1).toNatClampNeg).toInt < 0 ∨ 4 < (gI s (k0 + 1) (a1).toNatClampNeg).toInt) → Q (vX4_tryYear s L2 P2) (mX4_tryYear s L2 P2)))) ∧ (¬ a1 < (40 : Int32) → Q (0 : Int32) s))))) : KI MX0_tryLine 408 [.ref k0, .int a1, .ref L2, .ref 218] s Q := by
  show BI MX0_tryLine 408 0 [(0, .ref k0), (1, .int a1), (2, .ref L2), (3, .ref 218)] s Q
  refine JT_iload_n (q := 1) dX0_tryLine_0 rfl rfl ?_
  refine JT_if_lt (tgt := 10) dX0_tryLine_1 (by decide) (fun hc21 => ?_) (fun hc21 => ?_)
  · have h := h.1 hc21
    refine JT_iconst (v := 0) dX0_tryLine_10 ic_0 ?_
    exact JS_iret dX0_tryLine_11 rfl rfl h
  · have h := h.2 hc21
    refine JT_iload_n (q := 1) dX0_tryLine_4 rfl rfl ?_
    refine JT_bipush (v := 40) dX0_tryLine_5 bp_40 ?_
    refine JT_icmp_lt (tgt := 12) dX0_tryLine_7 (by decide) (fun hc20 => ?_) (fun hc20 => ?_)
    · have h := h.1 hc20
      refine JT_aload_n (q := 0) dX0_tryLine_12 rfl rfl ?_
      refine JS_getR (x := (k0 + 1)) dX0_tryLine_13 flX0_9 (bxB hk0) (bx2 hk0) (bxN hk0) (Or.inr ⟨_, ct_0_1⟩) (bxR1 hk0) ?_
      refine JT_iload_n (q := 1) dX0_tryLine_16 rfl rfl ?_
      obtain ⟨o1, h⟩ := h
      refine JS_iald dX0_tryLine_17 (bxB1 hk0) (bx2k hk0 _) (bxNk hk0 (Nat.le_of_ble_eq_true rfl)) o1 ?_
      by_cases ho2 : ((gI s (k0 + 1) (a1).toNatClampNeg)).toInt < 0 ∨ 4 < ((gI s (k0 + 1) (a1).toNatClampNeg)).toInt
      · have h := h.2.2.2.2.2 ho2
        refine JT_tableOut (tgt := 132) dX0_tryLine_18 ho2 (by decide) ?_
        refine JT_aload_n (q := 2) dX0_tryLine_132 rfl rfl ?_
        refine JS_callVI (M' := MX4_tryYear) (d' := 0) (As := []) (rest := []) (P := (fun zv9 wm9 => (vX4_tryYear s L2 P2) = zv9 ∧ (mX4_tryYear s L2 P2) = wm9)) dX0_tryLine_133 cvX0_139 okX4_tryYear rfl (Nat.le_of_ble_eq_true rfl) (lxB hL2) (lx2 hL2) (lxN hL2) hci_4 (Nat.le_of_ble_eq_true rfl) (Nat.le_of_ble_eq_true rfl) (pX4_tryYear hL2   ⟨rfl, rfl⟩) (fun zv9 wm9 hq9 => ?_)
        obtain ⟨rfl, rfl⟩ := hq9
        exact JS_iret dX0_tryLine_136 rfl rfl h
      · have hk19 : ((gI s (k0 + 1) (a1).toNatClampNeg)).toInt = 0 ∨ ((gI s (k0 + 1) (a1).toNatClampNeg)).toInt = 1 ∨ ((gI s (k0 + 1) (a1).toNatClampNeg)).toInt = 2 ∨ ((gI s (k0 + 1) (a1).toNatClampNeg)).toInt = 3 ∨ ((gI s (k0 + 1) (a1).toNatClampNeg)).toInt = 4 := by omega
        rcases hk19 with hk19 | hk19 | hk19 | hk19 | hk19
        · have h := h.1 (i32_of_toInt hk19)
          refine JT_tableIn (tgt := 52) dX0_tryLine_18 (by omega) (by omega) (by rw [hk19]; rfl) (by decide) ?_
          refine JT_aload_n (q := 2) dX0_tryLine_52 rfl rfl ?_
          refine JT_aload_n (q := 0) dX0_tryLine_53 rfl rfl ?_
          refine JS_getR (x := (k0 + 2)) dX0_tryLine_54 flX0_15 (bxB hk0) (bx2 hk0) (bxN hk0) (Or.inr ⟨_, ct_0_2⟩) (bxR2 hk0) ?_
          refine JT_iload_n (q := 1) dX0_tryLine_57 rfl rfl ?_
          obtain ⟨o4, h⟩ := h
          refine JS_iald dX0_tryLine_58 (bxB2 hk0) (bx2k hk0 _) (bxNk hk0 (Nat.le_of_ble_eq_true rfl)) o4 ?_
          refine JT_aload_n (q := 0) dX0_tryLine_59 rfl rfl ?_
          refine JS_getR (x := (k0 + 3)) dX0_tryLine_60 flX0_18 (bxB hk0) (bx2 hk0) (bxN hk0) (Or.inr ⟨_, ct_0_3⟩) (bxR3 hk0) ?_
          refine JT_iload_n (q := 1) dX0_tryLine_63 rfl rfl ?_
          obtain ⟨o5, h⟩ := h
          refine JS_iald dX0_tryLine_64 (bxB3 hk0) (bx2k hk0 _) (bxNk hk0 (Nat.le_of_ble_eq_true rfl)) o5 ?_
          refine JT_aload_n (q := 0) dX0_tryLine_65 rfl rfl ?_
          refine JS_getR (x := (k0 + 4)) dX0_tryLine_66 flX0_21 (bxB hk0) (bx2 hk0) (bxN hk0) (Or.inr ⟨_, ct_0_4⟩) (bxR4 hk0) ?_
          refine JT_iload_n (q := 1) dX0_tryLine_69 rfl rfl ?_
          obtain ⟨o6, h⟩ := h
          refine JS_iald dX0_tryLine_70 (bxB4 hk0) (bx2k hk0 _) (bxNk hk0 (Nat.le_of_ble_eq_true rfl)) o6 ?_
          refine JT_aload_n (q := 0) dX0_tryLine_71 rfl rfl ?_
          refine JS_getR (x := (k0 + 5)) dX0_tryLine_72 flX0_24 (bxB hk0) (bx2 hk0) (bxN hk0) (Or.inr ⟨_, ct_0_5⟩) (bxR5 hk0) ?_
          refine JT_iload_n (q := 1) dX0_tryLine_75 rfl rfl ?_
          obtain ⟨o7, h⟩ := h
          refine JS_iald dX0_tryLine_76 (bxB5 hk0) (bx2k hk0 _) (bxNk hk0 (Nat.le_of_ble_eq_true rfl)) o7 ?_
          obtain ⟨o9, h⟩ := h
          refine JS_callVI (M' := MX4_tryWrite) (d' := 4) (As := [.int (gI s (k0 + 2) (a1).toNatClampNeg), .int (gI s (k0 + 3) (a1).toNatClampNeg), .int (gI s (k0 + 4) (a1).toNatClampNeg), .int (gI s (k0 + 5) (a1).toNatClampNeg)]) (rest := []) (P := (fun zv9 wm9 => (vX4_tryWrite s L2 P2 (gI s (k0 + 2) (a1).toNatClampNeg) (gI s (k0 + 3) (a1).toNatClampNeg) (gI s (k0 + 4) (a1).toNatClampNeg) (gI s (k0 + 5) (a1).toNatClampNeg)) = zv9 ∧ (mX4_tryWrite s L2 P2 (gI s (k0 + 2) (a1).toNatClampNeg) (gI s (k0 + 3) (a1).toNatClampNeg) (gI s (k0 + 4) (a1).toNatClampNeg) (gI s (k0 + 5) (a1).toNatClampNeg)) = wm9)) dX0_tryLine_77 cvX0_118 okX4_tryWrite rfl (Nat.le_of_ble_eq_true rfl) (lxB hL2) (lx2 hL2) (lxN hL2) hci_4 (Nat.le_of_ble_eq_true rfl) (Nat.le_of_ble_eq_true rfl) (pX4_tryWrite hL2 ((gI s (k0 + 2) (a1).toNatClampNeg)) ((gI s (k0 + 3) (a1).toNatClampNeg)) ((gI s (k0 + 4) (a1).toNatClampNeg)) ((gI s (k0 + 5) (a1).toNatClampNeg)) o9 ⟨rfl, rfl⟩) (fun zv9 wm9 hq9 => ?_)
          obtain ⟨rfl, rfl⟩ := hq9
          obtain ⟨s8, hs8⟩ : ∃ z, z = (mX4_tryWrite s L2 P2 (gI s (k0 + 2) (a1).toNatClampNeg) (gI s (k0 + 3) (a1).toNatClampNeg) (gI s (k0 + 4) (a1).toNatClampNeg) (gI s (k0 + 5) (a1).toNatClampNeg)) := ⟨_, rfl⟩
          replace h := h s8 hs8
          rw [← hs8]
          exact JS_iret dX0_tryLine_80 rfl rfl h
        · have h := h.2.1 (i32_of_toInt hk19)
          refine JT_tableIn (tgt := 81) dX0_tryLine_18 (by omega) (by omega) (by rw [hk19]; rfl) (by decide) ?_
          refine JT_aload_n (q := 2) dX0_tryLine_81 rfl rfl ?_
          refine JT_aload_n (q := 0) dX0_tryLine_82 rfl rfl ?_
          refine JS_getR (x := (k0 + 2)) dX0_tryLine_83 flX0_15 (bxB hk0) (bx2 hk0) (bxN hk0) (Or.inr ⟨_, ct_0_2⟩) (bxR2 hk0) ?_
          refine JT_iload_n (q := 1) dX0_tryLine_86 rfl rfl ?_
          obtain ⟨o10, h⟩ := h
          refine JS_iald dX0_tryLine_87 (bxB2 hk0) (bx2k hk0 _) (bxNk hk0 (Nat.le_of_ble_eq_true rfl)) o10 ?_
          obtain ⟨o11, h⟩ := h
          refine JS_callVI (M' := MX4_tryStrike) (d' := 3) (As := [.int (gI s (k0 + 2) (a1).toNatClampNeg)]) (rest := []) (P := (fun zv9 wm9 => (vX4_tryStrike s L2 P2 (gI s (k0 + 2) (a1).toNatClampNeg)) = zv9 ∧ (mX4_tryStrike s L2 P2 (gI s (k0 + 2) (a1).toNatClampNeg)) = wm9)) dX0_tryLine_88 cvX0_124 okX4_tryStrike rfl (Nat.le_of_ble_eq_true rfl) (lxB hL2) (lx2 hL2) (lxN hL2) hci_4 (Nat.le_of_ble_eq_true rfl) (Nat.le_of_ble_eq_true rfl) (pX4_tryStrike hL2 ((gI s (k0 + 2) (a1).toNatClampNeg)) o11 ⟨rfl, rfl⟩) (fun zv9 wm9 hq9 => ?_)
          obtain ⟨rfl, rfl⟩ := hq9
          exact JS_iret dX0_tryLine_91 rfl rfl h
        · have h := h.2.2.1 (i32_of_toInt hk19)
          refine JT_tableIn (tgt := 92) dX0_tryLine_18 (by omega) (by omega) (by rw [hk19]; rfl) (by decide) ?_
          refine JT_aload_n (q := 2) dX0_tryLine_92 rfl rfl ?_
          refine JT_aload_n (q := 0) dX0_tryLine_93 rfl rfl ?_
          refine JS_getR (x := (k0 + 2)) dX0_tryLine_94 flX0_15 (bxB hk0) (bx2 hk0) (bxN hk0) (Or.inr ⟨_, ct_0_2⟩) (bxR2 hk0) ?_
          refine JT_iload_n (q := 1) dX0_tryLine_97 rfl rfl ?_
          obtain ⟨o12, h⟩ := h
          refine JS_iald dX0_tryLine_98 (bxB2 hk0) (bx2k hk0 _) (bxNk hk0 (Nat.le_of_ble_eq_true rfl)) o12 ?_
          refine JT_aload_n (q := 0) dX0_tryLine_99 rfl rfl ?_
          refine JS_getR (x := (k0 + 3)) dX0_tryLine_100 flX0_18 (bxB hk0) (bx2 hk0) (bxN hk0) (Or.inr ⟨_, ct_0_3⟩) (bxR3 hk0) ?_
          refine JT_iload_n (q := 1) dX0_tryLine_103 rfl rfl ?_
          obtain ⟨o13, h⟩ := h
          refine JS_iald dX0_tryLine_104 (bxB3 hk0) (bx2k hk0 _) (bxNk hk0 (Nat.le_of_ble_eq_true rfl)) o13 ?_
          obtain ⟨o14, h⟩ := h
          refine JS_callVI (M' := MX4_tryScar) (d' := 3) (As := [.int (gI s (k0 + 2) (a1).toNatClampNeg), .int (gI s (k0 + 3) (a1).toNatClampNeg)]) (rest := []) (P := (fun zv9 wm9 => (vX4_tryScar s L2 P2 (gI s (k0 + 2) (a1).toNatClampNeg) (gI s (k0 + 3) (a1).toNatClampNeg)) = zv9 ∧ (mX4_tryScar s L2 P2 (gI s (k0 + 2) (a1).toNatClampNeg) (gI s (k0 + 3) (a1).toNatClampNeg)) = wm9)) dX0_tryLine_105 cvX0_128 okX4_tryScar rfl (Nat.le_of_ble_eq_true rfl) (lxB hL2) (lx2 hL2) (lxN hL2) hci_4 (Nat.le_of_ble_eq_true rfl) (Nat.le_of_ble_eq_true rfl) (pX4_tryScar hL2 ((gI s (k0 + 2) (a1).toNatClampNeg)) ((gI s (k0 + 3) (a1).toNatClampNeg)) o14 ⟨rfl, rfl⟩) (fun zv9 wm9 hq9 => ?_)
          obtain ⟨rfl, rfl⟩ := hq9
          exact JS_iret dX0_tryLine_108 rfl rfl h
        · have h := h.2.2.2.1 (i32_of_toInt hk19)
          refine JT_tableIn (tgt := 109) dX0_tryLine_18 (by omega) (by omega) (by rw [hk19]; rfl) (by decide) ?_
          refine JT_aload_n (q := 2) dX0_tryLine_109 rfl rfl ?_
          refine JT_aload_n (q := 3) dX0_tryLine_110 rfl rfl ?_
          obtain ⟨o15, h⟩ := h
          refine JS_callVI (M' := MX4_tryCut) (d' := 407) (As := [.ref 218]) (rest := []) (P := (fun zv9 wm9 => (vX4_tryCut s L2 P2) = zv9 ∧ (mX4_tryCut s L2 P2) = wm9)) dX0_tryLine_111 cvX0_132 okX4_tryCut rfl (Nat.le_of_ble_eq_true rfl) (lxB hL2) (lx2 hL2) (lxN hL2) hci_4 (Nat.le_of_ble_eq_true rfl) (Nat.le_of_ble_eq_true rfl) (pX4_tryCut hL2  o15 ⟨rfl, rfl⟩) (fun zv9 wm9 hq9 => ?_)
          obtain ⟨rfl, rfl⟩ := hq9
          exact JS_iret dX0_tryLine_114 rfl rfl h
        · have h := h.2.2.2.2.1 (i32_of_toInt hk19)
          refine JT_tableIn (tgt := 115) dX0_tryLine_18 (by omega) (by omega) (by rw [hk19]; rfl) (by decide) ?_
          refine JT_aload_n (q := 2) dX0_tryLine_115 rfl rfl ?_
          refine JT_aload_n (q := 0) dX0_tryLine_116 rfl rfl ?_
          refine JS_getR (x := (k0 + 2)) dX0_tryLine_117 flX0_15 (bxB hk0) (bx2 hk0) (bxN hk0) (Or.inr ⟨_, ct_0_2⟩) (bxR2 hk0) ?_
          refine JT_iload_n (q := 1) dX0_tryLine_120 rfl rfl ?_
          obtain ⟨o16, h⟩ := h
          refine JS_iald dX0_tryLine_121 (bxB2 hk0) (bx2k hk0 _) (bxNk hk0 (Nat.le_of_ble_eq_true rfl)) o16 ?_
          refine JT_aload_n (q := 0) dX0_tryLine_122 rfl rfl ?_
          refine JS_getR (x := (k0 + 3)) dX0_tryLine_123 flX0_18 (bxB hk0) (bx2 hk0) (bxN hk0) (Or.inr ⟨_, ct_0_3⟩) (bxR3 hk0) ?_
          refine JT_iload_n (q := 1) dX0_tryLine_126 rfl rfl ?_
          obtain ⟨o17, h⟩ := h
          refine JS_iald dX0_tryLine_127 (bxB3 hk0) (bx2k hk0 _) (bxNk hk0 (Nat.le_of_ble_eq_true rfl)) o17 ?_
          obtain ⟨o18, h⟩ := h
          refine JS_callVI (M' := MX4_tryBury) (d' := 2) (As := [.int (gI s (k0 + 2) (a1).toNatClampNeg), .int (gI s (k0 + 3) (a1).toNatClampNeg)]) (rest := []) (P := (fun zv9 wm9 => (vX4_tryBury s L2 P2 (gI s (k0 + 2) (a1).toNatClampNeg) (gI s (k0 + 3) (a1).toNatClampNeg)) = zv9 ∧ (mX4_tryBury s L2 P2 (gI s (k0 + 2) (a1).toNatClampNeg) (gI s (k0 + 3) (a1).toNatClampNeg)) = wm9)) dX0_tryLine_128 cvX0_136 okX4_tryBury rfl (Nat.le_of_ble_eq_true rfl) (lxB hL2) (lx2 hL2) (lxN hL2) hci_4 (Nat.le_of_ble_eq_true rfl) (Nat.le_of_ble_eq_true rfl) (pX4_tryBury hL2 ((gI s (k0 + 2) (a1).toNatClampNeg)) ((gI s (k0 + 3) (a1).toNatClampNeg)) o18 ⟨rfl, rfl⟩) (fun zv9 wm9 hq9 => ?_)
          obtain ⟨rfl, rfl⟩ := hq9
          exact JS_iret dX0_tryLine_131 rfl rfl h
    · have h := h.2 hc20
      refine JT_iconst (v := 0) dX0_tryLine_10 ic_0 ?_
      exact JS_iret dX0_tryLine_11 rfl rfl h
set_option maxRecDepth 1000000 in
theorem pX0_tryLine {k0 : Nat} (hk0 : k0 ∈ BX) (a1 : Int32) {L2 P2 : Nat} (hL2 : (L2, P2) ∈ LX) {s : SM} {Q : Int32 → SM → Prop} (hr : rX0_tryLine s k0 a1 L2 P2) (h : Q (vX0_tryLine s k0 a1 L2 P2) (mX0_tryLine s k0 a1 L2 P2)) : KI MX0_tryLine 408 [.ref k0, .int a1, .ref L2, .ref 218] s Q := by
  refine bX0_tryLine hk0 a1 hL2 ?_
  unfold rX0_tryLine at hr
  unfold vX0_tryLine mX0_tryLine at h
  refine ⟨fun c => ?_, fun c => ?_⟩
  · replace h := q2p c h
    first | exact h | contradiction
  · replace hr := hr c
    replace h := q2n c h
    refine ⟨fun c => ?_, fun c => ?_⟩
    · replace hr := hr c
      replace h := q2p c h
      refine ⟨hr.1, ?_⟩
      replace hr := hr.2
      refine ⟨fun c => ?_, fun c => ?_, fun c => ?_, fun c => ?_, fun c => ?_, fun c => ?_⟩
      · replace hr := hr.1 c
        replace h := q2p c h
        refine ⟨hr.1, ?_⟩
        replace hr := hr.2
        refine ⟨hr.1, ?_⟩
        replace hr := hr.2
        refine ⟨hr.1, ?_⟩
        replace hr := hr.2
        refine ⟨hr.1, ?_⟩
        replace hr := hr.2
        refine ⟨hr, ?_⟩
        intro s8 e9
        try rw [← e9] at h
        try dsimp only at h
        first | exact h | contradiction
      · replace hr := hr.2.1 c
        have n0 : ¬ (gI s (k0 + 1) (a1).toNatClampNeg) = (0 : Int32) := by rw [c]; decide
        replace h := q2n n0 h
        replace h := q2p c h
        refine ⟨hr.1, ?_⟩
        replace hr := hr.2
        refine ⟨hr, ?_⟩
        first | exact h | contradiction
      · replace hr := hr.2.2.1 c
        have n0 : ¬ (gI s (k0 + 1) (a1).toNatClampNeg) = (0 : Int32) := by rw [c]; decide
        replace h := q2n n0 h
        have n1 : ¬ (gI s (k0 + 1) (a1).toNatClampNeg) = (1 : Int32) := by rw [c]; decide
        replace h := q2n n1 h
        replace h := q2p c h
        refine ⟨hr.1, ?_⟩
        replace hr := hr.2
        refine ⟨hr.1, ?_⟩
        replace hr := hr.2
        refine ⟨hr, ?_⟩
        first | exact h | contradiction
      · replace hr := hr.2.2.2.1 c
        have n0 : ¬ (gI s (k0 + 1) (a1).toNatClampNeg) = (0 : Int32) := by rw [c]; decide
        replace h := q2n n0 h
        have n1 : ¬ (gI s (k0 + 1) (a1).toNatClampNeg) = (1 : Int32) := by rw [c]; decide
        replace h := q2n n1 h
        have n2 : ¬ (gI s (k0 + 1) (a1).toNatClampNeg) = (2 : Int32) := by rw [c]; decide
        replace h := q2n n2 h
        replace h := q2p c h
        refine ⟨hr, ?_⟩
        first | exact h | contradiction
      · replace hr := hr.2.2.2.2 c
        have n0 : ¬ (gI s (k0 + 1) (a1).toNatClampNeg) = (0 : Int32) := by rw [c]; decide
        replace h := q2n n0 h
        have n1 : ¬ (gI s (k0 + 1) (a1).toNatClampNeg) = (1 : Int32) := by rw [c]; decide
        replace h := q2n n1 h
        have n2 : ¬ (gI s (k0 + 1) (a1).toNatClampNeg) = (2 : Int32) := by rw [c]; decide
        replace h := q2n n2 h
        have n3 : ¬ (gI s (k0 + 1) (a1).toNatClampNeg) = (3 : Int32) := by rw [c]; decide
        replace h := q2n n3 h
        replace h := q2p c h
        refine ⟨hr.1, ?_⟩
        replace hr := hr.2
        refine ⟨hr.1, ?_⟩
        replace hr := hr.2
        refine ⟨hr, ?_⟩
        first | exact h | contradiction
      · have n0 : ¬ (gI s (k0 + 1) (a1).toNatClampNeg) = (0 : Int32) := by intro e9; rw [e9] at c; revert c; decide
        replace h := q2n n0 h
        have n1 : ¬ (gI s (k0 + 1) (a1).toNatClampNeg) = (1 : Int32) := by intro e9; rw [e9] at c; revert c; decide
        replace h := q2n n1 h
        have n2 : ¬ (gI s (k0 + 1) (a1).toNatClampNeg) = (2 : Int32) := by intro e9; rw [e9] at c; revert c; decide
        replace h := q2n n2 h
        have n3 : ¬ (gI s (k0 + 1) (a1).toNatClampNeg) = (3 : Int32) := by intro e9; rw [e9] at c; revert c; decide
        replace h := q2n n3 h
        have n4 : ¬ (gI s (k0 + 1) (a1).toNatClampNeg) = (4 : Int32) := by intro e9; rw [e9] at c; revert c; decide
        replace h := q2n n4 h
        first | exact h | contradiction
    · replace h := q2n c h
      first | exact h | contradiction
set_option maxRecDepth 1000000 in
theorem bX11_cut  {s : SM} {Q : Int32 → SM → Prop} (h : rX2_note s 31 5 ∧ rX4_tryCut (mX2_note s 31 5) 31 5 ∧ (((vX4_tryCut (mX2_note s 31 5) 31 5) = 0 → Q (gI (mX2_keepNoted (mX4_tryCut (mX2_note s 31 5) 31 5) ) 218 3) (mX2_keepNoted (mX4_tryCut (mX2_note s 31 5) 31 5) )) ∧ (¬ (vX4_tryCut (mX2_note s 31 5) 31 5) = 0 → Q (-1 : Int32) (mX4_tryCut (mX2_note s 31 5) 31 5)))) : KI MX11_cut 408 [.ref 2] s Q := by
  show BI MX11_cut 408 0 [(0, .ref 2)] s Q
  refine JT_aload_n (q := 0) dX11_cut_0 rfl rfl ?_
  refine JS_getR (x := 55) dX11_cut_1 flX11_51 BS_2 (Nat.le_of_ble_eq_true rfl) (Nat.le_of_ble_eq_true rfl) (Or.inl ⟨_, ct_11_7⟩) RF_2_7 ?_
  refine JT_aload_n (q := 0) dX11_cut_4 rfl rfl ?_
  refine JS_getR (x := 31) dX11_cut_5 flX11_41 BS_2 (Nat.le_of_ble_eq_true rfl) (Nat.le_of_ble_eq_true rfl) (Or.inl ⟨_, ct_11_5⟩) RF_2_5 ?_
  obtain ⟨o4, h⟩ := h
  refine JS_callVV (M' := MX2_note) (d' := 2) (As := [.ref 31]) (rest := []) (P := (fun wm9 => (mX2_note s 31 5) = wm9)) dX11_cut_8 cvX11_300 okX2_note rfl (Nat.le_of_ble_eq_true rfl) BS_55 (Nat.le_of_ble_eq_true rfl) (Nat.le_of_ble_eq_true rfl) hci_2 (Nat.le_of_ble_eq_true rfl) (Nat.le_of_ble_eq_true rfl) (pX2_note hL_31  o4 rfl) (fun wm9 hq9 => ?_)
  subst hq9
  refine JT_aload_n (q := 0) dX11_cut_11 rfl rfl ?_
  refine JS_getR (x := 31) dX11_cut_12 flX11_41 BS_2 (Nat.le_of_ble_eq_true rfl) (Nat.le_of_ble_eq_true rfl) (Or.inl ⟨_, ct_11_5⟩) RF_2_5 ?_
  refine JT_aload_n (q := 0) dX11_cut_15 rfl rfl ?_
  refine JS_getR (x := 218) dX11_cut_16 flX11_65 BS_2 (Nat.le_of_ble_eq_true rfl) (Nat.le_of_ble_eq_true rfl) (Or.inl ⟨_, ct_11_9⟩) RF_2_9 ?_
  obtain ⟨o3, h⟩ := h
  refine JS_callVI (M' := MX4_tryCut) (d' := 407) (As := [.ref 218]) (rest := []) (P := (fun zv9 wm9 => (vX4_tryCut (mX2_note s 31 5) 31 5) = zv9 ∧ (mX4_tryCut (mX2_note s 31 5) 31 5) = wm9)) dX11_cut_19 cvX11_317 okX4_tryCut rfl (Nat.le_of_ble_eq_true rfl) BS_31 (Nat.le_of_ble_eq_true rfl) (Nat.le_of_ble_eq_true rfl) hci_4 (Nat.le_of_ble_eq_true rfl) (Nat.le_of_ble_eq_true rfl) (pX4_tryCut hL_31  o3 ⟨rfl, rfl⟩) (fun zv9 wm9 hq9 => ?_)
  obtain ⟨rfl, rfl⟩ := hq9
  refine JT_if_eq (tgt := 27) dX11_cut_22 (by decide) (fun hc2 => ?_) (fun hc2 => ?_)
  · have h := h.1 hc2
    refine JT_aload_n (q := 0) dX11_cut_27 rfl rfl ?_
    refine JS_getR (x := 55) dX11_cut_28 flX11_51 BS_2 (Nat.le_of_ble_eq_true rfl) (Nat.le_of_ble_eq_true rfl) (Or.inl ⟨_, ct_11_7⟩) RF_2_7 ?_
    refine JS_callVV (M' := MX2_keepNoted) (d' := 1) (As := []) (rest := []) (P := (fun wm9 => (mX2_keepNoted (mX4_tryCut (mX2_note s 31 5) 31 5) ) = wm9)) dX11_cut_31 cvX11_308 okX2_keepNoted rfl (Nat.le_of_ble_eq_true rfl) BS_55 (Nat.le_of_ble_eq_true rfl) (Nat.le_of_ble_eq_true rfl) hci_2 (Nat.le_of_ble_eq_true rfl) (Nat.le_of_ble_eq_true rfl) (pX2_keepNoted    rfl) (fun wm9 hq9 => ?_)
    subst hq9
    refine JT_aload_n (q := 0) dX11_cut_34 rfl rfl ?_
    refine JS_getR (x := 218) dX11_cut_35 flX11_65 BS_2 (Nat.le_of_ble_eq_true rfl) (Nat.le_of_ble_eq_true rfl) (Or.inl ⟨_, ct_11_9⟩) RF_2_9 ?_
    refine JS_getI dX11_cut_38 flX11_321 BS_218 (Nat.le_of_ble_eq_true rfl) (Nat.le_of_ble_eq_true rfl) (Or.inl ct_7_3) ?_
    exact JS_iret dX11_cut_41 rfl rfl h
  · have h := h.2 hc2
    refine JT_iconst (v := -1) dX11_cut_25 ic_m1 ?_
    exact JS_iret dX11_cut_26 rfl rfl h
set_option maxRecDepth 1000000 in
theorem pX11_cut  {s : SM} {Q : Int32 → SM → Prop} (hr : rX11_cut s ) (h : Q (vX11_cut s ) (mX11_cut s )) : KI MX11_cut 408 [.ref 2] s Q := by
  refine bX11_cut  ?_
  unfold rX11_cut at hr
  unfold vX11_cut mX11_cut at h
  refine ⟨hr.1, ?_⟩
  replace hr := hr.2
  refine ⟨hr, ?_⟩
  refine ⟨fun c => ?_, fun c => ?_⟩
  · replace h := q2p c h
    first | exact h | contradiction
  · replace h := q2n c h
    first | exact h | contradiction
set_option maxRecDepth 1000000 in
theorem bX11_lasts_59 (a1 : Int32) (a2 : Int32) (a3 : Int32) (a4 : Int32) (a5 : Int32) (a6 : Int32) {s : SM} {Q : Int32 → SM → Prop} (h : (((200 : Int32) ≤ a6 → Q ((gI s 43 9) - a3) s) ∧ (¬ (200 : Int32) ≤ a6 → (((10 : Int32) ≤ a4 → Q ((gI s 43 9) - a3) s) ∧ (¬ (10 : Int32) ≤ a4 → rX11_drawn s (vX11_nextSeed s a5) (gI s 5 6) ∧ rX11_drawn s (vX11_nextSeed s (vX11_nextSeed s a5)) (gI s 5 6) ∧ rX11_drawn s (vX11_nextSeed s (vX11_nextSeed s (vX11_nextSeed s a5))) (gI s 5 7) ∧ rX11_drawn s (vX11_nextSeed s (vX11_nextSeed s (vX11_nextSeed s (vX11_nextSeed s a5)))) (99 : Int32) ∧ ((¬ a1 = (1 : Int32) → BI MX11_lasts 408 176 [(0, .ref 2), (1, .int a1), (2, .int a2), (3, .int a3), (4, .int a4), (5, .int (vX11_nextSeed s (vX11_nextSeed s (vX11_nextSeed s (vX11_nextSeed s a5))))), (6, .int a6), (7, .int (vX11_drawn s (vX11_nextSeed s a5) (gI s 5 6))), (8, .int (vX11_drawn s (vX11_nextSeed s (vX11_nextSeed s a5)) (gI s 5 6))), (9, .int (vX11_drawn s (vX11_nextSeed s (vX11_nextSeed s (vX11_nextSeed s a5))) (gI s 5 7))), (10, .int ((vX11_drawn s (vX11_nextSeed s (vX11_nextSeed s (vX11_nextSeed s (vX11_nextSeed s a5)))) (99 : Int32)) + (1 : Int32)))] s Q) ∧ (a1 = (1 : Int32) → rX4_latestOpen s 43 5 a3 ∧ rX4_tryStrike s 43 5 (vX4_latestOpen s 43 5 a3) ∧ BI MX11_lasts 408 176 [(0, .ref 2), (1, .int a1), (2, .int a2), (3, .int a3), (4, .int a4), (5, .int (vX11_nextSeed s (vX11_nextSeed s (vX11_nextSeed s (vX11_nextSeed s a5))))), (6, .int a6), (7, .int (vX11_drawn s (vX11_nextSeed s a5) (gI s 5 6))), (8, .int (vX11_drawn s (vX11_nextSeed s (vX11_nextSeed s a5)) (gI s 5 6))), (9, .int (vX11_drawn s (vX11_nextSeed s (vX11_nextSeed s (vX11_nextSeed s a5))) (gI s 5 7))), (10, .int ((vX11_drawn s (vX11_nextSeed s (vX11_nextSeed s (vX11_nextSeed s (vX11_nextSeed s a5)))) (99 : Int32)) + (1 : Int32)))] (mX4_tryStrike s 43 5 (vX4_latestOpen s 43 5 a3)) Q))))))) : BI MX11_lasts 408 59 [(0, .ref 2), (1, .int a1), (2, .int a2), (3, .int a3), (4, .int a4), (5, .int a5), (6, .int a6)] s Q := by
  refine JT_iload (q := 6) dX11_lasts_59 rfl ?_
  refine JT_sipush (v := 200) dX11_lasts_61 sp_200 ?_
  refine JT_icmp_ge (tgt := 237) dX11_lasts_64 (by decide) (fun hc13 => ?_) (fun hc13 => ?_)
  · have h := h.1 hc13
    refine JT_aload_n (q := 0) dX11_lasts_237 rfl rfl ?_
    refine JS_getR (x := 43) dX11_lasts_238 flX11_45 BS_2 (Nat.le_of_ble_eq_true rfl) (Nat.le_of_ble_eq_true rfl) (Or.inl ⟨_, ct_11_6⟩) RF_2_6 ?_
    refine JS_getI dX11_lasts_241 flX11_162 BS_43 (Nat.le_of_ble_eq_true rfl) (Nat.le_of_ble_eq_true rfl) (Or.inl ct_4_9) ?_
    refine JT_iload_n (q := 3) dX11_lasts_244 rfl rfl ?_
    refine JT_isub dX11_lasts_245 ?_
    exact JS_iret dX11_lasts_246 rfl rfl h
  · have h := h.2 hc13
    refine JT_iload (q := 4) dX11_lasts_67 rfl ?_
    refine JT_bipush (v := 10) dX11_lasts_69 bp_10 ?_
    refine JT_icmp_ge (tgt := 237) dX11_lasts_71 (by decide) (fun hc12 => ?_) (fun hc12 => ?_)
    · have h := h.1 hc12
      refine JT_aload_n (q := 0) dX11_lasts_237 rfl rfl ?_
      refine JS_getR (x := 43) dX11_lasts_238 flX11_45 BS_2 (Nat.le_of_ble_eq_true rfl) (Nat.le_of_ble_eq_true rfl) (Or.inl ⟨_, ct_11_6⟩) RF_2_6 ?_
      refine JS_getI dX11_lasts_241 flX11_162 BS_43 (Nat.le_of_ble_eq_true rfl) (Nat.le_of_ble_eq_true rfl) (Or.inl ct_4_9) ?_
      refine JT_iload_n (q := 3) dX11_lasts_244 rfl rfl ?_
      refine JT_isub dX11_lasts_245 ?_
      exact JS_iret dX11_lasts_246 rfl rfl h
    · have h := h.2 hc12
      refine JT_iload (q := 5) dX11_lasts_74 rfl ?_
      refine JS_callSI (M' := MX11_nextSeed) (d' := 0) (As := [.int a5]) (rest := []) (P := (fun zv9 wm9 => (vX11_nextSeed s a5) = zv9 ∧ s = wm9)) dX11_lasts_76 cvX11_371 okX11_nextSeed rfl (Nat.le_of_ble_eq_true rfl) (Nat.le_of_ble_eq_true rfl) (Nat.le_of_ble_eq_true rfl) (pX11_nextSeed  (a5)  ⟨rfl, rfl⟩) (fun zv9 wm9 hq9 => ?_)
      obtain ⟨rfl, rfl⟩ := hq9
      refine JT_istore (lv' := [(5, .int (vX11_nextSeed s a5)), (0, .ref 2), (1, .int a1), (2, .int a2), (3, .int a3), (4, .int a4), (6, .int a6)]) dX11_lasts_79 (Nat.le_of_ble_eq_true rfl) rfl ?_
      refine JT_iload (q := 0) dX11_lasts_81 rfl ?_
      refine JT_aload_n (q := 1) dX11_lasts_83 rfl rfl ?_
      refine JS_getR (x := 5) dX11_lasts_84 flX11_19 BS_2 (Nat.le_of_ble_eq_true rfl) (Nat.le_of_ble_eq_true rfl) (Or.inl ⟨_, ct_11_1⟩) RF_2_1 ?_
      refine JS_getI dX11_lasts_87 flX11_150 BS_5 (Nat.le_of_ble_eq_true rfl) (Nat.le_of_ble_eq_true rfl) (Or.inl ct_6_6) ?_
      obtain ⟨o10, h⟩ := h
      refine JS_callSI (M' := MX11_drawn) (d' := 0) (As := [.int (vX11_nextSeed s a5), .int (gI s 5 6)]) (rest := []) (P := (fun zv9 wm9 => (vX11_drawn s (vX11_nextSeed s a5) (gI s 5 6)) = zv9 ∧ s = wm9)) dX11_lasts_90 cvX11_374 okX11_drawn rfl (Nat.le_of_ble_eq_true rfl) (Nat.le_of_ble_eq_true rfl) (Nat.le_of_ble_eq_true rfl) (pX11_drawn  ((vX11_nextSeed s a5)) ((gI s 5 6)) o10 ⟨rfl, rfl⟩) (fun zv9 wm9 hq9 => ?_)
      obtain ⟨rfl, rfl⟩ := hq9
      refine JT_istore (lv' := [(7, .int (vX11_drawn s (vX11_nextSeed s a5) (gI s 5 6))), (5, .int (vX11_nextSeed s a5)), (0, .ref 2), (1, .int a1), (2, .int a2), (3, .int a3), (4, .int a4), (6, .int a6)]) dX11_lasts_93 (Nat.le_of_ble_eq_true rfl) rfl ?_
      refine JT_iload (q := 1) dX11_lasts_95 rfl ?_
      refine JS_callSI (M' := MX11_nextSeed) (d' := 0) (As := [.int (vX11_nextSeed s a5)]) (rest := []) (P := (fun zv9 wm9 => (vX11_nextSeed s (vX11_nextSeed s a5)) = zv9 ∧ s = wm9)) dX11_lasts_97 cvX11_371 okX11_nextSeed rfl (Nat.le_of_ble_eq_true rfl) (Nat.le_of_ble_eq_true rfl) (Nat.le_of_ble_eq_true rfl) (pX11_nextSeed  ((vX11_nextSeed s a5))  ⟨rfl, rfl⟩) (fun zv9 wm9 hq9 => ?_)
      obtain ⟨rfl, rfl⟩ := hq9
      refine JT_istore (lv' := [(5, .int (vX11_nextSeed s (vX11_nextSeed s a5))), (7, .int (vX11_drawn s (vX11_nextSeed s a5) (gI s 5 6))), (0, .ref 2), (1, .int a1), (2, .int a2), (3, .int a3), (4, .int a4), (6, .int a6)]) dX11_lasts_100 (Nat.le_of_ble_eq_true rfl) rfl ?_
      refine JT_iload (q := 0) dX11_lasts_102 rfl ?_
      refine JT_aload_n (q := 2) dX11_lasts_104 rfl rfl ?_
      refine JS_getR (x := 5) dX11_lasts_105 flX11_19 BS_2 (Nat.le_of_ble_eq_true rfl) (Nat.le_of_ble_eq_true rfl) (Or.inl ⟨_, ct_11_1⟩) RF_2_1 ?_
      refine JS_getI dX11_lasts_108 flX11_150 BS_5 (Nat.le_of_ble_eq_true rfl) (Nat.le_of_ble_eq_true rfl) (Or.inl ct_6_6) ?_
      obtain ⟨o8, h⟩ := h
      refine JS_callSI (M' := MX11_drawn) (d' := 0) (As := [.int (vX11_nextSeed s (vX11_nextSeed s a5)), .int (gI s 5 6)]) (rest := []) (P := (fun zv9 wm9 => (vX11_drawn s (vX11_nextSeed s (vX11_nextSeed s a5)) (gI s 5 6)) = zv9 ∧ s = wm9)) dX11_lasts_111 cvX11_374 okX11_drawn rfl (Nat.le_of_ble_eq_true rfl) (Nat.le_of_ble_eq_true rfl) (Nat.le_of_ble_eq_true rfl) (pX11_drawn  ((vX11_nextSeed s (vX11_nextSeed s a5))) ((gI s 5 6)) o8 ⟨rfl, rfl⟩) (fun zv9 wm9 hq9 => ?_)
      obtain ⟨rfl, rfl⟩ := hq9
      refine JT_istore (lv' := [(8, .int (vX11_drawn s (vX11_nextSeed s (vX11_nextSeed s a5)) (gI s 5 6))), (5, .int (vX11_nextSeed s (vX11_nextSeed s a5))), (7, .int (vX11_drawn s (vX11_nextSeed s a5) (gI s 5 6))), (0, .ref 2), (1, .int a1), (2, .int a2), (3, .int a3), (4, .int a4), (6, .int a6)]) dX11_lasts_114 (Nat.le_of_ble_eq_true rfl) rfl ?_
      refine JT_iload (q := 1) dX11_lasts_116 rfl ?_
      refine JS_callSI (M' := MX11_nextSeed) (d' := 0) (As := [.int (vX11_nextSeed s (vX11_nextSeed s a5))]) (rest := []) (P := (fun zv9 wm9 => (vX11_nextSeed s (vX11_nextSeed s (vX11_nextSeed s a5))) = zv9 ∧ s = wm9)) dX11_lasts_118 cvX11_371 okX11_nextSeed rfl (Nat.le_of_ble_eq_true rfl) (Nat.le_of_ble_eq_true rfl) (Nat.le_of_ble_eq_true rfl) (pX11_nextSeed  ((vX11_nextSeed s (vX11_nextSeed s a5)))  ⟨rfl, rfl⟩) (fun zv9 wm9 hq9 => ?_)
      obtain ⟨rfl, rfl⟩ := hq9
      refine JT_istore (lv' := [(5, .int (vX11_nextSeed s (vX11_nextSeed s (vX11_nextSeed s a5)))), (8, .int (vX11_drawn s (vX11_nextSeed s (vX11_nextSeed s a5)) (gI s 5 6))), (7, .int (vX11_drawn s (vX11_nextSeed s a5) (gI s 5 6))), (0, .ref 2), (1, .int a1), (2, .int a2), (3, .int a3), (4, .int a4), (6, .int a6)]) dX11_lasts_121 (Nat.le_of_ble_eq_true rfl) rfl ?_
      refine JT_iload (q := 0) dX11_lasts_123 rfl ?_
      refine JT_aload_n (q := 3) dX11_lasts_125 rfl rfl ?_
      refine JS_getR (x := 5) dX11_lasts_126 flX11_19 BS_2 (Nat.le_of_ble_eq_true rfl) (Nat.le_of_ble_eq_true rfl) (Or.inl ⟨_, ct_11_1⟩) RF_2_1 ?_
      refine JS_getI dX11_lasts_129 flX11_153 BS_5 (Nat.le_of_ble_eq_true rfl) (Nat.le_of_ble_eq_true rfl) (Or.inl ct_6_7) ?_
      obtain ⟨o6, h⟩ := h
      refine JS_callSI (M' := MX11_drawn) (d' := 0) (As := [.int (vX11_nextSeed s (vX11_nextSeed s (vX11_nextSeed s a5))), .int (gI s 5 7)]) (rest := []) (P := (fun zv9 wm9 => (vX11_drawn s (vX11_nextSeed s (vX11_nextSeed s (vX11_nextSeed s a5))) (gI s 5 7)) = zv9 ∧ s = wm9)) dX11_lasts_132 cvX11_374 okX11_drawn rfl (Nat.le_of_ble_eq_true rfl) (Nat.le_of_ble_eq_true rfl) (Nat.le_of_ble_eq_true rfl) (pX11_drawn  ((vX11_nextSeed s (vX11_nextSeed s (vX11_nextSeed s a5)))) ((gI s 5 7)) o6 ⟨rfl, rfl⟩) (fun zv9 wm9 hq9 => ?_)
      obtain ⟨rfl, rfl⟩ := hq9
      refine JT_istore (lv' := [(9, .int (vX11_drawn s (vX11_nextSeed s (vX11_nextSeed s (vX11_nextSeed s a5))) (gI s 5 7))), (5, .int (vX11_nextSeed s (vX11_nextSeed s (vX11_nextSeed s a5)))), (8, .int (vX11_drawn s (vX11_nextSeed s (vX11_nextSeed s a5)) (gI s 5 6))), (7, .int (vX11_drawn s (vX11_nextSeed s a5) (gI s 5 6))), (0, .ref 2), (1, .int a1), (2, .int a2), (3, .int a3), (4, .int a4), (6, .int a6)]) dX11_lasts_135 (Nat.le_of_ble_eq_true rfl) rfl ?_
      refine JT_iload (q := 1) dX11_lasts_137 rfl ?_
      refine JS_callSI (M' := MX11_nextSeed) (d' := 0) (As := [.int (vX11_nextSeed s (vX11_nextSeed s (vX11_nextSeed s a5)))]) (rest := []) (P := (fun zv9 wm9 => (vX11_nextSeed s (vX11_nextSeed s (vX11_nextSeed s (vX11_nextSeed s a5)))) = zv9 ∧ s = wm9)) dX11_lasts_139 cvX11_371 okX11_nextSeed rfl (Nat.le_of_ble_eq_true rfl) (Nat.le_of_ble_eq_true rfl) (Nat.le_of_ble_eq_true rfl) (pX11_nextSeed  ((vX11_nextSeed s (vX11_nextSeed s (vX11_nextSeed s a5))))  ⟨rfl, rfl⟩) (fun zv9 wm9 hq9 => ?_)
      obtain ⟨rfl, rfl⟩ := hq9
      refine JT_istore (lv' := [(5, .int (vX11_nextSeed s (vX11_nextSeed s (vX11_nextSeed s (vX11_nextSeed s a5))))), (9, .int (vX11_drawn s (vX11_nextSeed s (vX11_nextSeed s (vX11_nextSeed s a5))) (gI s 5 7))), (8, .int (vX11_drawn s (vX11_nextSeed s (vX11_nextSeed s a5)) (gI s 5 6))), (7, .int (vX11_drawn s (vX11_nextSeed s a5) (gI s 5 6))), (0, .ref 2), (1, .int a1), (2, .int a2), (3, .int a3), (4, .int a4), (6, .int a6)]) dX11_lasts_142 (Nat.le_of_ble_eq_true rfl) rfl ?_
      refine JT_iload (q := 0) dX11_lasts_144 rfl ?_
      refine JT_bipush (v := 99) dX11_lasts_146 bp_99 ?_
      obtain ⟨o4, h⟩ := h
      refine JS_callSI (M' := MX11_drawn) (d' := 0) (As := [.int (vX11_nextSeed s (vX11_nextSeed s (vX11_nextSeed s (vX11_nextSeed s a5)))), .int (99 : Int32)]) (rest := []) (P := (fun zv9 wm9 => (vX11_drawn s (vX11_nextSeed s (vX11_nextSeed s (vX11_nextSeed s (vX11_nextSeed s a5)))) (99 : Int32)) = zv9 ∧ s = wm9)) dX11_lasts_148 cvX11_374 okX11_drawn rfl (Nat.le_of_ble_eq_true rfl) (Nat.le_of_ble_eq_true rfl) (Nat.le_of_ble_eq_true rfl) (pX11_drawn  ((vX11_nextSeed s (vX11_nextSeed s (vX11_nextSeed s (vX11_nextSeed s a5))))) ((99 : Int32)) o4 ⟨rfl, rfl⟩) (fun zv9 wm9 hq9 => ?_)
      obtain ⟨rfl, rfl⟩ := hq9
      refine JT_iconst (v := 1) dX11_lasts_151 ic_1 ?_
      refine JT_iadd dX11_lasts_152 ?_
      refine JT_istore (lv' := [(10, .int ((vX11_drawn s (vX11_nextSeed s (vX11_nextSeed s (vX11_nextSeed s (vX11_nextSeed s a5)))) (99 : Int32)) + (1 : Int32))), (5, .int (vX11_nextSeed s (vX11_nextSeed s (vX11_nextSeed s (vX11_nextSeed s a5))))), (9, .int (vX11_drawn s (vX11_nextSeed s (vX11_nextSeed s (vX11_nextSeed s a5))) (gI s 5 7))), (8, .int (vX11_drawn s (vX11_nextSeed s (vX11_nextSeed s a5)) (gI s 5 6))), (7, .int (vX11_drawn s (vX11_nextSeed s a5) (gI s 5 6))), (0, .ref 2), (1, .int a1), (2, .int a2), (3, .int a3), (4, .int a4), (6, .int a6)]) dX11_lasts_153 (Nat.le_of_ble_eq_true rfl) rfl ?_
      refine JT_iload_n (q := 6) dX11_lasts_155 rfl rfl ?_
      refine JT_iconst (v := 1) dX11_lasts_156 ic_1 ?_
      refine JT_icmp_ne (tgt := 176) dX11_lasts_157 (by decide) (fun hc3 => ?_) (fun hc3 => ?_)
      · have h := h.1 hc3
        exact JT_sub [5, 6, 7, 8, 9, 1, 10, 4, 3, 2, 0] rfl h
      · have h := h.2 hc3
        refine JT_aload_n (q := 5) dX11_lasts_160 rfl rfl ?_
        refine JS_getR (x := 43) dX11_lasts_161 flX11_45 BS_2 (Nat.le_of_ble_eq_true rfl) (Nat.le_of_ble_eq_true rfl) (Or.inl ⟨_, ct_11_6⟩) RF_2_6 ?_
        refine JT_aload_n (q := 5) dX11_lasts_164 rfl rfl ?_
        refine JS_getR (x := 43) dX11_lasts_165 flX11_45 BS_2 (Nat.le_of_ble_eq_true rfl) (Nat.le_of_ble_eq_true rfl) (Or.inl ⟨_, ct_11_6⟩) RF_2_6 ?_
        refine JT_iload_n (q := 8) dX11_lasts_168 rfl rfl ?_
        obtain ⟨o2, h⟩ := h
        refine JS_callVI (M' := MX4_latestOpen) (d' := 2) (As := [.int a3]) (rest := [.ref 43]) (P := (fun zv9 wm9 => (vX4_latestOpen s 43 5 a3) = zv9 ∧ s = wm9)) dX11_lasts_169 cvX11_377 okX4_latestOpen rfl (Nat.le_of_ble_eq_true rfl) BS_43 (Nat.le_of_ble_eq_true rfl) (Nat.le_of_ble_eq_true rfl) hci_4 (Nat.le_of_ble_eq_true rfl) (Nat.le_of_ble_eq_true rfl) (pX4_latestOpen hL_43 (a3) o2 ⟨rfl, rfl⟩) (fun zv9 wm9 hq9 => ?_)
        obtain ⟨rfl, rfl⟩ := hq9
        obtain ⟨o1, h⟩ := h
        refine JS_callVI (M' := MX4_tryStrike) (d' := 3) (As := [.int (vX4_latestOpen s 43 5 a3)]) (rest := []) (P := (fun zv9 wm9 => (vX4_tryStrike s 43 5 (vX4_latestOpen s 43 5 a3)) = zv9 ∧ (mX4_tryStrike s 43 5 (vX4_latestOpen s 43 5 a3)) = wm9)) dX11_lasts_172 cvX11_311 okX4_tryStrike rfl (Nat.le_of_ble_eq_true rfl) BS_43 (Nat.le_of_ble_eq_true rfl) (Nat.le_of_ble_eq_true rfl) hci_4 (Nat.le_of_ble_eq_true rfl) (Nat.le_of_ble_eq_true rfl) (pX4_tryStrike hL_43 ((vX4_latestOpen s 43 5 a3)) o1 ⟨rfl, rfl⟩) (fun zv9 wm9 hq9 => ?_)
        obtain ⟨rfl, rfl⟩ := hq9
        refine JT_pop dX11_lasts_175 rfl ?_
        exact JT_sub [5, 6, 7, 8, 9, 1, 10, 4, 3, 2, 0] rfl h
set_option maxRecDepth 1000000 in
theorem bX11_lasts_176 (a1 : Int32) (a2 : Int32) (a3 : Int32) (a4 : Int32) (a5 : Int32) (a6 : Int32) (a7 : Int32) (a8 : Int32) (a9 : Int32) (a10 : Int32) {s : SM} {Q : Int32 → SM → Prop} (h : rX4_tryWrite s 43 5 a7 a8 a10 a9 ∧ ((¬ (vX4_tryWrite s 43 5 a7 a8 a10 a9) = 0 → BI MX11_lasts 408 215 [(0, .ref 2), (1, .int a1), (2, .int a2), (3, .int a3), (4, .int a4), (5, .int a5), (6, .int a6), (7, .int a7), (8, .int a8), (9, .int a9), (10, .int a10), (11, .int (vX4_tryWrite s 43 5 a7 a8 a10 a9))] (mX4_tryWrite s 43 5 a7 a8 a10 a9) Q) ∧ ((vX4_tryWrite s 43 5 a7 a8 a10 a9) = 0 → ((¬ a1 = (2 : Int32) → BI MX11_lasts 408 215 [(0, .ref 2), (1, .int a1), (2, .int a2), (3, .int a3), (4, .int a4), (5, .int a5), (6, .int a6), (7, .int a7), (8, .int a8), (9, .int a9), (10, .int a10), (11, .int (vX4_tryWrite s 43 5 a7 a8 a10 a9))] (mX4_tryWrite s 43 5 a7 a8 a10 a9) Q) ∧ (a1 = (2 : Int32) → rX4_tryCut (mX4_tryWrite s 43 5 a7 a8 a10 a9) 43 5 ∧ BI MX11_lasts 408 215 [(0, .ref 2), (1, .int a1), (2, .int a2), (3, .int a3), (4, .int a4), (5, .int a5), (6, .int a6), (7, .int a7), (8, .int a8), (9, .int a9), (10, .int a10), (11, .int (vX4_tryWrite s 43 5 a7 a8 a10 a9))] (mX4_tryCut (mX4_tryWrite s 43 5 a7 a8 a10 a9) 43 5) Q))))) : BI MX11_lasts 408 176 [(0, .ref 2), (1, .int a1), (2, .int a2), (3, .int a3), (4, .int a4), (5, .int a5), (6, .int a6), (7, .int a7), (8, .int a8), (9, .int a9), (10, .int a10)] s Q := by
  refine JT_aload_n (q := 0) dX11_lasts_176 rfl rfl ?_
  refine JS_getR (x := 43) dX11_lasts_177 flX11_45 BS_2 (Nat.le_of_ble_eq_true rfl) (Nat.le_of_ble_eq_true rfl) (Or.inl ⟨_, ct_11_6⟩) RF_2_6 ?_
  refine JT_iload (q := 7) dX11_lasts_180 rfl ?_
  refine JT_iload (q := 8) dX11_lasts_182 rfl ?_
  refine JT_iload (q := 10) dX11_lasts_184 rfl ?_
  refine JT_iload (q := 9) dX11_lasts_186 rfl ?_
  obtain ⟨o4, h⟩ := h
  refine JS_callVI (M' := MX4_tryWrite) (d' := 4) (As := [.int a7, .int a8, .int a10, .int a9]) (rest := []) (P := (fun zv9 wm9 => (vX4_tryWrite s 43 5 a7 a8 a10 a9) = zv9 ∧ (mX4_tryWrite s 43 5 a7 a8 a10 a9) = wm9)) dX11_lasts_188 cvX11_304 okX4_tryWrite rfl (Nat.le_of_ble_eq_true rfl) BS_43 (Nat.le_of_ble_eq_true rfl) (Nat.le_of_ble_eq_true rfl) hci_4 (Nat.le_of_ble_eq_true rfl) (Nat.le_of_ble_eq_true rfl) (pX4_tryWrite hL_43 (a7) (a8) (a10) (a9) o4 ⟨rfl, rfl⟩) (fun zv9 wm9 hq9 => ?_)
  obtain ⟨rfl, rfl⟩ := hq9
  refine JT_istore (lv' := [(11, .int (vX4_tryWrite s 43 5 a7 a8 a10 a9)), (0, .ref 2), (1, .int a1), (2, .int a2), (3, .int a3), (4, .int a4), (5, .int a5), (6, .int a6), (7, .int a7), (8, .int a8), (9, .int a9), (10, .int a10)]) dX11_lasts_191 (Nat.le_of_ble_eq_true rfl) rfl ?_
  refine JT_iload (q := 0) dX11_lasts_193 rfl ?_
  refine JT_if_ne (tgt := 215) dX11_lasts_195 (by decide) (fun hc3 => ?_) (fun hc3 => ?_)
  · have h := h.1 hc3
    exact JT_sub [1, 2, 3, 4, 5, 6, 7, 8, 9, 10, 11, 0] rfl h
  · have h := h.2 hc3
    refine JT_iload_n (q := 2) dX11_lasts_198 rfl rfl ?_
    refine JT_iconst (v := 2) dX11_lasts_199 ic_2 ?_
    refine JT_icmp_ne (tgt := 215) dX11_lasts_200 (by decide) (fun hc2 => ?_) (fun hc2 => ?_)
    · have h := h.1 hc2
      exact JT_sub [1, 2, 3, 4, 5, 6, 7, 8, 9, 10, 11, 0] rfl h
    · have h := h.2 hc2
      refine JT_aload_n (q := 1) dX11_lasts_203 rfl rfl ?_
      refine JS_getR (x := 43) dX11_lasts_204 flX11_45 BS_2 (Nat.le_of_ble_eq_true rfl) (Nat.le_of_ble_eq_true rfl) (Or.inl ⟨_, ct_11_6⟩) RF_2_6 ?_
      refine JT_aload_n (q := 1) dX11_lasts_207 rfl rfl ?_
      refine JS_getR (x := 218) dX11_lasts_208 flX11_65 BS_2 (Nat.le_of_ble_eq_true rfl) (Nat.le_of_ble_eq_true rfl) (Or.inl ⟨_, ct_11_9⟩) RF_2_9 ?_
      obtain ⟨o1, h⟩ := h
      refine JS_callVI (M' := MX4_tryCut) (d' := 407) (As := [.ref 218]) (rest := []) (P := (fun zv9 wm9 => (vX4_tryCut (mX4_tryWrite s 43 5 a7 a8 a10 a9) 43 5) = zv9 ∧ (mX4_tryCut (mX4_tryWrite s 43 5 a7 a8 a10 a9) 43 5) = wm9)) dX11_lasts_211 cvX11_317 okX4_tryCut rfl (Nat.le_of_ble_eq_true rfl) BS_43 (Nat.le_of_ble_eq_true rfl) (Nat.le_of_ble_eq_true rfl) hci_4 (Nat.le_of_ble_eq_true rfl) (Nat.le_of_ble_eq_true rfl) (pX4_tryCut hL_43  o1 ⟨rfl, rfl⟩) (fun zv9 wm9 hq9 => ?_)
      obtain ⟨rfl, rfl⟩ := hq9
      refine JT_pop dX11_lasts_214 rfl ?_
      exact JT_sub [1, 2, 3, 4, 5, 6, 7, 8, 9, 10, 11, 0] rfl h
set_option maxRecDepth 1000000 in
theorem bX11_lasts_215 (a1 : Int32) (a2 : Int32) (a3 : Int32) (a4 : Int32) (a5 : Int32) (a6 : Int32) (a7 : Int32) (a8 : Int32) (a9 : Int32) (a10 : Int32) (a11 : Int32) {s : SM} {Q : Int32 → SM → Prop} (h : BI MX11_lasts 408 59 [(0, .ref 2), (1, .int a1), (2, .int a2), (3, .int a3), (4, .int (a4 + (if a11 ≤ (1 : Int32) then (0 : Int32) else (1 : Int32)))), (5, .int a5), (6, .int (a6 + 1))] s Q) : BI MX11_lasts 408 215 [(0, .ref 2), (1, .int a1), (2, .int a2), (3, .int a3), (4, .int a4), (5, .int a5), (6, .int a6), (7, .int a7), (8, .int a8), (9, .int a9), (10, .int a10), (11, .int a11)] s Q := by
  refine JT_iload (q := 4) dX11_lasts_215 rfl ?_
  refine JT_iload (q := 11) dX11_lasts_217 rfl ?_
  refine JT_iconst (v := 1) dX11_lasts_219 ic_1 ?_
  have hj1 : ∀ v : Int32, v = (if a11 ≤ (1 : Int32) then (0 : Int32) else (1 : Int32)) → JT MX11_lasts 408 0 0 228 [(0, .ref 2), (1, .int a1), (2, .int a2), (3, .int a3), (4, .int a4), (5, .int a5), (6, .int a6), (7, .int a7), (8, .int a8), (9, .int a9), (10, .int a10), (11, .int a11)] [.int v, .int a4] (std s) (KQ Q) := by
    intro v hv
    subst hv
    refine JT_iadd dX11_lasts_228 ?_
    refine JT_istore (lv' := [(4, .int (a4 + (if a11 ≤ (1 : Int32) then (0 : Int32) else (1 : Int32)))), (0, .ref 2), (1, .int a1), (2, .int a2), (3, .int a3), (5, .int a5), (6, .int a6), (7, .int a7), (8, .int a8), (9, .int a9), (10, .int a10), (11, .int a11)]) dX11_lasts_229 (Nat.le_of_ble_eq_true rfl) rfl ?_
    refine JT_iinc (q := 6) (v := (a6 + 1)) (lv' := [(6, .int (a6 + 1)), (4, .int (a4 + (if a11 ≤ (1 : Int32) then (0 : Int32) else (1 : Int32)))), (0, .ref 2), (1, .int a1), (2, .int a2), (3, .int a3), (5, .int a5), (7, .int a7), (8, .int a8), (9, .int a9), (10, .int a10), (11, .int a11)]) dX11_lasts_231 rfl (by rfl) (Nat.le_of_ble_eq_true rfl) rfl ?_
    refine JT_goto (tgt := 59) dX11_lasts_234 (by decide) ?_
    exact JT_sub [2, 3, 4, 5, 1, 6, 0] rfl h
  refine JT_icmp_le (tgt := 227) dX11_lasts_220 (by decide) (fun hc2 => ?_) (fun hc2 => ?_)
  · refine JT_iconst (v := 0) dX11_lasts_227 ic_0 ?_
    exact hj1 _ (by rw [if_pos hc2])
  · refine JT_iconst (v := 1) dX11_lasts_223 ic_1 ?_
    refine JT_goto (tgt := 228) dX11_lasts_224 (by decide) ?_
    exact hj1 _ (by rw [if_neg hc2])
set_option maxRecDepth 1000000 in
theorem bX11_lasts (a1 : Int32) (a2 : Int32) {s : SM} {Q : Int32 → SM → Prop} (h : ((a1 < 0 → Q (-1 : Int32) s) ∧ (¬ a1 < 0 → (((2 : Int32) < a1 → Q (-1 : Int32) s) ∧ (¬ (2 : Int32) < a1 → (((gI s 5 6) = 0 → Q (-1 : Int32) s) ∧ (¬ (gI s 5 6) = 0 → ((¬ (gI s 5 7) = 0 → rX4_copyFrom s 43 5 31 5 ∧ BI MX11_lasts 408 59 [(0, .ref 2), (1, .int a1), (2, .int a2), (3, .int (gI (mX4_copyFrom s 43 5 31 5) 43 9)), (4, .int (0 : Int32)), (5, .int a2), (6, .int (0 : Int32))] (mX4_copyFrom s 43 5 31 5) Q) ∧ ((gI s 5 7) = 0 → Q (-1 : Int32) s))))))))) : KI MX11_lasts 408 [.ref 2, .int a1, .int a2] s Q := by
  show BI MX11_lasts 408 0 [(0, .ref 2), (1, .int a1), (2, .int a2)] s Q
  refine JT_iload_n (q := 1) dX11_lasts_0 rfl rfl ?_
  refine JT_if_lt (tgt := 29) dX11_lasts_1 (by decide) (fun hc5 => ?_) (fun hc5 => ?_)
  · have h := h.1 hc5
    refine JT_iconst (v := -1) dX11_lasts_29 ic_m1 ?_
    exact JS_iret dX11_lasts_30 rfl rfl h
  · have h := h.2 hc5
    refine JT_iload_n (q := 1) dX11_lasts_4 rfl rfl ?_
    refine JT_iconst (v := 2) dX11_lasts_5 ic_2 ?_
    refine JT_icmp_gt (tgt := 29) dX11_lasts_6 (by decide) (fun hc4 => ?_) (fun hc4 => ?_)
    · have h := h.1 hc4
      refine JT_iconst (v := -1) dX11_lasts_29 ic_m1 ?_
      exact JS_iret dX11_lasts_30 rfl rfl h
    · have h := h.2 hc4
      refine JT_aload_n (q := 0) dX11_lasts_9 rfl rfl ?_
      refine JS_getR (x := 5) dX11_lasts_10 flX11_19 BS_2 (Nat.le_of_ble_eq_true rfl) (Nat.le_of_ble_eq_true rfl) (Or.inl ⟨_, ct_11_1⟩) RF_2_1 ?_
      refine JS_getI dX11_lasts_13 flX11_150 BS_5 (Nat.le_of_ble_eq_true rfl) (Nat.le_of_ble_eq_true rfl) (Or.inl ct_6_6) ?_
      refine JT_if_eq (tgt := 29) dX11_lasts_16 (by decide) (fun hc3 => ?_) (fun hc3 => ?_)
      · have h := h.1 hc3
        refine JT_iconst (v := -1) dX11_lasts_29 ic_m1 ?_
        exact JS_iret dX11_lasts_30 rfl rfl h
      · have h := h.2 hc3
        refine JT_aload_n (q := 0) dX11_lasts_19 rfl rfl ?_
        refine JS_getR (x := 5) dX11_lasts_20 flX11_19 BS_2 (Nat.le_of_ble_eq_true rfl) (Nat.le_of_ble_eq_true rfl) (Or.inl ⟨_, ct_11_1⟩) RF_2_1 ?_
        refine JS_getI dX11_lasts_23 flX11_153 BS_5 (Nat.le_of_ble_eq_true rfl) (Nat.le_of_ble_eq_true rfl) (Or.inl ct_6_7) ?_
        refine JT_if_ne (tgt := 31) dX11_lasts_26 (by decide) (fun hc2 => ?_) (fun hc2 => ?_)
        · have h := h.1 hc2
          refine JT_aload_n (q := 0) dX11_lasts_31 rfl rfl ?_
          refine JS_getR (x := 43) dX11_lasts_32 flX11_45 BS_2 (Nat.le_of_ble_eq_true rfl) (Nat.le_of_ble_eq_true rfl) (Or.inl ⟨_, ct_11_6⟩) RF_2_6 ?_
          refine JT_aload_n (q := 0) dX11_lasts_35 rfl rfl ?_
          refine JS_getR (x := 31) dX11_lasts_36 flX11_41 BS_2 (Nat.le_of_ble_eq_true rfl) (Nat.le_of_ble_eq_true rfl) (Or.inl ⟨_, ct_11_5⟩) RF_2_5 ?_
          obtain ⟨o1, h⟩ := h
          refine JS_callVV (M' := MX4_copyFrom) (d' := 1) (As := [.ref 31]) (rest := []) (P := (fun wm9 => (mX4_copyFrom s 43 5 31 5) = wm9)) dX11_lasts_39 cvX11_358 okX4_copyFrom rfl (Nat.le_of_ble_eq_true rfl) BS_43 (Nat.le_of_ble_eq_true rfl) (Nat.le_of_ble_eq_true rfl) hci_4 (Nat.le_of_ble_eq_true rfl) (Nat.le_of_ble_eq_true rfl) (pX4_copyFrom hL_43 hL_31  o1 rfl) (fun wm9 hq9 => ?_)
          subst hq9
          refine JT_aload_n (q := 0) dX11_lasts_42 rfl rfl ?_
          refine JS_getR (x := 43) dX11_lasts_43 flX11_45 BS_2 (Nat.le_of_ble_eq_true rfl) (Nat.le_of_ble_eq_true rfl) (Or.inl ⟨_, ct_11_6⟩) RF_2_6 ?_
          refine JS_getI dX11_lasts_46 flX11_162 BS_43 (Nat.le_of_ble_eq_true rfl) (Nat.le_of_ble_eq_true rfl) (Or.inl ct_4_9) ?_
          refine JT_istore_n (lv' := [(3, .int (gI (mX4_copyFrom s 43 5 31 5) 43 9)), (0, .ref 2), (1, .int a1), (2, .int a2)]) dX11_lasts_49 rfl (Nat.le_of_ble_eq_true rfl) rfl ?_
          refine JT_iconst (v := 0) dX11_lasts_50 ic_0 ?_
          refine JT_istore (lv' := [(4, .int (0 : Int32)), (3, .int (gI (mX4_copyFrom s 43 5 31 5) 43 9)), (0, .ref 2), (1, .int a1), (2, .int a2)]) dX11_lasts_51 (Nat.le_of_ble_eq_true rfl) rfl ?_
          refine JT_iload_n (q := 4) dX11_lasts_53 rfl rfl ?_
          refine JT_istore (lv' := [(5, .int a2), (4, .int (0 : Int32)), (3, .int (gI (mX4_copyFrom s 43 5 31 5) 43 9)), (0, .ref 2), (1, .int a1), (2, .int a2)]) dX11_lasts_54 (Nat.le_of_ble_eq_true rfl) rfl ?_
          refine JT_iconst (v := 0) dX11_lasts_56 ic_0 ?_
          refine JT_istore (lv' := [(6, .int (0 : Int32)), (5, .int a2), (4, .int (0 : Int32)), (3, .int (gI (mX4_copyFrom s 43 5 31 5) 43 9)), (0, .ref 2), (1, .int a1), (2, .int a2)]) dX11_lasts_57 (Nat.le_of_ble_eq_true rfl) rfl ?_
          exact JT_sub [4, 5, 6, 3, 2, 1, 0] rfl h
        · have h := h.2 hc2
          refine JT_iconst (v := -1) dX11_lasts_29 ic_m1 ?_
          exact JS_iret dX11_lasts_30 rfl rfl h
set_option maxRecDepth 1000000 in
theorem gX11_lasts  : ∀ n : Nat, (∀ (a1 : Int32) (a2 : Int32) (a3 : Int32) (a4 : Int32) (a5 : Int32) (a6 : Int32) (s : SM) (Q : Int32 → SM → Prop), ((qX11_lasts n).1 s a1 a2 a3 a4 a5 a6) → Q ((lX11_lasts n).1 s a1 a2 a3 a4 a5 a6).1 ((lX11_lasts n).1 s a1 a2 a3 a4 a5 a6).2 → BI MX11_lasts 408 59 [(0, .ref 2), (1, .int a1), (2, .int a2), (3, .int a3), (4, .int a4), (5, .int a5), (6, .int a6)] s Q) ∧ (∀ (a1 : Int32) (a2 : Int32) (a3 : Int32) (a4 : Int32) (a5 : Int32) (a6 : Int32) (a7 : Int32) (a8 : Int32) (a9 : Int32) (a10 : Int32) (s : SM) (Q : Int32 → SM → Prop), ((qX11_lasts n).2.1 s a1 a2 a3 a4 a5 a6 a7 a8 a9 a10) → Q ((lX11_lasts n).2.1 s a1 a2 a3 a4 a5 a6 a7 a8 a9 a10).1 ((lX11_lasts n).2.1 s a1 a2 a3 a4 a5 a6 a7 a8 a9 a10).2 → BI MX11_lasts 408 176 [(0, .ref 2), (1, .int a1), (2, .int a2), (3, .int a3), (4, .int a4), (5, .int a5), (6, .int a6), (7, .int a7), (8, .int a8), (9, .int a9), (10, .int a10)] s Q) ∧ (∀ (a1 : Int32) (a2 : Int32) (a3 : Int32) (a4 : Int32) (a5 : Int32) (a6 : Int32) (a7 : Int32) (a8 : Int32) (a9 : Int32) (a10 : Int32) (a11 : Int32) (s : SM) (Q : Int32 → SM → Prop), ((qX11_lasts n).2.2 s a1 a2 a3 a4 a5 a6 a7 a8 a9 a10 a11) → Q ((lX11_lasts n).2.2 s a1 a2 a3 a4 a5 a6 a7 a8 a9 a10 a11).1 ((lX11_lasts n).2.2 s a1 a2 a3 a4 a5 a6 a7 a8 a9 a10 a11).2 → BI MX11_lasts 408 215 [(0, .ref 2), (1, .int a1), (2, .int a2), (3, .int a3), (4, .int a4), (5, .int a5), (6, .int a6), (7, .int a7), (8, .int a8), (9, .int a9), (10, .int a10), (11, .int a11)] s Q) := by
  intro n
  induction n with
  | zero => exact ⟨fun _ _ _ _ _ _ _ _ hq _ => absurd hq id, fun _ _ _ _ _ _ _ _ _ _ _ _ hq _ => absurd hq id, fun _ _ _ _ _ _ _ _ _ _ _ _ _ hq _ => absurd hq id⟩
  | succ n ih =>
    refine ⟨?_, ?_, ?_⟩
    · intro a1 a2 a3 a4 a5 a6 s Q hr h
      replace hr : uX11_lasts_59 (qX11_lasts n) s a1 a2 a3 a4 a5 a6 := hr
      replace h : Q (tX11_lasts_59 (lX11_lasts n) s a1 a2 a3 a4 a5 a6).1 (tX11_lasts_59 (lX11_lasts n) s a1 a2 a3 a4 a5 a6).2 := h
      unfold uX11_lasts_59 at hr
      unfold tX11_lasts_59 at h
      refine bX11_lasts_59 a1 a2 a3 a4 a5 a6 ?_
      refine ⟨fun c => ?_, fun c => ?_⟩
      · replace h := q3p c h
        first | exact h | contradiction
      · replace hr := hr c
        replace h := q3n c h
        refine ⟨fun c => ?_, fun c => ?_⟩
        · replace h := q3p c h
          first | exact h | contradiction
        · replace hr := hr c
          replace h := q3n c h
          refine ⟨hr.1, ?_⟩
          replace hr := hr.2
          refine ⟨hr.1, ?_⟩
          replace hr := hr.2
          refine ⟨hr.1, ?_⟩
          replace hr := hr.2
          refine ⟨hr.1, ?_⟩
          replace hr := hr.2
          refine ⟨fun c => ?_, fun c => ?_⟩
          · replace hr := hr.1 c
            replace h := q3n c h
            first | exact ih.2.1 a1 a2 a3 a4 (vX11_nextSeed s (vX11_nextSeed s (vX11_nextSeed s (vX11_nextSeed s a5)))) a6 (vX11_drawn s (vX11_nextSeed s a5) (gI s 5 6)) (vX11_drawn s (vX11_nextSeed s (vX11_nextSeed s a5)) (gI s 5 6)) (vX11_drawn s (vX11_nextSeed s (vX11_nextSeed s (vX11_nextSeed s a5))) (gI s 5 7)) ((vX11_drawn s (vX11_nextSeed s (vX11_nextSeed s (vX11_nextSeed s (vX11_nextSeed s a5)))) (99 : Int32)) + (1 : Int32)) _ Q hr h | contradiction
          · replace hr := hr.2 c
            replace h := q3p c h
            refine ⟨hr.1, ?_⟩
            replace hr := hr.2
            refine ⟨hr.1, ?_⟩
            replace hr := hr.2
            first | exact ih.2.1 a1 a2 a3 a4 (vX11_nextSeed s (vX11_nextSeed s (vX11_nextSeed s (vX11_nextSeed s a5)))) a6 (vX11_drawn s (vX11_nextSeed s a5) (gI s 5 6)) (vX11_drawn s (vX11_nextSeed s (vX11_nextSeed s a5)) (gI s 5 6)) (vX11_drawn s (vX11_nextSeed s (vX11_nextSeed s (vX11_nextSeed s a5))) (gI s 5 7)) ((vX11_drawn s (vX11_nextSeed s (vX11_nextSeed s (vX11_nextSeed s (vX11_nextSeed s a5)))) (99 : Int32)) + (1 : Int32)) _ Q hr h | contradiction
    · intro a1 a2 a3 a4 a5 a6 a7 a8 a9 a10 s Q hr h
      replace hr : uX11_lasts_176 (qX11_lasts n) s a1 a2 a3 a4 a5 a6 a7 a8 a9 a10 := hr
      replace h : Q (tX11_lasts_176 (lX11_lasts n) s a1 a2 a3 a4 a5 a6 a7 a8 a9 a10).1 (tX11_lasts_176 (lX11_lasts n) s a1 a2 a3 a4 a5 a6 a7 a8 a9 a10).2 := h
      unfold uX11_lasts_176 at hr
      unfold tX11_lasts_176 at h
      refine bX11_lasts_176 a1 a2 a3 a4 a5 a6 a7 a8 a9 a10 ?_
      refine ⟨hr.1, ?_⟩
      replace hr := hr.2
      refine ⟨fun c => ?_, fun c => ?_⟩
      · replace hr := hr.1 c
        replace h := q3n c h
        first | exact ih.2.2 a1 a2 a3 a4 a5 a6 a7 a8 a9 a10 (vX4_tryWrite s 43 5 a7 a8 a10 a9) _ Q hr h | contradiction
      · replace hr := hr.2 c
        replace h := q3p c h
        refine ⟨fun c => ?_, fun c => ?_⟩
        · replace hr := hr.1 c
          replace h := q3n c h
          first | exact ih.2.2 a1 a2 a3 a4 a5 a6 a7 a8 a9 a10 (vX4_tryWrite s 43 5 a7 a8 a10 a9) _ Q hr h | contradiction
        · replace hr := hr.2 c
          replace h := q3p c h
          refine ⟨hr.1, ?_⟩
          replace hr := hr.2
          first | exact ih.2.2 a1 a2 a3 a4 a5 a6 a7 a8 a9 a10 (vX4_tryWrite s 43 5 a7 a8 a10 a9) _ Q hr h | contradiction
    · intro a1 a2 a3 a4 a5 a6 a7 a8 a9 a10 a11 s Q hr h
      replace hr : uX11_lasts_215 (qX11_lasts n) s a1 a2 a3 a4 a5 a6 a7 a8 a9 a10 a11 := hr
      replace h : Q (tX11_lasts_215 (lX11_lasts n) s a1 a2 a3 a4 a5 a6 a7 a8 a9 a10 a11).1 (tX11_lasts_215 (lX11_lasts n) s a1 a2 a3 a4 a5 a6 a7 a8 a9 a10 a11).2 := h
      unfold uX11_lasts_215 at hr
      unfold tX11_lasts_215 at h
      refine bX11_lasts_215 a1 a2 a3 a4 a5 a6 a7 a8 a9 a10 a11 ?_
      first | exact ih.1 a1 a2 a3 (a4 + (if a11 ≤ (1 : Int32) then (0 : Int32) else (1 : Int32))) a5 (a6 + 1) _ Q hr h | contradiction
set_option maxRecDepth 1000000 in
theorem pX11_lasts (a1 : Int32) (a2 : Int32) {s : SM} {Q : Int32 → SM → Prop} (hr : rX11_lasts s a1 a2) (h : Q (vX11_lasts s a1 a2) (mX11_lasts s a1 a2)) : KI MX11_lasts 408 [.ref 2, .int a1, .int a2] s Q := by
  replace h : Q (fX11_lasts s a1 a2).1 (fX11_lasts s a1 a2).2 := h
  unfold rX11_lasts at hr
  unfold fX11_lasts at h
  refine bX11_lasts a1 a2 ?_
  refine ⟨fun c => ?_, fun c => ?_⟩
  · replace h := q3p c h
    first | exact h | contradiction
  · replace hr := hr c
    replace h := q3n c h
    refine ⟨fun c => ?_, fun c => ?_⟩
    · replace h := q3p c h
      first | exact h | contradiction
    · replace hr := hr c
      replace h := q3n c h
      refine ⟨fun c => ?_, fun c => ?_⟩
      · replace h := q3p c h
        first | exact h | contradiction
      · replace hr := hr c
        replace h := q3n c h
        refine ⟨fun c => ?_, fun c => ?_⟩
        · replace hr := hr c
          replace h := q3n c h
          refine ⟨hr.1, ?_⟩
          replace hr := hr.2
          first | exact (gX11_lasts  FU).1 a1 a2 (gI (mX4_copyFrom s 43 5 31 5) 43 9) (0 : Int32) a2 (0 : Int32) _ Q hr h | contradiction
        · replace h := q3p c h
          first | exact h | contradiction
set_option maxRecDepth 1000000 in
theorem bX11_ringsFor_29 (a1 : Int32) (a2 : Int32) (a3 : Int32) (a4 : Int32) {s : SM} {Q : Int32 → SM → Prop} (h : (((60 : Int32) < a4 → Q (-1 : Int32) s) ∧ (¬ (60 : Int32) < a4 → rX4_wrongToWrite s 43 5 a1 a2 a3 ∧ ((¬ (vX4_wrongToWrite s 43 5 a1 a2 a3) = 0 → (((vX4_wrongToWrite s 43 5 a1 a2 a3) = (1 : Int32) → Q (-1 : Int32) (mX4_wrongToWrite s 43 5 a1 a2 a3)) ∧ (¬ (vX4_wrongToWrite s 43 5 a1 a2 a3) = (1 : Int32) → rX4_tryCut (mX4_wrongToWrite s 43 5 a1 a2 a3) 43 5 ∧ (((vX4_tryCut (mX4_wrongToWrite s 43 5 a1 a2 a3) 43 5) = 0 → BI MX11_ringsFor 408 29 [(0, .ref 2), (1, .int a1), (2, .int a2), (3, .int a3), (4, .int (a4 + 1))] (mX4_tryCut (mX4_wrongToWrite s 43 5 a1 a2 a3) 43 5) Q) ∧ (¬ (vX4_tryCut (mX4_wrongToWrite s 43 5 a1 a2 a3) 43 5) = 0 → Q (-1 : Int32) (mX4_tryCut (mX4_wrongToWrite s 43 5 a1 a2 a3) 43 5)))))) ∧ ((vX4_wrongToWrite s 43 5 a1 a2 a3) = 0 → Q a4 (mX4_wrongToWrite s 43 5 a1 a2 a3)))))) : BI MX11_ringsFor 408 29 [(0, .ref 2), (1, .int a1), (2, .int a2), (3, .int a3), (4, .int a4)] s Q := by
  refine JT_iload (q := 4) dX11_ringsFor_29 rfl ?_
  refine JT_bipush (v := 60) dX11_ringsFor_31 bp_60 ?_
  refine JT_icmp_gt (tgt := 84) dX11_ringsFor_33 (by decide) (fun hc6 => ?_) (fun hc6 => ?_)
  · have h := h.1 hc6
    refine JT_iconst (v := -1) dX11_ringsFor_84 ic_m1 ?_
    exact JS_iret dX11_ringsFor_85 rfl rfl h
  · have h := h.2 hc6
    refine JT_aload_n (q := 0) dX11_ringsFor_36 rfl rfl ?_
    refine JS_getR (x := 43) dX11_ringsFor_37 flX11_45 BS_2 (Nat.le_of_ble_eq_true rfl) (Nat.le_of_ble_eq_true rfl) (Or.inl ⟨_, ct_11_6⟩) RF_2_6 ?_
    refine JT_iload_n (q := 1) dX11_ringsFor_40 rfl rfl ?_
    refine JT_iload_n (q := 2) dX11_ringsFor_41 rfl rfl ?_
    refine JT_iload_n (q := 3) dX11_ringsFor_42 rfl rfl ?_
    obtain ⟨o5, h⟩ := h
    refine JS_callVI (M' := MX4_wrongToWrite) (d' := 3) (As := [.int a1, .int a2, .int a3]) (rest := []) (P := (fun zv9 wm9 => (vX4_wrongToWrite s 43 5 a1 a2 a3) = zv9 ∧ (mX4_wrongToWrite s 43 5 a1 a2 a3) = wm9)) dX11_ringsFor_43 cvX11_354 okX4_wrongToWrite rfl (Nat.le_of_ble_eq_true rfl) BS_43 (Nat.le_of_ble_eq_true rfl) (Nat.le_of_ble_eq_true rfl) hci_4 (Nat.le_of_ble_eq_true rfl) (Nat.le_of_ble_eq_true rfl) (pX4_wrongToWrite hL_43 (a1) (a2) (a3) o5 ⟨rfl, rfl⟩) (fun zv9 wm9 hq9 => ?_)
    obtain ⟨rfl, rfl⟩ := hq9
    refine JT_istore (lv' := [(5, .int (vX4_wrongToWrite s 43 5 a1 a2 a3)), (0, .ref 2), (1, .int a1), (2, .int a2), (3, .int a3), (4, .int a4)]) dX11_ringsFor_46 (Nat.le_of_ble_eq_true rfl) rfl ?_
    refine JT_iload (q := 0) dX11_ringsFor_48 rfl ?_
    refine JT_if_ne (tgt := 56) dX11_ringsFor_50 (by decide) (fun hc4 => ?_) (fun hc4 => ?_)
    · have h := h.1 hc4
      refine JT_iload (q := 0) dX11_ringsFor_56 rfl ?_
      refine JT_iconst (v := 1) dX11_ringsFor_58 ic_1 ?_
      refine JT_icmp_eq (tgt := 76) dX11_ringsFor_59 (by decide) (fun hc3 => ?_) (fun hc3 => ?_)
      · have h := h.1 hc3
        refine JT_iconst (v := -1) dX11_ringsFor_76 ic_m1 ?_
        exact JS_iret dX11_ringsFor_77 rfl rfl h
      · have h := h.2 hc3
        refine JT_aload_n (q := 1) dX11_ringsFor_62 rfl rfl ?_
        refine JS_getR (x := 43) dX11_ringsFor_63 flX11_45 BS_2 (Nat.le_of_ble_eq_true rfl) (Nat.le_of_ble_eq_true rfl) (Or.inl ⟨_, ct_11_6⟩) RF_2_6 ?_
        refine JT_aload_n (q := 1) dX11_ringsFor_66 rfl rfl ?_
        refine JS_getR (x := 218) dX11_ringsFor_67 flX11_65 BS_2 (Nat.le_of_ble_eq_true rfl) (Nat.le_of_ble_eq_true rfl) (Or.inl ⟨_, ct_11_9⟩) RF_2_9 ?_
        obtain ⟨o2, h⟩ := h
        refine JS_callVI (M' := MX4_tryCut) (d' := 407) (As := [.ref 218]) (rest := []) (P := (fun zv9 wm9 => (vX4_tryCut (mX4_wrongToWrite s 43 5 a1 a2 a3) 43 5) = zv9 ∧ (mX4_tryCut (mX4_wrongToWrite s 43 5 a1 a2 a3) 43 5) = wm9)) dX11_ringsFor_70 cvX11_317 okX4_tryCut rfl (Nat.le_of_ble_eq_true rfl) BS_43 (Nat.le_of_ble_eq_true rfl) (Nat.le_of_ble_eq_true rfl) hci_4 (Nat.le_of_ble_eq_true rfl) (Nat.le_of_ble_eq_true rfl) (pX4_tryCut hL_43  o2 ⟨rfl, rfl⟩) (fun zv9 wm9 hq9 => ?_)
        obtain ⟨rfl, rfl⟩ := hq9
        refine JT_if_eq (tgt := 78) dX11_ringsFor_73 (by decide) (fun hc1 => ?_) (fun hc1 => ?_)
        · have h := h.1 hc1
          refine JT_iinc (q := 5) (v := (a4 + 1)) (lv' := [(4, .int (a4 + 1)), (5, .int (vX4_wrongToWrite s 43 5 a1 a2 a3)), (0, .ref 2), (1, .int a1), (2, .int a2), (3, .int a3)]) dX11_ringsFor_78 rfl (by rfl) (Nat.le_of_ble_eq_true rfl) rfl ?_
          refine JT_goto (tgt := 29) dX11_ringsFor_81 (by decide) ?_
          exact JT_sub [2, 3, 4, 5, 0] rfl h
        · have h := h.2 hc1
          refine JT_iconst (v := -1) dX11_ringsFor_76 ic_m1 ?_
          exact JS_iret dX11_ringsFor_77 rfl rfl h
    · have h := h.2 hc4
      refine JT_iload (q := 5) dX11_ringsFor_53 rfl ?_
      exact JS_iret dX11_ringsFor_55 rfl rfl h
set_option maxRecDepth 1000000 in
theorem bX11_ringsFor (a1 : Int32) (a2 : Int32) (a3 : Int32) {s : SM} {Q : Int32 → SM → Prop} (h : ((¬ (vX6_hasDealers s 5 a1 a2 a3) = 0 → rX4_copyFrom s 43 5 31 5 ∧ BI MX11_ringsFor 408 29 [(0, .ref 2), (1, .int a1), (2, .int a2), (3, .int a3), (4, .int (0 : Int32))] (mX4_copyFrom s 43 5 31 5) Q) ∧ ((vX6_hasDealers s 5 a1 a2 a3) = 0 → Q (-1 : Int32) s))) : KI MX11_ringsFor 408 [.ref 2, .int a1, .int a2, .int a3] s Q := by
  show BI MX11_ringsFor 408 0 [(0, .ref 2), (1, .int a1), (2, .int a2), (3, .int a3)] s Q
  refine JT_aload_n (q := 0) dX11_ringsFor_0 rfl rfl ?_
  refine JS_getR (x := 5) dX11_ringsFor_1 flX11_19 BS_2 (Nat.le_of_ble_eq_true rfl) (Nat.le_of_ble_eq_true rfl) (Or.inl ⟨_, ct_11_1⟩) RF_2_1 ?_
  refine JT_iload_n (q := 1) dX11_ringsFor_4 rfl rfl ?_
  refine JT_iload_n (q := 2) dX11_ringsFor_5 rfl rfl ?_
  refine JT_iload_n (q := 3) dX11_ringsFor_6 rfl rfl ?_
  refine JS_callVI (M' := MX6_hasDealers) (d' := 1) (As := [.int a1, .int a2, .int a3]) (rest := []) (P := (fun zv9 wm9 => (vX6_hasDealers s 5 a1 a2 a3) = zv9 ∧ s = wm9)) dX11_ringsFor_7 cvX11_296 okX6_hasDealers rfl (Nat.le_of_ble_eq_true rfl) BS_5 (Nat.le_of_ble_eq_true rfl) (Nat.le_of_ble_eq_true rfl) hci_6 (Nat.le_of_ble_eq_true rfl) (Nat.le_of_ble_eq_true rfl) (pX6_hasDealers hp_5 (a1) (a2) (a3)  ⟨rfl, rfl⟩) (fun zv9 wm9 hq9 => ?_)
  obtain ⟨rfl, rfl⟩ := hq9
  refine JT_if_ne (tgt := 15) dX11_ringsFor_10 (by decide) (fun hc2 => ?_) (fun hc2 => ?_)
  · have h := h.1 hc2
    refine JT_aload_n (q := 0) dX11_ringsFor_15 rfl rfl ?_
    refine JS_getR (x := 43) dX11_ringsFor_16 flX11_45 BS_2 (Nat.le_of_ble_eq_true rfl) (Nat.le_of_ble_eq_true rfl) (Or.inl ⟨_, ct_11_6⟩) RF_2_6 ?_
    refine JT_aload_n (q := 0) dX11_ringsFor_19 rfl rfl ?_
    refine JS_getR (x := 31) dX11_ringsFor_20 flX11_41 BS_2 (Nat.le_of_ble_eq_true rfl) (Nat.le_of_ble_eq_true rfl) (Or.inl ⟨_, ct_11_5⟩) RF_2_5 ?_
    obtain ⟨o1, h⟩ := h
    refine JS_callVV (M' := MX4_copyFrom) (d' := 1) (As := [.ref 31]) (rest := []) (P := (fun wm9 => (mX4_copyFrom s 43 5 31 5) = wm9)) dX11_ringsFor_23 cvX11_358 okX4_copyFrom rfl (Nat.le_of_ble_eq_true rfl) BS_43 (Nat.le_of_ble_eq_true rfl) (Nat.le_of_ble_eq_true rfl) hci_4 (Nat.le_of_ble_eq_true rfl) (Nat.le_of_ble_eq_true rfl) (pX4_copyFrom hL_43 hL_31  o1 rfl) (fun wm9 hq9 => ?_)
    subst hq9
    refine JT_iconst (v := 0) dX11_ringsFor_26 ic_0 ?_
    refine JT_istore (lv' := [(4, .int (0 : Int32)), (0, .ref 2), (1, .int a1), (2, .int a2), (3, .int a3)]) dX11_ringsFor_27 (Nat.le_of_ble_eq_true rfl) rfl ?_
    exact JT_sub [1, 2, 3, 4, 0] rfl h
  · have h := h.2 hc2
    refine JT_iconst (v := -1) dX11_ringsFor_13 ic_m1 ?_
    exact JS_iret dX11_ringsFor_14 rfl rfl h
set_option maxRecDepth 1000000 in
theorem gX11_ringsFor  : ∀ n : Nat, (∀ (a1 : Int32) (a2 : Int32) (a3 : Int32) (a4 : Int32) (s : SM) (Q : Int32 → SM → Prop), ((qX11_ringsFor n) s a1 a2 a3 a4) → Q ((lX11_ringsFor n) s a1 a2 a3 a4).1 ((lX11_ringsFor n) s a1 a2 a3 a4).2 → BI MX11_ringsFor 408 29 [(0, .ref 2), (1, .int a1), (2, .int a2), (3, .int a3), (4, .int a4)] s Q) := by
  intro n
  induction n with
  | zero => exact fun _ _ _ _ _ _ hq _ => absurd hq id
  | succ n ih =>
    intro a1 a2 a3 a4 s Q hr h
    replace hr : uX11_ringsFor_29 (qX11_ringsFor n) s a1 a2 a3 a4 := hr
    replace h : Q (tX11_ringsFor_29 (lX11_ringsFor n) s a1 a2 a3 a4).1 (tX11_ringsFor_29 (lX11_ringsFor n) s a1 a2 a3 a4).2 := h
    unfold uX11_ringsFor_29 at hr
    unfold tX11_ringsFor_29 at h
    refine bX11_ringsFor_29 a1 a2 a3 a4 ?_
    refine ⟨fun c => ?_, fun c => ?_⟩
    · replace h := q3p c h
      first | exact h | contradiction
    · replace hr := hr c
      replace h := q3n c h
      refine ⟨hr.1, ?_⟩
      replace hr := hr.2
      refine ⟨fun c => ?_, fun c => ?_⟩
      · replace hr := hr c
        replace h := q3n c h
        refine ⟨fun c => ?_, fun c => ?_⟩
        · replace h := q3p c h
          first | exact h | contradiction
        · replace hr := hr c
          replace h := q3n c h
          refine ⟨hr.1, ?_⟩
          replace hr := hr.2
          refine ⟨fun c => ?_, fun c => ?_⟩
          · replace hr := hr c
            replace h := q3p c h
            first | exact ih a1 a2 a3 (a4 + 1) _ Q hr h | contradiction
          · replace h := q3n c h
            first | exact h | contradiction
      · replace h := q3p c h
        first | exact h | contradiction
set_option maxRecDepth 1000000 in
theorem pX11_ringsFor (a1 : Int32) (a2 : Int32) (a3 : Int32) {s : SM} {Q : Int32 → SM → Prop} (hr : rX11_ringsFor s a1 a2 a3) (h : Q (vX11_ringsFor s a1 a2 a3) (mX11_ringsFor s a1 a2 a3)) : KI MX11_ringsFor 408 [.ref 2, .int a1, .int a2, .int a3] s Q := by
  replace h : Q (fX11_ringsFor s a1 a2 a3).1 (fX11_ringsFor s a1 a2 a3).2 := h
  unfold rX11_ringsFor at hr
  unfold fX11_ringsFor at h
  refine bX11_ringsFor a1 a2 a3 ?_
  refine ⟨fun c => ?_, fun c => ?_⟩
  · replace hr := hr c
    replace h := q3n c h
    refine ⟨hr.1, ?_⟩
    replace hr := hr.2
    first | exact (gX11_ringsFor  FU) a1 a2 a3 (0 : Int32) _ Q hr h | contradiction
  · replace h := q3p c h
    first | exact h | contradiction
