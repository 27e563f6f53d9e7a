set_option maxRecDepth 20000 in
theorem bX11_read (a1 : Int32) (a2 : Int32) {s : SM} {Q : Int32 → SM → Prop} (h : (((vX4_hasDeal s 31 5 a1) = 0 → Q (-1 : Int32) s) ∧ (¬ (vX4_hasDeal s 31 5 a1) = 0 → (((vX11_isSide s a2) = 0 → Q (-1 : Int32) s) ∧ (¬ (vX11_isSide s a2) = 0 → rX4_bearer s 31 5 a1 a2 ∧ ((¬ (vX4_bearer s 31 5 a1 a2) = (-1 : Int32) → rX4_isReadable s 31 5 a1 a2 ∧ Q (if (vX4_isReadable s 31 5 a1 a2) = 0 then (0 : Int32) else (1 : Int32)) s) ∧ ((vX4_bearer s 31 5 a1 a2) = (-1 : Int32) → Q (-1 : Int32) s))))))) : KI MX11_read 3 [.ref 2, .int a1, .int a2] s Q := by
  show BI MX11_read 3 0 [(0, .ref 2), (1, .int a1), (2, .int a2)] s Q
  refine JT_aload_n (q := 0) dX11_read_0 rfl rfl ?_
  refine JS_getR (x := 31) dX11_read_1 flX11_41 BS_2 (Nat.le_of_ble_eq_true rfl) (Nat.le_of_ble_eq_true rfl) (Or.inl ⟨_, ct_11_5⟩) RF_2_5 ?_
  refine JT_iload_n (q := 1) dX11_read_4 rfl rfl ?_
  refine JS_callVI (M' := MX4_hasDeal) (d' := 0) (As := [.int a1]) (rest := []) (P := (fun zv9 wm9 => (vX4_hasDeal s 31 5 a1) = zv9 ∧ s = wm9)) dX11_read_5 cvX11_211 okX4_hasDeal rfl (Nat.le_of_ble_eq_true rfl) BS_31 (Nat.le_of_ble_eq_true rfl) (Nat.le_of_ble_eq_true rfl) hci_4 (Nat.le_of_ble_eq_true rfl) (Nat.le_of_ble_eq_true rfl) (pX4_hasDeal hL_31 (a1)  ⟨rfl, rfl⟩) (fun zv9 wm9 hq9 => ?_)
  obtain ⟨rfl, rfl⟩ := hq9
  refine JT_if_eq (tgt := 31) dX11_read_8 (by decide) (fun hc8 => ?_) (fun hc8 => ?_)
  · have h := h.1 hc8
    refine JT_iconst (v := -1) dX11_read_31 ic_m1 ?_
    exact JS_iret dX11_read_32 rfl rfl h
  · have h := h.2 hc8
    refine JT_iload_n (q := 2) dX11_read_11 rfl rfl ?_
    refine JS_callSI (M' := MX11_isSide) (d' := 0) (As := [.int a2]) (rest := []) (P := (fun zv9 wm9 => (vX11_isSide s a2) = zv9 ∧ s = wm9)) dX11_read_12 cvX11_241 okX11_isSide rfl (Nat.le_of_ble_eq_true rfl) (Nat.le_of_ble_eq_true rfl) (Nat.le_of_ble_eq_true rfl) (pX11_isSide  (a2)  ⟨rfl, rfl⟩) (fun zv9 wm9 hq9 => ?_)
    obtain ⟨rfl, rfl⟩ := hq9
    refine JT_if_eq (tgt := 31) dX11_read_15 (by decide) (fun hc6 => ?_) (fun hc6 => ?_)
    · have h := h.1 hc6
      refine JT_iconst (v := -1) dX11_read_31 ic_m1 ?_
      exact JS_iret dX11_read_32 rfl rfl h
    · have h := h.2 hc6
      refine JT_aload_n (q := 0) dX11_read_18 rfl rfl ?_
      refine JS_getR (x := 31) dX11_read_19 flX11_41 BS_2 (Nat.le_of_ble_eq_true rfl) (Nat.le_of_ble_eq_true rfl) (Or.inl ⟨_, ct_11_5⟩) RF_2_5 ?_
      refine JT_iload_n (q := 1) dX11_read_22 rfl rfl ?_
      refine JT_iload_n (q := 2) dX11_read_23 rfl rfl ?_
      obtain ⟨o5, h⟩ := h
      refine JS_callVI (M' := MX4_bearer) (d' := 0) (As := [.int a1, .int a2]) (rest := []) (P := (fun zv9 wm9 => (vX4_bearer s 31 5 a1 a2) = zv9 ∧ s = wm9)) dX11_read_24 cvX11_232 okX4_bearer rfl (Nat.le_of_ble_eq_true rfl) BS_31 (Nat.le_of_ble_eq_true rfl) (Nat.le_of_ble_eq_true rfl) hci_4 (Nat.le_of_ble_eq_true rfl) (Nat.le_of_ble_eq_true rfl) (pX4_bearer hL_31 (a1) (a2) o5 ⟨rfl, rfl⟩) (fun zv9 wm9 hq9 => ?_)
      obtain ⟨rfl, rfl⟩ := hq9
      refine JT_iconst (v := -1) dX11_read_27 ic_m1 ?_
      refine JT_icmp_ne (tgt := 33) dX11_read_28 (by decide) (fun hc4 => ?_) (fun hc4 => ?_)
      · have h := h.1 hc4
        refine JT_aload_n (q := 0) dX11_read_33 rfl rfl ?_
        refine JS_getR (x := 31) dX11_read_34 flX11_41 BS_2 (Nat.le_of_ble_eq_true rfl) (Nat.le_of_ble_eq_true rfl) (Or.inl ⟨_, ct_11_5⟩) RF_2_5 ?_
        refine JT_iload_n (q := 1) dX11_read_37 rfl rfl ?_
        refine JT_iload_n (q := 2) dX11_read_38 rfl rfl ?_
        obtain ⟨o3, h⟩ := h
        refine JS_callVI (M' := MX4_isReadable) (d' := 2) (As := [.int a1, .int a2]) (rest := []) (P := (fun zv9 wm9 => (vX4_isReadable s 31 5 a1 a2) = zv9 ∧ s = wm9)) dX11_read_39 cvX11_244 okX4_isReadable rfl (Nat.le_of_ble_eq_true rfl) BS_31 (Nat.le_of_ble_eq_true rfl) (Nat.le_of_ble_eq_true rfl) hci_4 (Nat.le_of_ble_eq_true rfl) (Nat.le_of_ble_eq_true rfl) (pX4_isReadable hL_31 (a1) (a2) o3 ⟨rfl, rfl⟩) (fun zv9 wm9 hq9 => ?_)
        obtain ⟨rfl, rfl⟩ := hq9
        have hj1 : ∀ v : Int32, v = (if (vX4_isReadable s 31 5 a1 a2) = 0 then (0 : Int32) else (1 : Int32)) → JT MX11_read 3 0 0 50 [(0, .ref 2), (1, .int a1), (2, .int a2)] [.int v] (std s) (KQ Q) := by
          intro v hv
          subst hv
          exact JS_iret dX11_read_50 rfl rfl h
        refine JT_if_eq (tgt := 49) dX11_read_42 (by decide) (fun hc2 => ?_) (fun hc2 => ?_)
        · refine JT_iconst (v := 0) dX11_read_49 ic_0 ?_
          exact hj1 _ (by rw [if_pos hc2])
        · refine JT_iconst (v := 1) dX11_read_45 ic_1 ?_
          refine JT_goto (tgt := 50) dX11_read_46 (by decide) ?_
          exact hj1 _ (by rw [if_neg hc2])
      · have h := h.2 hc4
        refine JT_iconst (v := -1) dX11_read_31 ic_m1 ?_
        exact JS_iret dX11_read_32 rfl rfl h
set_option maxRecDepth 20000 in
def vX11_read (s : SM) (a1 : Int32) (a2 : Int32) : Int32 := (if (vX4_hasDeal s 31 5 a1) = 0 then (-1 : Int32) else (if (vX11_isSide s a2) = 0 then (-1 : Int32) else (if (vX4_bearer s 31 5 a1 a2) = (-1 : Int32) then (-1 : Int32) else (if (vX4_isReadable s 31 5 a1 a2) = 0 then (0 : Int32) else (1 : Int32)))))
set_option maxRecDepth 20000 in
def rX11_read (s : SM) (a1 : Int32) (a2 : Int32) : Prop := (¬ (vX4_hasDeal s 31 5 a1) = 0 → (¬ (vX11_isSide s a2) = 0 → rX4_bearer s 31 5 a1 a2 ∧ (¬ (vX4_bearer s 31 5 a1 a2) = (-1 : Int32) → rX4_isReadable s 31 5 a1 a2)))
set_option maxRecDepth 20000 in
theorem pX11_read (a1 : Int32) (a2 : Int32) {s : SM} {Q : Int32 → SM → Prop} (hr : rX11_read s a1 a2) (h : Q (vX11_read s a1 a2) s) : KI MX11_read 3 [.ref 2, .int a1, .int a2] s Q := by
  refine bX11_read a1 a2 ?_
  unfold rX11_read at hr
  unfold vX11_read at h
  refine ⟨fun c => ?_, fun c => ?_⟩
  · try simp only [if_pos c] at h
    first | exact h | contradiction
  · replace hr := hr c
    try simp only [if_neg c] at h
    refine ⟨fun c => ?_, fun c => ?_⟩
    · try simp only [if_pos c] at h
      first | exact h | contradiction
    · replace hr := hr c
      try simp only [if_neg c] at h
      refine ⟨hr.1, ?_⟩
      replace hr := hr.2
      refine ⟨fun c => ?_, fun c => ?_⟩
      · replace hr := hr c
        try simp only [if_neg c] at h
        refine ⟨hr, ?_⟩
        first | exact h | contradiction
      · try simp only [if_pos c] at h
        first | exact h | contradiction
set_option maxRecDepth 20000 in
theorem bX11_restore (a1 : Int32) {s : SM} {Q : Int32 → SM → Prop} (h : ((a1 < 0 → Q (0 : Int32) s) ∧ (¬ a1 < 0 → (((2 : Int32) ≤ a1 → Q (0 : Int32) s) ∧ (¬ (2 : Int32) ≤ a1 → vp_in a1 2 ∧ ∃ Ix1 Px1 Lx1 Bx1, RF 165 (a1).toNatClampNeg = some Ix1 ∧ (Ix1, Px1, Lx1, Bx1) ∈ IX ∧ ((¬ (gI s Ix1 0) = 0 → vp_in a1 2 ∧ ∃ Ix4 Px4 Lx4 Bx4, RF 165 (a1).toNatClampNeg = some Ix4 ∧ (Ix4, Px4, Lx4, Bx4) ∈ IX ∧ rX3_bringBack s Ix4 Px4 Lx4 Bx4 5 31 5 19 ∧ Q (1 : Int32) (mX2_forget (mX3_bringBack s Ix4 Px4 Lx4 Bx4 5 31 5 19) )) ∧ ((gI s Ix1 0) = 0 → Q (0 : Int32) s))))))) : KI MX11_restore 3 [.ref 2, .int a1] s Q := by
  show BI MX11_restore 3 0 [(0, .ref 2), (1, .int a1)] s Q
  refine JT_iload_n (q := 1) dX11_restore_0 rfl rfl ?_
  refine JT_if_lt (tgt := 25) dX11_restore_1 (by decide) (fun hc11 => ?_) (fun hc11 => ?_)
  · have h := h.1 hc11
    refine JT_iconst (v := 0) dX11_restore_25 ic_0 ?_
    exact JS_iret dX11_restore_26 rfl (n01 (Or.inl rfl)) h
  · have h := h.2 hc11
    refine JT_iload_n (q := 1) dX11_restore_4 rfl rfl ?_
    refine JT_aload_n (q := 0) dX11_restore_5 rfl rfl ?_
    refine JS_getR (x := 165) dX11_restore_6 flX11_58 BS_2 (Nat.le_of_ble_eq_true rfl) (Nat.le_of_ble_eq_true rfl) (Or.inr ⟨_, ct_11_8⟩) RF_2_8 ?_
    refine JT_alen (v := 2) dX11_restore_9 BS_165 (Nat.le_of_ble_eq_true rfl) (Nat.le_of_ble_eq_true rfl) (by decide) ?_
    refine JT_icmp_ge (tgt := 25) dX11_restore_10 (by decide) (fun hc10 => ?_) (fun hc10 => ?_)
    · have h := h.1 hc10
      refine JT_iconst (v := 0) dX11_restore_25 ic_0 ?_
      exact JS_iret dX11_restore_26 rfl (n01 (Or.inl rfl)) h
    · have h := h.2 hc10
      refine JT_aload_n (q := 0) dX11_restore_13 rfl rfl ?_
      refine JS_getR (x := 165) dX11_restore_14 flX11_58 BS_2 (Nat.le_of_ble_eq_true rfl) (Nat.le_of_ble_eq_true rfl) (Or.inr ⟨_, ct_11_8⟩) RF_2_8 ?_
      refine JT_iload_n (q := 1) dX11_restore_17 rfl rfl ?_
      obtain ⟨o2, Ix1, Px1, Lx1, Bx1, hr3, hix1, h⟩ := h
      refine JS_aald dX11_restore_18 BS_165 (Nat.le_of_ble_eq_true rfl) (Nat.le_of_ble_eq_true rfl) o2 (by rw [RFd_arr (Or.inl rfl)]; exact hr3) ?_
      refine JS_getI dX11_restore_19 flX11_431 (ixB hix1) (ix2 hix1) (ixN hix1) (Or.inr ct_3_0) ?_
      refine JT_if_ne (tgt := 27) dX11_restore_22 (by decide) (fun hc9 => ?_) (fun hc9 => ?_)
      · have h := h.1 hc9
        refine JT_aload_n (q := 0) dX11_restore_27 rfl rfl ?_
        refine JS_getR (x := 165) dX11_restore_28 flX11_58 BS_2 (Nat.le_of_ble_eq_true rfl) (Nat.le_of_ble_eq_true rfl) (Or.inr ⟨_, ct_11_8⟩) RF_2_8 ?_
        refine JT_iload_n (q := 1) dX11_restore_31 rfl rfl ?_
        obtain ⟨o5, Ix4, Px4, Lx4, Bx4, hr6, hix4, h⟩ := h
        refine JS_aald dX11_restore_32 BS_165 (Nat.le_of_ble_eq_true rfl) (Nat.le_of_ble_eq_true rfl) o5 (by rw [RFd_arr (Or.inl rfl)]; exact hr6) ?_
        refine JT_aload_n (q := 0) dX11_restore_33 rfl rfl ?_
        refine JS_getR (x := 5) dX11_restore_34 flX11_19 BS_2 (Nat.le_of_ble_eq_true rfl) (Nat.le_of_ble_eq_true rfl) (Or.inl ⟨_, ct_11_1⟩) RF_2_1 ?_
        refine JT_aload_n (q := 0) dX11_restore_37 rfl rfl ?_
        refine JS_getR (x := 31) dX11_restore_38 flX11_41 BS_2 (Nat.le_of_ble_eq_true rfl) (Nat.le_of_ble_eq_true rfl) (Or.inl ⟨_, ct_11_5⟩) RF_2_5 ?_
        refine JT_aload_n (q := 0) dX11_restore_41 rfl rfl ?_
        refine JS_getR (x := 19) dX11_restore_42 flX11_29 BS_2 (Nat.le_of_ble_eq_true rfl) (Nat.le_of_ble_eq_true rfl) (Or.inl ⟨_, ct_11_3⟩) RF_2_3 ?_
        obtain ⟨o8, h⟩ := h
        refine JS_callVV (M' := MX3_bringBack) (d' := 2) (As := [.ref 5, .ref 31, .ref 19]) (rest := []) (P := (fun wm9 => (mX3_bringBack s Ix4 Px4 Lx4 Bx4 5 31 5 19) = wm9)) dX11_restore_45 cvX11_434 okX3_bringBack rfl (Nat.le_of_ble_eq_true rfl) (ixB hix4) (ix2 hix4) (ixN hix4) hci_3 (Nat.le_of_ble_eq_true rfl) (Nat.le_of_ble_eq_true rfl) (pX3_bringBack hix4 hp_5 hL_31 hk_19  o8 rfl) (fun wm9 hq9 => ?_)
        subst hq9
        refine JT_aload_n (q := 0) dX11_restore_48 rfl rfl ?_
        refine JS_getR (x := 55) dX11_restore_49 flX11_51 BS_2 (Nat.le_of_ble_eq_true rfl) (Nat.le_of_ble_eq_true rfl) (Or.inl ⟨_, ct_11_7⟩) RF_2_7 ?_
        refine JS_callVV (M' := MX2_forget) (d' := 0) (As := []) (rest := []) (P := (fun wm9 => (mX2_forget (mX3_bringBack s Ix4 Px4 Lx4 Bx4 5 31 5 19) ) = wm9)) dX11_restore_52 cvX11_140 okX2_forget rfl (Nat.le_of_ble_eq_true rfl) BS_55 (Nat.le_of_ble_eq_true rfl) (Nat.le_of_ble_eq_true rfl) hci_2 (Nat.le_of_ble_eq_true rfl) (Nat.le_of_ble_eq_true rfl) (pX2_forget    rfl) (fun wm9 hq9 => ?_)
        subst hq9
        refine JT_iconst (v := 1) dX11_restore_55 ic_1 ?_
        exact JS_iret dX11_restore_56 rfl (n01 (Or.inr rfl)) h
      · have h := h.2 hc9
        refine JT_iconst (v := 0) dX11_restore_25 ic_0 ?_
        exact JS_iret dX11_restore_26 rfl (n01 (Or.inl rfl)) h
set_option maxRecDepth 20000 in
theorem bX11_skin_23 (a1 : Int32) (a2 : Int32) {s : SM} {Q : Int32 → SM → Prop} (h : (((gI s 31 9) ≤ a2 → Q (gI s 244 0) s) ∧ (¬ (gI s 31 9) ≤ a2 → BI MX11_skin 3 36 [(0, .ref 2), (1, .int a1), (2, .int a2), (3, .int (0 : Int32))] s Q))) : BI MX11_skin 3 23 [(0, .ref 2), (1, .int a1), (2, .int a2)] s Q := by
  refine JT_iload_n (q := 2) dX11_skin_23 rfl rfl ?_
  refine JT_aload_n (q := 0) dX11_skin_24 rfl rfl ?_
  refine JS_getR (x := 31) dX11_skin_25 flX11_41 BS_2 (Nat.le_of_ble_eq_true rfl) (Nat.le_of_ble_eq_true rfl) (Or.inl ⟨_, ct_11_5⟩) RF_2_5 ?_
  refine JS_getI dX11_skin_28 flX11_162 BS_31 (Nat.le_of_ble_eq_true rfl) (Nat.le_of_ble_eq_true rfl) (Or.inl ct_4_9) ?_
  refine JT_icmp_ge (tgt := 72) dX11_skin_31 (by decide) (fun hc1 => ?_) (fun hc1 => ?_)
  · have h := h.1 hc1
    refine JT_aload_n (q := 0) dX11_skin_72 rfl rfl ?_
    refine JS_getR (x := 244) dX11_skin_73 flX11_93 BS_2 (Nat.le_of_ble_eq_true rfl) (Nat.le_of_ble_eq_true rfl) (Or.inl ⟨_, ct_11_13⟩) RF_2_13 ?_
    refine JS_getI dX11_skin_76 flX11_270 BS_244 (Nat.le_of_ble_eq_true rfl) (Nat.le_of_ble_eq_true rfl) (Or.inl ct_10_0) ?_
    exact JS_iret dX11_skin_79 rfl rfl h
  · have h := h.2 hc1
    refine JT_iconst (v := 0) dX11_skin_34 ic_0 ?_
    refine JT_istore_n (lv' := [(3, .int (0 : Int32)), (0, .ref 2), (1, .int a1), (2, .int a2)]) dX11_skin_35 rfl (Nat.le_of_ble_eq_true rfl) rfl ?_
    exact JT_sub [1, 2, 3, 0] rfl h
set_option maxRecDepth 20000 in
theorem bX11_skin_36 (a1 : Int32) (a2 : Int32) (a3 : Int32) {s : SM} {Q : Int32 → SM → Prop} (h : (((1 : Int32) < a3 → BI MX11_skin 3 23 [(0, .ref 2), (1, .int a1), (2, .int (a2 + 1))] s Q) ∧ (¬ (1 : Int32) < a3 → rX4_bearer s 31 5 a2 a3 ∧ ((¬ (vX4_bearer s 31 5 a2 a3) = a1 → BI MX11_skin 3 36 [(0, .ref 2), (1, .int a1), (2, .int a2), (3, .int (a3 + 1))] s Q) ∧ ((vX4_bearer s 31 5 a2 a3) = a1 → KV MX11_addMark 2 [.ref 2, .int a2, .int a3] s (fun s1 => BI MX11_skin 3 36 [(0, .ref 2), (1, .int a1), (2, .int a2), (3, .int (a3 + 1))] s1 Q)))))) : BI MX11_skin 3 36 [(0, .ref 2), (1, .int a1), (2, .int a2), (3, .int a3)] s Q := by
  refine JT_iload_n (q := 3) dX11_skin_36 rfl rfl ?_
  refine JT_iconst (v := 1) dX11_skin_37 ic_1 ?_
  refine JT_icmp_gt (tgt := 66) dX11_skin_38 (by decide) (fun hc5 => ?_) (fun hc5 => ?_)
  · have h := h.1 hc5
    refine JT_iinc (q := 2) (v := (a2 + 1)) (lv' := [(2, .int (a2 + 1)), (0, .ref 2), (1, .int a1), (3, .int a3)]) dX11_skin_66 rfl (by rfl) (Nat.le_of_ble_eq_true rfl) rfl ?_
    refine JT_goto (tgt := 23) dX11_skin_69 (by decide) ?_
    exact JT_sub [1, 2, 0] rfl h
  · have h := h.2 hc5
    refine JT_aload_n (q := 0) dX11_skin_41 rfl rfl ?_
    refine JS_getR (x := 31) dX11_skin_42 flX11_41 BS_2 (Nat.le_of_ble_eq_true rfl) (Nat.le_of_ble_eq_true rfl) (Or.inl ⟨_, ct_11_5⟩) RF_2_5 ?_
    refine JT_iload_n (q := 2) dX11_skin_45 rfl rfl ?_
    refine JT_iload_n (q := 3) dX11_skin_46 rfl rfl ?_
    obtain ⟨o4, h⟩ := h
    refine JS_callVI (M' := MX4_bearer) (d' := 0) (As := [.int a2, .int a3]) (rest := []) (P := (fun zv9 wm9 => (vX4_bearer s 31 5 a2 a3) = zv9 ∧ s = wm9)) dX11_skin_47 cvX11_232 okX4_bearer rfl (Nat.le_of_ble_eq_true rfl) BS_31 (Nat.le_of_ble_eq_true rfl) (Nat.le_of_ble_eq_true rfl) hci_4 (Nat.le_of_ble_eq_true rfl) (Nat.le_of_ble_eq_true rfl) (pX4_bearer hL_31 (a2) (a3) o4 ⟨rfl, rfl⟩) (fun zv9 wm9 hq9 => ?_)
    obtain ⟨rfl, rfl⟩ := hq9
    refine JT_iload_n (q := 1) dX11_skin_50 rfl rfl ?_
    refine JT_icmp_ne (tgt := 60) dX11_skin_51 (by decide) (fun hc3 => ?_) (fun hc3 => ?_)
    · have h := h.1 hc3
      refine JT_iinc (q := 3) (v := (a3 + 1)) (lv' := [(3, .int (a3 + 1)), (0, .ref 2), (1, .int a1), (2, .int a2)]) dX11_skin_60 rfl (by rfl) (Nat.le_of_ble_eq_true rfl) rfl ?_
      refine JT_goto (tgt := 36) dX11_skin_63 (by decide) ?_
      exact JT_sub [1, 2, 3, 0] rfl h
    · have h := h.2 hc3
      refine JT_aload_n (q := 0) dX11_skin_54 rfl rfl ?_
      refine JT_iload_n (q := 2) dX11_skin_55 rfl rfl ?_
      refine JT_iload_n (q := 3) dX11_skin_56 rfl rfl ?_
      refine JS_callVV (M' := MX11_addMark) (d' := 2) (As := [.int a2, .int a3]) (rest := []) dX11_skin_57 cvX11_271 okX11_addMark rfl (Nat.le_of_ble_eq_true rfl) BS_2 (Nat.le_of_ble_eq_true rfl) (Nat.le_of_ble_eq_true rfl) hci_11 (Nat.le_of_ble_eq_true rfl) (Nat.le_of_ble_eq_true rfl) h (fun s1 h => ?_)
      refine JT_iinc (q := 3) (v := (a3 + 1)) (lv' := [(3, .int (a3 + 1)), (0, .ref 2), (1, .int a1), (2, .int a2)]) dX11_skin_60 rfl (by rfl) (Nat.le_of_ble_eq_true rfl) rfl ?_
      refine JT_goto (tgt := 36) dX11_skin_63 (by decide) ?_
      exact JT_sub [1, 2, 3, 0] rfl h
set_option maxRecDepth 20000 in
theorem bX11_skin (a1 : Int32) {s : SM} {Q : Int32 → SM → Prop} (h : ((¬ (vX6_hasBody s 5 a1) = 0 → BI MX11_skin 3 23 [(0, .ref 2), (1, .int a1), (2, .int (0 : Int32))] (pI s 244 0 (0 : Int32)) Q) ∧ ((vX6_hasBody s 5 a1) = 0 → Q (-1 : Int32) s))) : KI MX11_skin 3 [.ref 2, .int a1] s Q := by
  show BI MX11_skin 3 0 [(0, .ref 2), (1, .int a1)] s Q
  refine JT_aload_n (q := 0) dX11_skin_0 rfl rfl ?_
  refine JS_getR (x := 5) dX11_skin_1 flX11_19 BS_2 (Nat.le_of_ble_eq_true rfl) (Nat.le_of_ble_eq_true rfl) (Or.inl ⟨_, ct_11_1⟩) RF_2_1 ?_
  refine JT_iload_n (q := 1) dX11_skin_4 rfl rfl ?_
  refine JS_callVI (M' := MX6_hasBody) (d' := 0) (As := [.int a1]) (rest := []) (P := (fun zv9 wm9 => (vX6_hasBody s 5 a1) = zv9 ∧ s = wm9)) dX11_skin_5 cvX11_172 okX6_hasBody rfl (Nat.le_of_ble_eq_true rfl) BS_5 (Nat.le_of_ble_eq_true rfl) (Nat.le_of_ble_eq_true rfl) hci_6 (Nat.le_of_ble_eq_true rfl) (Nat.le_of_ble_eq_true rfl) (pX6_hasBody hp_5 (a1)  ⟨rfl, rfl⟩) (fun zv9 wm9 hq9 => ?_)
  obtain ⟨rfl, rfl⟩ := hq9
  refine JT_if_ne (tgt := 13) dX11_skin_8 (by decide) (fun hc1 => ?_) (fun hc1 => ?_)
  · have h := h.1 hc1
    refine JT_aload_n (q := 0) dX11_skin_13 rfl rfl ?_
    refine JS_getR (x := 244) dX11_skin_14 flX11_93 BS_2 (Nat.le_of_ble_eq_true rfl) (Nat.le_of_ble_eq_true rfl) (Or.inl ⟨_, ct_11_13⟩) RF_2_13 ?_
    refine JT_iconst (v := 0) dX11_skin_17 ic_0 ?_
    refine JS_putI dX11_skin_18 flX11_270 BS_244 (Nat.le_of_ble_eq_true rfl) (Nat.le_of_ble_eq_true rfl) ct_10_0 ?_
    refine JT_iconst (v := 0) dX11_skin_21 ic_0 ?_
    refine JT_istore_n (lv' := [(2, .int (0 : Int32)), (0, .ref 2), (1, .int a1)]) dX11_skin_22 rfl (Nat.le_of_ble_eq_true rfl) rfl ?_
    exact JT_sub [1, 2, 0] rfl h
  · have h := h.2 hc1
    refine JT_iconst (v := -1) dX11_skin_11 ic_m1 ?_
    exact JS_iret dX11_skin_12 rfl rfl h
set_option maxRecDepth 20000 in
theorem bX11_undo  {s : SM} {Q : Int32 → SM → Prop} (h : KI MX2_takeBack 2 [.ref 55, .ref 31] s (fun x2 s1 => Q x2 s1)) : KI MX11_undo 3 [.ref 2] s Q := by
  show BI MX11_undo 3 0 [(0, .ref 2)] s Q
  refine JT_aload_n (q := 0) dX11_undo_0 rfl rfl ?_
  refine JS_getR (x := 55) dX11_undo_1 flX11_51 BS_2 (Nat.le_of_ble_eq_true rfl) (Nat.le_of_ble_eq_true rfl) (Or.inl ⟨_, ct_11_7⟩) RF_2_7 ?_
  refine JT_aload_n (q := 0) dX11_undo_4 rfl rfl ?_
  refine JS_getR (x := 31) dX11_undo_5 flX11_41 BS_2 (Nat.le_of_ble_eq_true rfl) (Nat.le_of_ble_eq_true rfl) (Or.inl ⟨_, ct_11_5⟩) RF_2_5 ?_
  refine JS_callVI (M' := MX2_takeBack) (d' := 2) (As := [.ref 31]) (rest := []) dX11_undo_8 cvX11_333 okX2_takeBack rfl (Nat.le_of_ble_eq_true rfl) BS_55 (Nat.le_of_ble_eq_true rfl) (Nat.le_of_ble_eq_true rfl) hci_2 (Nat.le_of_ble_eq_true rfl) (Nat.le_of_ble_eq_true rfl) h (fun x2 s1 h => ?_)
  exact JS_iret dX11_undo_11 rfl rfl h
set_option maxRecDepth 20000 in
theorem bX11_year  {s : SM} {Q : Int32 → SM → Prop} (h : KV MX2_note 2 [.ref 55, .ref 31] s (fun s1 => (((vX4_tryYear s1 31 5) = 0 → Q (gI (mX2_keepNoted (mX4_tryYear s1 31 5) ) 31 10) (mX2_keepNoted (mX4_tryYear s1 31 5) )) ∧ (¬ (vX4_tryYear s1 31 5) = 0 → Q (-1 : Int32) (mX4_tryYear s1 31 5))))) : KI MX11_year 3 [.ref 2] s Q := by
  show BI MX11_year 3 0 [(0, .ref 2)] s Q
  refine JT_aload_n (q := 0) dX11_year_0 rfl rfl ?_
  refine JS_getR (x := 55) dX11_year_1 flX11_51 BS_2 (Nat.le_of_ble_eq_true rfl) (Nat.le_of_ble_eq_true rfl) (Or.inl ⟨_, ct_11_7⟩) RF_2_7 ?_
  refine JT_aload_n (q := 0) dX11_year_4 rfl rfl ?_
  refine JS_getR (x := 31) dX11_year_5 flX11_41 BS_2 (Nat.le_of_ble_eq_true rfl) (Nat.le_of_ble_eq_true rfl) (Or.inl ⟨_, ct_11_5⟩) RF_2_5 ?_
  refine JS_callVV (M' := MX2_note) (d' := 2) (As := [.ref 31]) (rest := []) dX11_year_8 cvX11_300 okX2_note rfl (Nat.le_of_ble_eq_true rfl) BS_55 (Nat.le_of_ble_eq_true rfl) (Nat.le_of_ble_eq_true rfl) hci_2 (Nat.le_of_ble_eq_true rfl) (Nat.le_of_ble_eq_true rfl) h (fun s1 h => ?_)
  refine JT_aload_n (q := 0) dX11_year_11 rfl rfl ?_
  refine JS_getR (x := 31) dX11_year_12 flX11_41 BS_2 (Nat.le_of_ble_eq_true rfl) (Nat.le_of_ble_eq_true rfl) (Or.inl ⟨_, ct_11_5⟩) RF_2_5 ?_
  refine JS_callVI (M' := MX4_tryYear) (d' := 0) (As := []) (rest := []) (P := (fun zv9 wm9 => (vX4_tryYear s1 31 5) = zv9 ∧ (mX4_tryYear s1 31 5) = wm9)) dX11_year_15 cvX11_330 okX4_tryYear rfl (Nat.le_of_ble_eq_true rfl) BS_31 (Nat.le_of_ble_eq_true rfl) (Nat.le_of_ble_eq_true rfl) hci_4 (Nat.le_of_ble_eq_true rfl) (Nat.le_of_ble_eq_true rfl) (pX4_tryYear hL_31   ⟨rfl, rfl⟩) (fun zv9 wm9 hq9 => ?_)
  obtain ⟨rfl, rfl⟩ := hq9
  refine JT_if_eq (tgt := 23) dX11_year_18 (by decide) (fun hc4 => ?_) (fun hc4 => ?_)
  · have h := h.1 hc4
    refine JT_aload_n (q := 0) dX11_year_23 rfl rfl ?_
    refine JS_getR (x := 55) dX11_year_24 flX11_51 BS_2 (Nat.le_of_ble_eq_true rfl) (Nat.le_of_ble_eq_true rfl) (Or.inl ⟨_, ct_11_7⟩) RF_2_7 ?_
    refine JS_callVV (M' := MX2_keepNoted) (d' := 1) (As := []) (rest := []) (P := (fun wm9 => (mX2_keepNoted (mX4_tryYear s1 31 5) ) = wm9)) dX11_year_27 cvX11_308 okX2_keepNoted rfl (Nat.le_of_ble_eq_true rfl) BS_55 (Nat.le_of_ble_eq_true rfl) (Nat.le_of_ble_eq_true rfl) hci_2 (Nat.le_of_ble_eq_true rfl) (Nat.le_of_ble_eq_true rfl) (pX2_keepNoted    rfl) (fun wm9 hq9 => ?_)
    subst hq9
    refine JT_aload_n (q := 0) dX11_year_30 rfl rfl ?_
    refine JS_getR (x := 31) dX11_year_31 flX11_41 BS_2 (Nat.le_of_ble_eq_true rfl) (Nat.le_of_ble_eq_true rfl) (Or.inl ⟨_, ct_11_5⟩) RF_2_5 ?_
    refine JS_getI dX11_year_34 flX11_169 BS_31 (Nat.le_of_ble_eq_true rfl) (Nat.le_of_ble_eq_true rfl) (Or.inl ct_4_10) ?_
    exact JS_iret dX11_year_37 rfl rfl h
  · have h := h.2 hc4
    refine JT_iconst (v := -1) dX11_year_21 ic_m1 ?_
    exact JS_iret dX11_year_22 rfl rfl h
set_option maxRecDepth 20000 in
theorem bX12_arePacked_2 (a1 : Int32) (a2 : Int32) (a3 : Int32) {s : SM} {Q : Int32 → SM → Prop} (h : (((gI s 250 ((0 : Int32)).toNatClampNeg) ≤ a3 → BI MX12_arePacked 3 42 [(0, .ref 248), (1, .int a1), (2, .int a2), (3, .int (0 : Int32))] s Q) ∧ (¬ (gI s 250 ((0 : Int32)).toNatClampNeg) ≤ a3 → KI MX12_leftOf 2 [.ref 248, .int a3] s (fun x2 s1 => vp_in a3 9 ∧ BI MX12_arePacked 3 2 [(0, .ref 248), (1, .int a1), (2, .int a2), (3, .int (a3 + 1))] (pI s1 269 (a3).toNatClampNeg (x2 + (if a3 = a1 then a2 else (0 : Int32)))) Q)))) : BI MX12_arePacked 3 2 [(0, .ref 248), (1, .int a1), (2, .int a2), (3, .int a3)] s Q := by
  refine JT_iload_n (q := 3) dX12_arePacked_2 rfl rfl ?_
  refine JT_aload_n (q := 0) dX12_arePacked_3 rfl rfl ?_
  refine JS_getR (x := 250) dX12_arePacked_4 flX12_33 BS_248 (Nat.le_of_ble_eq_true rfl) (Nat.le_of_ble_eq_true rfl) (Or.inr ⟨_, ct_12_6⟩) RF_248_6 ?_
  refine JT_iconst (v := 0) dX12_arePacked_7 ic_0 ?_
  refine JS_iald dX12_arePacked_8 BS_250 (Nat.le_of_ble_eq_true rfl) (Nat.le_of_ble_eq_true rfl) (by unfold vp_in; decide) ?_
  refine JT_icmp_ge (tgt := 40) dX12_arePacked_9 (by decide) (fun hc6 => ?_) (fun hc6 => ?_)
  · have h := h.1 hc6
    refine JT_iconst (v := 0) dX12_arePacked_40 ic_0 ?_
    refine JT_istore_n (lv' := [(3, .int (0 : Int32)), (0, .ref 248), (1, .int a1), (2, .int a2)]) dX12_arePacked_41 rfl (Nat.le_of_ble_eq_true rfl) rfl ?_
    exact JT_sub [1, 2, 3, 0] rfl h
  · have h := h.2 hc6
    refine JT_aload_n (q := 0) dX12_arePacked_12 rfl rfl ?_
    refine JS_getR (x := 269) dX12_arePacked_13 flX12_92 BS_248 (Nat.le_of_ble_eq_true rfl) (Nat.le_of_ble_eq_true rfl) (Or.inr ⟨_, ct_12_44⟩) RF_248_44 ?_
    refine JT_iload_n (q := 3) dX12_arePacked_16 rfl rfl ?_
    refine JT_aload_n (q := 0) dX12_arePacked_17 rfl rfl ?_
    refine JT_iload_n (q := 3) dX12_arePacked_18 rfl rfl ?_
    refine JS_callVI (M' := MX12_leftOf) (d' := 2) (As := [.int a3]) (rest := [.int a3, .ref 269]) dX12_arePacked_19 cvX12_297 okX12_leftOf rfl (Nat.le_of_ble_eq_true rfl) BS_248 (Nat.le_of_ble_eq_true rfl) (Nat.le_of_ble_eq_true rfl) hci_12 (Nat.le_of_ble_eq_true rfl) (Nat.le_of_ble_eq_true rfl) h (fun x2 s1 h => ?_)
    refine JT_iload_n (q := 3) dX12_arePacked_22 rfl rfl ?_
    refine JT_iload_n (q := 1) dX12_arePacked_23 rfl rfl ?_
    have hj4 : ∀ v : Int32, v = (if a3 = a1 then a2 else (0 : Int32)) → JT MX12_arePacked 3 0 0 32 [(0, .ref 248), (1, .int a1), (2, .int a2), (3, .int a3)] [.int v, .int x2, .int a3, .ref 269] (std s1) (KQ Q) := by
      intro v hv
      subst hv
      refine JT_iadd dX12_arePacked_32 ?_
      obtain ⟨o3, h⟩ := h
      refine JS_iast dX12_arePacked_33 BS_269 (Nat.le_of_ble_eq_true rfl) (Nat.le_of_ble_eq_true rfl) o3 ?_
      refine JT_iinc (q := 3) (v := (a3 + 1)) (lv' := [(3, .int (a3 + 1)), (0, .ref 248), (1, .int a1), (2, .int a2)]) dX12_arePacked_34 rfl (by rfl) (Nat.le_of_ble_eq_true rfl) rfl ?_
      refine JT_goto (tgt := 2) dX12_arePacked_37 (by decide) ?_
      exact JT_sub [1, 2, 3, 0] rfl h
    refine JT_icmp_ne (tgt := 31) dX12_arePacked_24 (by decide) (fun hc5 => ?_) (fun hc5 => ?_)
    · refine JT_iconst (v := 0) dX12_arePacked_31 ic_0 ?_
      exact hj4 _ (by rw [if_neg hc5])
    · refine JT_iload_n (q := 2) dX12_arePacked_27 rfl rfl ?_
      refine JT_goto (tgt := 32) dX12_arePacked_28 (by decide) ?_
      exact hj4 _ (by rw [if_pos hc5])
set_option maxRecDepth 20000 in
theorem bX12_arePacked_42 (a1 : Int32) (a2 : Int32) (a3 : Int32) {s : SM} {Q : Int32 → SM → Prop} (h : (((gI s 248 45) ≤ a3 → BI MX12_arePacked 3 78 [(0, .ref 248), (1, .int a1), (2, .int a2), (3, .int (0 : Int32))] s Q) ∧ (¬ (gI s 248 45) ≤ a3 → vp_in a3 6 ∧ (((4 : Int32) ≤ (gI s 266 (a3).toNatClampNeg) → BI MX12_arePacked 3 42 [(0, .ref 248), (1, .int a1), (2, .int a2), (3, .int (a3 + 1))] s Q) ∧ (¬ (4 : Int32) ≤ (gI s 266 (a3).toNatClampNeg) → rX12_packs s a3 ∧ ((¬ (vX12_packs s a3) = 0 → BI MX12_arePacked 3 42 [(0, .ref 248), (1, .int a1), (2, .int a2), (3, .int (a3 + 1))] (mX12_packs s a3) Q) ∧ ((vX12_packs s a3) = 0 → Q (0 : Int32) (mX12_packs s a3)))))))) : BI MX12_arePacked 3 42 [(0, .ref 248), (1, .int a1), (2, .int a2), (3, .int a3)] s Q := by
  refine JT_iload_n (q := 3) dX12_arePacked_42 rfl rfl ?_
  refine JT_aload_n (q := 0) dX12_arePacked_43 rfl rfl ?_
  refine JS_getI dX12_arePacked_44 flX12_419 BS_248 (Nat.le_of_ble_eq_true rfl) (Nat.le_of_ble_eq_true rfl) (Or.inl ct_12_45) ?_
  refine JT_icmp_ge (tgt := 76) dX12_arePacked_47 (by decide) (fun hc5 => ?_) (fun hc5 => ?_)
  · have h := h.1 hc5
    refine JT_iconst (v := 0) dX12_arePacked_76 ic_0 ?_
    refine JT_istore_n (lv' := [(3, .int (0 : Int32)), (0, .ref 248), (1, .int a1), (2, .int a2)]) dX12_arePacked_77 rfl (Nat.le_of_ble_eq_true rfl) rfl ?_
    exact JT_sub [1, 2, 3, 0] rfl h
  · have h := h.2 hc5
    refine JT_aload_n (q := 0) dX12_arePacked_50 rfl rfl ?_
    refine JS_getR (x := 266) dX12_arePacked_51 flX12_83 BS_248 (Nat.le_of_ble_eq_true rfl) (Nat.le_of_ble_eq_true rfl) (Or.inr ⟨_, ct_12_41⟩) RF_248_41 ?_
    refine JT_iload_n (q := 3) dX12_arePacked_54 rfl rfl ?_
    obtain ⟨o1, h⟩ := h
    refine JS_iald dX12_arePacked_55 BS_266 (Nat.le_of_ble_eq_true rfl) (Nat.le_of_ble_eq_true rfl) o1 ?_
    refine JT_iconst (v := 4) dX12_arePacked_56 ic_4 ?_
    refine JT_icmp_ge (tgt := 70) dX12_arePacked_57 (by decide) (fun hc4 => ?_) (fun hc4 => ?_)
    · have h := h.1 hc4
      refine JT_iinc (q := 3) (v := (a3 + 1)) (lv' := [(3, .int (a3 + 1)), (0, .ref 248), (1, .int a1), (2, .int a2)]) dX12_arePacked_70 rfl (by rfl) (Nat.le_of_ble_eq_true rfl) rfl ?_
      refine JT_goto (tgt := 42) dX12_arePacked_73 (by decide) ?_
      exact JT_sub [1, 2, 3, 0] rfl h
    · have h := h.2 hc4
      refine JT_aload_n (q := 0) dX12_arePacked_60 rfl rfl ?_
      refine JT_iload_n (q := 3) dX12_arePacked_61 rfl rfl ?_
      obtain ⟨o3, h⟩ := h
      refine JS_callVI (M' := MX12_packs) (d' := 2) (As := [.int a3]) (rest := []) (P := (fun zv9 wm9 => (vX12_packs s a3) = zv9 ∧ (mX12_packs s a3) = wm9)) dX12_arePacked_62 cvX12_422 okX12_packs rfl (Nat.le_of_ble_eq_true rfl) BS_248 (Nat.le_of_ble_eq_true rfl) (Nat.le_of_ble_eq_true rfl) hci_12 (Nat.le_of_ble_eq_true rfl) (Nat.le_of_ble_eq_true rfl) (pX12_packs  (a3) o3 ⟨rfl, rfl⟩) (fun zv9 wm9 hq9 => ?_)
      obtain ⟨rfl, rfl⟩ := hq9
      refine JT_if_ne (tgt := 70) dX12_arePacked_65 (by decide) (fun hc2 => ?_) (fun hc2 => ?_)
      · have h := h.1 hc2
        refine JT_iinc (q := 3) (v := (a3 + 1)) (lv' := [(3, .int (a3 + 1)), (0, .ref 248), (1, .int a1), (2, .int a2)]) dX12_arePacked_70 rfl (by rfl) (Nat.le_of_ble_eq_true rfl) rfl ?_
        refine JT_goto (tgt := 42) dX12_arePacked_73 (by decide) ?_
        exact JT_sub [1, 2, 3, 0] rfl h
      · have h := h.2 hc2
        refine JT_iconst (v := 0) dX12_arePacked_68 ic_0 ?_
        exact JS_iret dX12_arePacked_69 rfl (n01 (Or.inl rfl)) h
set_option maxRecDepth 20000 in
theorem bX12_arePacked_78 (a1 : Int32) (a2 : Int32) (a3 : Int32) {s : SM} {Q : Int32 → SM → Prop} (h : (((gI s 250 ((0 : Int32)).toNatClampNeg) ≤ a3 → Q (1 : Int32) s) ∧ (¬ (gI s 250 ((0 : Int32)).toNatClampNeg) ≤ a3 → vp_in a3 9 ∧ ((0 ≤ (gI s 269 (a3).toNatClampNeg) → BI MX12_arePacked 3 78 [(0, .ref 248), (1, .int a1), (2, .int a2), (3, .int (a3 + 1))] s Q) ∧ (¬ 0 ≤ (gI s 269 (a3).toNatClampNeg) → vp_in a3 9 ∧ KI MX12_leftOf 2 [.ref 248, .int a3] s (fun x4 s3 => (((x4 + (if a3 = a1 then a2 else (0 : Int32))) ≤ (gI s 269 (a3).toNatClampNeg) → BI MX12_arePacked 3 78 [(0, .ref 248), (1, .int a1), (2, .int a2), (3, .int (a3 + 1))] s3 Q) ∧ (¬ (x4 + (if a3 = a1 then a2 else (0 : Int32))) ≤ (gI s 269 (a3).toNatClampNeg) → Q (0 : Int32) s3)))))))) : BI MX12_arePacked 3 78 [(0, .ref 248), (1, .int a1), (2, .int a2), (3, .int a3)] s Q := by
  refine JT_iload_n (q := 3) dX12_arePacked_78 rfl rfl ?_
  refine JT_aload_n (q := 0) dX12_arePacked_79 rfl rfl ?_
  refine JS_getR (x := 250) dX12_arePacked_80 flX12_33 BS_248 (Nat.le_of_ble_eq_true rfl) (Nat.le_of_ble_eq_true rfl) (Or.inr ⟨_, ct_12_6⟩) RF_248_6 ?_
  refine JT_iconst (v := 0) dX12_arePacked_83 ic_0 ?_
  refine JS_iald dX12_arePacked_84 BS_250 (Nat.le_of_ble_eq_true rfl) (Nat.le_of_ble_eq_true rfl) (by unfold vp_in; decide) ?_
  refine JT_icmp_ge (tgt := 130) dX12_arePacked_85 (by decide) (fun hc9 => ?_) (fun hc9 => ?_)
  · have h := h.1 hc9
    refine JT_iconst (v := 1) dX12_arePacked_130 ic_1 ?_
    exact JS_iret dX12_arePacked_131 rfl (n01 (Or.inr rfl)) h
  · have h := h.2 hc9
    refine JT_aload_n (q := 0) dX12_arePacked_88 rfl rfl ?_
    refine JS_getR (x := 269) dX12_arePacked_89 flX12_92 BS_248 (Nat.le_of_ble_eq_true rfl) (Nat.le_of_ble_eq_true rfl) (Or.inr ⟨_, ct_12_44⟩) RF_248_44 ?_
    refine JT_iload_n (q := 3) dX12_arePacked_92 rfl rfl ?_
    obtain ⟨o1, h⟩ := h
    refine JS_iald dX12_arePacked_93 BS_269 (Nat.le_of_ble_eq_true rfl) (Nat.le_of_ble_eq_true rfl) o1 ?_
    refine JT_if_ge (tgt := 124) dX12_arePacked_94 (by decide) (fun hc8 => ?_) (fun hc8 => ?_)
    · have h := h.1 hc8
      refine JT_iinc (q := 3) (v := (a3 + 1)) (lv' := [(3, .int (a3 + 1)), (0, .ref 248), (1, .int a1), (2, .int a2)]) dX12_arePacked_124 rfl (by rfl) (Nat.le_of_ble_eq_true rfl) rfl ?_
      refine JT_goto (tgt := 78) dX12_arePacked_127 (by decide) ?_
      exact JT_sub [1, 2, 3, 0] rfl h
    · have h := h.2 hc8
      refine JT_aload_n (q := 0) dX12_arePacked_97 rfl rfl ?_
      refine JS_getR (x := 269) dX12_arePacked_98 flX12_92 BS_248 (Nat.le_of_ble_eq_true rfl) (Nat.le_of_ble_eq_true rfl) (Or.inr ⟨_, ct_12_44⟩) RF_248_44 ?_
      refine JT_iload_n (q := 3) dX12_arePacked_101 rfl rfl ?_
      obtain ⟨o2, h⟩ := h
      refine JS_iald dX12_arePacked_102 BS_269 (Nat.le_of_ble_eq_true rfl) (Nat.le_of_ble_eq_true rfl) o2 ?_
      refine JT_aload_n (q := 0) dX12_arePacked_103 rfl rfl ?_
      refine JT_iload_n (q := 3) dX12_arePacked_104 rfl rfl ?_
      refine JS_callVI (M' := MX12_leftOf) (d' := 2) (As := [.int a3]) (rest := [.int (gI s 269 (a3).toNatClampNeg)]) dX12_arePacked_105 cvX12_297 okX12_leftOf rfl (Nat.le_of_ble_eq_true rfl) BS_248 (Nat.le_of_ble_eq_true rfl) (Nat.le_of_ble_eq_true rfl) hci_12 (Nat.le_of_ble_eq_true rfl) (Nat.le_of_ble_eq_true rfl) h (fun x4 s3 h => ?_)
      refine JT_iload_n (q := 3) dX12_arePacked_108 rfl rfl ?_
      refine JT_iload_n (q := 1) dX12_arePacked_109 rfl rfl ?_
      have hj6 : ∀ v : Int32, v = (if a3 = a1 then a2 else (0 : Int32)) → JT MX12_arePacked 3 0 0 118 [(0, .ref 248), (1, .int a1), (2, .int a2), (3, .int a3)] [.int v, .int x4, .int (gI s 269 (a3).toNatClampNeg)] (std s3) (KQ Q) := by
        intro v hv
        subst hv
        refine JT_iadd dX12_arePacked_118 ?_
        refine JT_icmp_ge (tgt := 124) dX12_arePacked_119 (by decide) (fun hc5 => ?_) (fun hc5 => ?_)
        · have h := h.1 hc5
          refine JT_iinc (q := 3) (v := (a3 + 1)) (lv' := [(3, .int (a3 + 1)), (0, .ref 248), (1, .int a1), (2, .int a2)]) dX12_arePacked_124 rfl (by rfl) (Nat.le_of_ble_eq_true rfl) rfl ?_
          refine JT_goto (tgt := 78) dX12_arePacked_127 (by decide) ?_
          exact JT_sub [1, 2, 3, 0] rfl h
        · have h := h.2 hc5
          refine JT_iconst (v := 0) dX12_arePacked_122 ic_0 ?_
          exact JS_iret dX12_arePacked_123 rfl (n01 (Or.inl rfl)) h
      refine JT_icmp_ne (tgt := 117) dX12_arePacked_110 (by decide) (fun hc7 => ?_) (fun hc7 => ?_)
      · refine JT_iconst (v := 0) dX12_arePacked_117 ic_0 ?_
        exact hj6 _ (by rw [if_neg hc7])
      · refine JT_iload_n (q := 2) dX12_arePacked_113 rfl rfl ?_
        refine JT_goto (tgt := 118) dX12_arePacked_114 (by decide) ?_
        exact hj6 _ (by rw [if_pos hc7])
set_option maxRecDepth 20000 in
theorem bX12_arePacked (a1 : Int32) (a2 : Int32) {s : SM} {Q : Int32 → SM → Prop} (h : BI MX12_arePacked 3 2 [(0, .ref 248), (1, .int a1), (2, .int a2), (3, .int (0 : Int32))] s Q) : KI MX12_arePacked 3 [.ref 248, .int a1, .int a2] s Q := by
  show BI MX12_arePacked 3 0 [(0, .ref 248), (1, .int a1), (2, .int a2)] s Q
  refine JT_iconst (v := 0) dX12_arePacked_0 ic_0 ?_
  refine JT_istore_n (lv' := [(3, .int (0 : Int32)), (0, .ref 248), (1, .int a1), (2, .int a2)]) dX12_arePacked_1 rfl (Nat.le_of_ble_eq_true rfl) rfl ?_
  exact JT_sub [1, 2, 3, 0] rfl h
set_option maxRecDepth 20000 in
theorem bX12_bearerOf (a1 : Int32) (a2 : Int32) (a3 : Int32) {s : SM} {Q : Int32 → SM → Prop} (h : KI MX12_leftOf 2 [.ref 248, .int a1] s (fun x2 s1 => (((x2 - (if a1 = a3 then a2 else (0 : Int32))) < a2 → vp_in ((13 : Int32) + a1) 787 ∧ (((gI s1 250 (((13 : Int32) + a1)).toNatClampNeg) < 0 → Q (-1 : Int32) s1) ∧ (¬ (gI s1 250 (((13 : Int32) + a1)).toNatClampNeg) < 0 → (((vX12_isLiving s1 (gI s1 250 (((13 : Int32) + a1)).toNatClampNeg)) = 0 → Q (-1 : Int32) s1) ∧ (¬ (vX12_isLiving s1 (gI s1 250 (((13 : Int32) + a1)).toNatClampNeg)) = 0 → KI MX12_leftOf 2 [.ref 248, .int (gI s1 250 (((13 : Int32) + a1)).toNatClampNeg)] s1 (fun x5 s4 => Q (if (x5 - (if (gI s1 250 (((13 : Int32) + a1)).toNatClampNeg) = a3 then a2 else (0 : Int32))) < a2 then (-1 : Int32) else (gI s1 250 (((13 : Int32) + a1)).toNatClampNeg)) s4)))))) ∧ (¬ (x2 - (if a1 = a3 then a2 else (0 : Int32))) < a2 → Q a1 s1)))) : KI MX12_bearerOf 3 [.ref 248, .int a1, .int a2, .int a3] s Q := by
  show BI MX12_bearerOf 3 0 [(0, .ref 248), (1, .int a1), (2, .int a2), (3, .int a3)] s Q
  refine JT_aload_n (q := 0) dX12_bearerOf_0 rfl rfl ?_
  refine JT_iload_n (q := 1) dX12_bearerOf_1 rfl rfl ?_
  refine JS_callVI (M' := MX12_leftOf) (d' := 2) (As := [.int a1]) (rest := []) dX12_bearerOf_2 cvX12_297 okX12_leftOf rfl (Nat.le_of_ble_eq_true rfl) BS_248 (Nat.le_of_ble_eq_true rfl) (Nat.le_of_ble_eq_true rfl) hci_12 (Nat.le_of_ble_eq_true rfl) (Nat.le_of_ble_eq_true rfl) h (fun x2 s1 h => ?_)
  refine JT_iload_n (q := 1) dX12_bearerOf_5 rfl rfl ?_
  refine JT_iload_n (q := 3) dX12_bearerOf_6 rfl rfl ?_
  have hj14 : ∀ v : Int32, v = (if a1 = a3 then a2 else (0 : Int32)) → JT MX12_bearerOf 3 0 0 15 [(0, .ref 248), (1, .int a1), (2, .int a2), (3, .int a3)] [.int v, .int x2] (std s1) (KQ Q) := by
    intro v hv
    subst hv
    refine JT_isub dX12_bearerOf_15 ?_
    refine JT_iload_n (q := 2) dX12_bearerOf_16 rfl rfl ?_
    refine JT_icmp_lt (tgt := 22) dX12_bearerOf_17 (by decide) (fun hc13 => ?_) (fun hc13 => ?_)
    · have h := h.1 hc13
      refine JT_aload_n (q := 0) dX12_bearerOf_22 rfl rfl ?_
      refine JS_getR (x := 250) dX12_bearerOf_23 flX12_33 BS_248 (Nat.le_of_ble_eq_true rfl) (Nat.le_of_ble_eq_true rfl) (Or.inr ⟨_, ct_12_6⟩) RF_248_6 ?_
      refine JT_bipush (v := 13) dX12_bearerOf_26 bp_13 ?_
      refine JT_iload_n (q := 1) dX12_bearerOf_28 rfl rfl ?_
      refine JT_iadd dX12_bearerOf_29 ?_
      obtain ⟨o3, h⟩ := h
      refine JS_iald dX12_bearerOf_30 BS_250 (Nat.le_of_ble_eq_true rfl) (Nat.le_of_ble_eq_true rfl) o3 ?_
      refine JT_istore (lv' := [(4, .int (gI s1 250 (((13 : Int32) + a1)).toNatClampNeg)), (0, .ref 248), (1, .int a1), (2, .int a2), (3, .int a3)]) dX12_bearerOf_31 (Nat.le_of_ble_eq_true rfl) rfl ?_
      refine JT_iload (q := 0) dX12_bearerOf_33 rfl ?_
      refine JT_if_lt (tgt := 74) dX12_bearerOf_35 (by decide) (fun hc12 => ?_) (fun hc12 => ?_)
      · have h := h.1 hc12
        refine JT_iconst (v := -1) dX12_bearerOf_74 ic_m1 ?_
        exact JS_iret dX12_bearerOf_75 rfl rfl h
      · have h := h.2 hc12
        refine JT_aload_n (q := 1) dX12_bearerOf_38 rfl rfl ?_
        refine JT_iload (q := 0) dX12_bearerOf_39 rfl ?_
        refine JS_callVI (M' := MX12_isLiving) (d' := 1) (As := [.int (gI s1 250 (((13 : Int32) + a1)).toNatClampNeg)]) (rest := []) (P := (fun zv9 wm9 => (vX12_isLiving s1 (gI s1 250 (((13 : Int32) + a1)).toNatClampNeg)) = zv9 ∧ s1 = wm9)) dX12_bearerOf_41 cvX12_294 okX12_isLiving rfl (Nat.le_of_ble_eq_true rfl) BS_248 (Nat.le_of_ble_eq_true rfl) (Nat.le_of_ble_eq_true rfl) hci_12 (Nat.le_of_ble_eq_true rfl) (Nat.le_of_ble_eq_true rfl) (pX12_isLiving  ((gI s1 250 (((13 : Int32) + a1)).toNatClampNeg))  ⟨rfl, rfl⟩) (fun zv9 wm9 hq9 => ?_)
        obtain ⟨rfl, rfl⟩ := hq9
        refine JT_if_eq (tgt := 74) dX12_bearerOf_44 (by decide) (fun hc10 => ?_) (fun hc10 => ?_)
        · have h := h.1 hc10
          refine JT_iconst (v := -1) dX12_bearerOf_74 ic_m1 ?_
          exact JS_iret dX12_bearerOf_75 rfl rfl h
        · have h := h.2 hc10
          refine JT_aload_n (q := 1) dX12_bearerOf_47 rfl rfl ?_
          refine JT_iload (q := 0) dX12_bearerOf_48 rfl ?_
          refine JS_callVI (M' := MX12_leftOf) (d' := 2) (As := [.int (gI s1 250 (((13 : Int32) + a1)).toNatClampNeg)]) (rest := []) dX12_bearerOf_50 cvX12_297 okX12_leftOf rfl (Nat.le_of_ble_eq_true rfl) BS_248 (Nat.le_of_ble_eq_true rfl) (Nat.le_of_ble_eq_true rfl) hci_12 (Nat.le_of_ble_eq_true rfl) (Nat.le_of_ble_eq_true rfl) h (fun x5 s4 h => ?_)
          refine JT_iload (q := 0) dX12_bearerOf_53 rfl ?_
          refine JT_iload_n (q := 4) dX12_bearerOf_55 rfl rfl ?_
          have hj8 : ∀ v : Int32, v = (if (gI s1 250 (((13 : Int32) + a1)).toNatClampNeg) = a3 then a2 else (0 : Int32)) → JT MX12_bearerOf 3 0 0 64 [(4, .int (gI s1 250 (((13 : Int32) + a1)).toNatClampNeg)), (0, .ref 248), (1, .int a1), (2, .int a2), (3, .int a3)] [.int v, .int x5] (std s4) (KQ Q) := by
            intro v hv
            subst hv
            refine JT_isub dX12_bearerOf_64 ?_
            refine JT_iload_n (q := 3) dX12_bearerOf_65 rfl rfl ?_
            have hj6 : ∀ v : Int32, v = (if (x5 - (if (gI s1 250 (((13 : Int32) + a1)).toNatClampNeg) = a3 then a2 else (0 : Int32))) < a2 then (-1 : Int32) else (gI s1 250 (((13 : Int32) + a1)).toNatClampNeg)) → JT MX12_bearerOf 3 0 0 75 [(4, .int (gI s1 250 (((13 : Int32) + a1)).toNatClampNeg)), (0, .ref 248), (1, .int a1), (2, .int a2), (3, .int a3)] [.int v] (std s4) (KQ Q) := by
              intro v hv
              subst hv
              exact JS_iret dX12_bearerOf_75 rfl rfl h
            refine JT_icmp_lt (tgt := 74) dX12_bearerOf_66 (by decide) (fun hc7 => ?_) (fun hc7 => ?_)
            · refine JT_iconst (v := -1) dX12_bearerOf_74 ic_m1 ?_
              exact hj6 _ (by rw [if_pos hc7])
            · refine JT_iload (q := 0) dX12_bearerOf_69 rfl ?_
              refine JT_goto (tgt := 75) dX12_bearerOf_71 (by decide) ?_
              exact hj6 _ (by rw [if_neg hc7])
          refine JT_icmp_ne (tgt := 63) dX12_bearerOf_56 (by decide) (fun hc9 => ?_) (fun hc9 => ?_)
          · refine JT_iconst (v := 0) dX12_bearerOf_63 ic_0 ?_
            exact hj8 _ (by rw [if_neg hc9])
          · refine JT_iload_n (q := 3) dX12_bearerOf_59 rfl rfl ?_
            refine JT_goto (tgt := 64) dX12_bearerOf_60 (by decide) ?_
            exact hj8 _ (by rw [if_pos hc9])
    · have h := h.2 hc13
      refine JT_iload_n (q := 1) dX12_bearerOf_20 rfl rfl ?_
      exact JS_iret dX12_bearerOf_21 rfl rfl h
  refine JT_icmp_ne (tgt := 14) dX12_bearerOf_7 (by decide) (fun hc15 => ?_) (fun hc15 => ?_)
  · refine JT_iconst (v := 0) dX12_bearerOf_14 ic_0 ?_
    exact hj14 _ (by rw [if_neg hc15])
  · refine JT_iload_n (q := 2) dX12_bearerOf_10 rfl rfl ?_
    refine JT_goto (tgt := 15) dX12_bearerOf_11 (by decide) ?_
    exact hj14 _ (by rw [if_pos hc15])
set_option maxRecDepth 20000 in
theorem bX12_between_34 (a1 : Int32) (a2 : Int32) (a3 : Int32) (a4 : Int32) (a5 : Int32) {s : SM} {Q : Int32 → SM → Prop} (h : (((gI s 250 ((34 : Int32)).toNatClampNeg) ≤ a5 → Q (if a3 = (-1 : Int32) then a4 else (-1 : Int32)) s) ∧ (¬ (gI s 250 ((34 : Int32)).toNatClampNeg) ≤ a5 → rX12_isOpen s a5 ∧ (((vX12_isOpen s a5) = 0 → BI MX12_between 3 34 [(0, .ref 248), (1, .int a1), (2, .int a2), (3, .int a3), (4, .int a4), (5, .int (a5 + 1))] s Q) ∧ (¬ (vX12_isOpen s a5) = 0 → rX12_of s a5 (0 : Int32) ∧ ((¬ (vX12_of s a5 (0 : Int32)) = a1 → BI MX12_between 3 34 [(0, .ref 248), (1, .int a1), (2, .int a2), (3, .int a3), (4, .int a4), (5, .int (a5 + 1))] s Q) ∧ ((vX12_of s a5 (0 : Int32)) = a1 → rX12_of s a5 (1 : Int32) ∧ (((vX12_of s a5 (1 : Int32)) = a2 → ((¬ a4 = a3 → BI MX12_between 3 34 [(0, .ref 248), (1, .int a1), (2, .int a2), (3, .int a3), (4, .int (a4 + 1)), (5, .int (a5 + 1))] s Q) ∧ (a4 = a3 → Q a5 s))) ∧ (¬ (vX12_of s a5 (1 : Int32)) = a2 → BI MX12_between 3 34 [(0, .ref 248), (1, .int a1), (2, .int a2), (3, .int a3), (4, .int a4), (5, .int (a5 + 1))] s Q))))))))) : BI MX12_between 3 34 [(0, .ref 248), (1, .int a1), (2, .int a2), (3, .int a3), (4, .int a4), (5, .int a5)] s Q := by
  refine JT_iload (q := 5) dX12_between_34 rfl ?_
  refine JT_aload_n (q := 0) dX12_between_36 rfl rfl ?_
  refine JS_getR (x := 250) dX12_between_37 flX12_33 BS_248 (Nat.le_of_ble_eq_true rfl) (Nat.le_of_ble_eq_true rfl) (Or.inr ⟨_, ct_12_6⟩) RF_248_6 ?_
  refine JT_bipush (v := 34) dX12_between_40 bp_34 ?_
  refine JS_iald dX12_between_42 BS_250 (Nat.le_of_ble_eq_true rfl) (Nat.le_of_ble_eq_true rfl) (by unfold vp_in; decide) ?_
  refine JT_icmp_ge (tgt := 98) dX12_between_43 (by decide) (fun hc10 => ?_) (fun hc10 => ?_)
  · have h := h.1 hc10
    refine JT_iload_n (q := 3) dX12_between_98 rfl rfl ?_
    refine JT_iconst (v := -1) dX12_between_99 ic_m1 ?_
    have hj1 : ∀ v : Int32, v = (if a3 = (-1 : Int32) then a4 else (-1 : Int32)) → JT MX12_between 3 0 0 109 [(0, .ref 248), (1, .int a1), (2, .int a2), (3, .int a3), (4, .int a4), (5, .int a5)] [.int v] (std s) (KQ Q) := by
      intro v hv
      subst hv
      exact JS_iret dX12_between_109 rfl rfl h
    refine JT_icmp_ne (tgt := 108) dX12_between_100 (by decide) (fun hc2 => ?_) (fun hc2 => ?_)
    · refine JT_iconst (v := -1) dX12_between_108 ic_m1 ?_
      exact hj1 _ (by rw [if_neg hc2])
    · refine JT_iload (q := 4) dX12_between_103 rfl ?_
      refine JT_goto (tgt := 109) dX12_between_105 (by decide) ?_
      exact hj1 _ (by rw [if_pos hc2])
  · have h := h.2 hc10
    refine JT_aload_n (q := 0) dX12_between_46 rfl rfl ?_
    refine JT_iload (q := 5) dX12_between_47 rfl ?_
    obtain ⟨o9, h⟩ := h
    refine JS_callVI (M' := MX12_isOpen) (d' := 2) (As := [.int a5]) (rest := []) (P := (fun zv9 wm9 => (vX12_isOpen s a5) = zv9 ∧ s = wm9)) dX12_between_49 cvX12_278 okX12_isOpen rfl (Nat.le_of_ble_eq_true rfl) BS_248 (Nat.le_of_ble_eq_true rfl) (Nat.le_of_ble_eq_true rfl) hci_12 (Nat.le_of_ble_eq_true rfl) (Nat.le_of_ble_eq_true rfl) (pX12_isOpen  (a5) o9 ⟨rfl, rfl⟩) (fun zv9 wm9 hq9 => ?_)
    obtain ⟨rfl, rfl⟩ := hq9
    refine JT_if_eq (tgt := 92) dX12_between_52 (by decide) (fun hc8 => ?_) (fun hc8 => ?_)
    · have h := h.1 hc8
      refine JT_iinc (q := 5) (v := (a5 + 1)) (lv' := [(5, .int (a5 + 1)), (0, .ref 248), (1, .int a1), (2, .int a2), (3, .int a3), (4, .int a4)]) dX12_between_92 rfl (by rfl) (Nat.le_of_ble_eq_true rfl) rfl ?_
      refine JT_goto (tgt := 34) dX12_between_95 (by decide) ?_
      exact JT_sub [1, 2, 3, 4, 5, 0] rfl h
    · have h := h.2 hc8
      refine JT_aload_n (q := 0) dX12_between_55 rfl rfl ?_
      refine JT_iload (q := 5) dX12_between_56 rfl ?_
      refine JT_iconst (v := 0) dX12_between_58 ic_0 ?_
      obtain ⟨o7, h⟩ := h
      refine JS_callVI (M' := MX12_of) (d' := 0) (As := [.int a5, .int (0 : Int32)]) (rest := []) (P := (fun zv9 wm9 => (vX12_of s a5 (0 : Int32)) = zv9 ∧ s = wm9)) dX12_between_59 cvX12_265 okX12_of rfl (Nat.le_of_ble_eq_true rfl) BS_248 (Nat.le_of_ble_eq_true rfl) (Nat.le_of_ble_eq_true rfl) hci_12 (Nat.le_of_ble_eq_true rfl) (Nat.le_of_ble_eq_true rfl) (pX12_of  (a5) ((0 : Int32)) o7 ⟨rfl, rfl⟩) (fun zv9 wm9 hq9 => ?_)
      obtain ⟨rfl, rfl⟩ := hq9
      refine JT_iload_n (q := 1) dX12_between_62 rfl rfl ?_
      refine JT_icmp_ne (tgt := 92) dX12_between_63 (by decide) (fun hc6 => ?_) (fun hc6 => ?_)
      · have h := h.1 hc6
        refine JT_iinc (q := 5) (v := (a5 + 1)) (lv' := [(5, .int (a5 + 1)), (0, .ref 248), (1, .int a1), (2, .int a2), (3, .int a3), (4, .int a4)]) dX12_between_92 rfl (by rfl) (Nat.le_of_ble_eq_true rfl) rfl ?_
        refine JT_goto (tgt := 34) dX12_between_95 (by decide) ?_
        exact JT_sub [1, 2, 3, 4, 5, 0] rfl h
      · have h := h.2 hc6
        refine JT_aload_n (q := 0) dX12_between_66 rfl rfl ?_
        refine JT_iload (q := 5) dX12_between_67 rfl ?_
        refine JT_iconst (v := 1) dX12_between_69 ic_1 ?_
        obtain ⟨o5, h⟩ := h
        refine JS_callVI (M' := MX12_of) (d' := 0) (As := [.int a5, .int (1 : Int32)]) (rest := []) (P := (fun zv9 wm9 => (vX12_of s a5 (1 : Int32)) = zv9 ∧ s = wm9)) dX12_between_70 cvX12_265 okX12_of rfl (Nat.le_of_ble_eq_true rfl) BS_248 (Nat.le_of_ble_eq_true rfl) (Nat.le_of_ble_eq_true rfl) hci_12 (Nat.le_of_ble_eq_true rfl) (Nat.le_of_ble_eq_true rfl) (pX12_of  (a5) ((1 : Int32)) o5 ⟨rfl, rfl⟩) (fun zv9 wm9 hq9 => ?_)
        obtain ⟨rfl, rfl⟩ := hq9
        refine JT_iload_n (q := 2) dX12_between_73 rfl rfl ?_
        refine JT_icmp_eq (tgt := 80) dX12_between_74 (by decide) (fun hc4 => ?_) (fun hc4 => ?_)
        · have h := h.1 hc4
          refine JT_iload (q := 4) dX12_between_80 rfl ?_
          refine JT_iload_n (q := 3) dX12_between_82 rfl rfl ?_
          refine JT_icmp_ne (tgt := 89) dX12_between_83 (by decide) (fun hc3 => ?_) (fun hc3 => ?_)
          · have h := h.1 hc3
            refine JT_iinc (q := 4) (v := (a4 + 1)) (lv' := [(4, .int (a4 + 1)), (0, .ref 248), (1, .int a1), (2, .int a2), (3, .int a3), (5, .int a5)]) dX12_between_89 rfl (by rfl) (Nat.le_of_ble_eq_true rfl) rfl ?_
            refine JT_iinc (q := 5) (v := (a5 + 1)) (lv' := [(5, .int (a5 + 1)), (4, .int (a4 + 1)), (0, .ref 248), (1, .int a1), (2, .int a2), (3, .int a3)]) dX12_between_92 rfl (by rfl) (Nat.le_of_ble_eq_true rfl) rfl ?_
            refine JT_goto (tgt := 34) dX12_between_95 (by decide) ?_
            exact JT_sub [2, 3, 4, 5, 1, 0] rfl h
          · have h := h.2 hc3
            refine JT_iload (q := 5) dX12_between_86 rfl ?_
            exact JS_iret dX12_between_88 rfl rfl h
        · have h := h.2 hc4
          refine JT_goto (tgt := 92) dX12_between_77 (by decide) ?_
          refine JT_iinc (q := 5) (v := (a5 + 1)) (lv' := [(5, .int (a5 + 1)), (0, .ref 248), (1, .int a1), (2, .int a2), (3, .int a3), (4, .int a4)]) dX12_between_92 rfl (by rfl) (Nat.le_of_ble_eq_true rfl) rfl ?_
          refine JT_goto (tgt := 34) dX12_between_95 (by decide) ?_
          exact JT_sub [1, 2, 3, 4, 5, 0] rfl h
set_option maxRecDepth 20000 in
theorem bX12_between (a1 : Int32) (a2 : Int32) (a3 : Int32) {s : SM} {Q : Int32 → SM → Prop} (h : (((vX12_isBody (pI s 248 0 (0 : Int32)) a1) = 0 → Q (-1 : Int32) (pI s 248 0 (0 : Int32))) ∧ (¬ (vX12_isBody (pI s 248 0 (0 : Int32)) a1) = 0 → (((vX12_isBody (pI s 248 0 (0 : Int32)) a2) = 0 → Q (-1 : Int32) (pI s 248 0 (0 : Int32))) ∧ (¬ (vX12_isBody (pI s 248 0 (0 : Int32)) a2) = 0 → (((-1 : Int32) ≤ a3 → BI MX12_between 3 34 [(0, .ref 248), (1, .int a1), (2, .int a2), (3, .int a3), (4, .int (0 : Int32)), (5, .int (0 : Int32))] (pI s 248 0 (0 : Int32)) Q) ∧ (¬ (-1 : Int32) ≤ a3 → Q (-1 : Int32) (pI s 248 0 (0 : Int32))))))))) : KI MX12_between 3 [.ref 248, .int a1, .int a2, .int a3] s Q := by
  show BI MX12_between 3 0 [(0, .ref 248), (1, .int a1), (2, .int a2), (3, .int a3)] s Q
  refine JT_aload_n (q := 0) dX12_between_0 rfl rfl ?_
  refine JT_iconst (v := 0) dX12_between_1 ic_0 ?_
  refine JS_putI dX12_between_2 flX12_1 BS_248 (Nat.le_of_ble_eq_true rfl) (Nat.le_of_ble_eq_true rfl) ct_12_0 ?_
  refine JT_aload_n (q := 0) dX12_between_5 rfl rfl ?_
  refine JT_iload_n (q := 1) dX12_between_6 rfl rfl ?_
  refine JS_callVI (M' := MX12_isBody) (d' := 1) (As := [.int a1]) (rest := []) (P := (fun zv9 wm9 => (vX12_isBody (pI s 248 0 (0 : Int32)) a1) = zv9 ∧ (pI s 248 0 (0 : Int32)) = wm9)) dX12_between_7 cvX12_287 okX12_isBody rfl (Nat.le_of_ble_eq_true rfl) BS_248 (Nat.le_of_ble_eq_true rfl) (Nat.le_of_ble_eq_true rfl) hci_12 (Nat.le_of_ble_eq_true rfl) (Nat.le_of_ble_eq_true rfl) (pX12_isBody  (a1)  ⟨rfl, rfl⟩) (fun zv9 wm9 hq9 => ?_)
  obtain ⟨rfl, rfl⟩ := hq9
  refine JT_if_eq (tgt := 26) dX12_between_10 (by decide) (fun hc4 => ?_) (fun hc4 => ?_)
  · have h := h.1 hc4
    refine JT_iconst (v := -1) dX12_between_26 ic_m1 ?_
    exact JS_iret dX12_between_27 rfl rfl h
  · have h := h.2 hc4
    refine JT_aload_n (q := 0) dX12_between_13 rfl rfl ?_
    refine JT_iload_n (q := 2) dX12_between_14 rfl rfl ?_
    refine JS_callVI (M' := MX12_isBody) (d' := 1) (As := [.int a2]) (rest := []) (P := (fun zv9 wm9 => (vX12_isBody (pI s 248 0 (0 : Int32)) a2) = zv9 ∧ (pI s 248 0 (0 : Int32)) = wm9)) dX12_between_15 cvX12_287 okX12_isBody rfl (Nat.le_of_ble_eq_true rfl) BS_248 (Nat.le_of_ble_eq_true rfl) (Nat.le_of_ble_eq_true rfl) hci_12 (Nat.le_of_ble_eq_true rfl) (Nat.le_of_ble_eq_true rfl) (pX12_isBody  (a2)  ⟨rfl, rfl⟩) (fun zv9 wm9 hq9 => ?_)
    obtain ⟨rfl, rfl⟩ := hq9
    refine JT_if_eq (tgt := 26) dX12_between_18 (by decide) (fun hc2 => ?_) (fun hc2 => ?_)
    · have h := h.1 hc2
      refine JT_iconst (v := -1) dX12_between_26 ic_m1 ?_
      exact JS_iret dX12_between_27 rfl rfl h
    · have h := h.2 hc2
      refine JT_iload_n (q := 3) dX12_between_21 rfl rfl ?_
      refine JT_iconst (v := -1) dX12_between_22 ic_m1 ?_
      refine JT_icmp_ge (tgt := 28) dX12_between_23 (by decide) (fun hc1 => ?_) (fun hc1 => ?_)
      · have h := h.1 hc1
        refine JT_iconst (v := 0) dX12_between_28 ic_0 ?_
        refine JT_istore (lv' := [(4, .int (0 : Int32)), (0, .ref 248), (1, .int a1), (2, .int a2), (3, .int a3)]) dX12_between_29 (Nat.le_of_ble_eq_true rfl) rfl ?_
        refine JT_iconst (v := 0) dX12_between_31 ic_0 ?_
        refine JT_istore (lv' := [(5, .int (0 : Int32)), (4, .int (0 : Int32)), (0, .ref 248), (1, .int a1), (2, .int a2), (3, .int a3)]) dX12_between_32 (Nat.le_of_ble_eq_true rfl) rfl ?_
        exact JT_sub [2, 3, 4, 5, 1, 0] rfl h
      · have h := h.2 hc1
        refine JT_iconst (v := -1) dX12_between_26 ic_m1 ?_
        exact JS_iret dX12_between_27 rfl rfl h
set_option maxRecDepth 20000 in
theorem bX12_bookLine_122 (a1 : Int32) (a2 : Int32) (a3 : Int32) {s : SM} {Q : Int32 → SM → Prop} (h : (((5 : Int32) ≤ a3 → vp_in a2 201 ∧ KV MX12_next 1 [.ref 248] (pI s 252 (a2).toNatClampNeg a1) (fun s2 => ((a1 = (3 : Int32) → Q (1 : Int32) s2) ∧ (¬ a1 = (3 : Int32) → ((¬ a1 = (5 : Int32) → ((a1 = (1 : Int32) → BI MX12_bookLine 3 175 [(0, .ref 248), (1, .int a1), (2, .int a2), (3, .int a3)] s2 Q) ∧ (¬ a1 = (1 : Int32) → ((¬ a1 = (2 : Int32) → KI MX12_takesName 2 [.ref 248, .int (0 : Int32), .int (gI s2 250 ((0 : Int32)).toNatClampNeg)] s2 (fun x5 s4 => ((¬ x5 = 0 → vp_in (a2 + (1 : Int32)) 201 ∧ KI MX12_takesName 2 [.ref 248, .int (0 : Int32), .int (gI (pI s4 252 ((a2 + (1 : Int32))).toNatClampNeg (gI s4 248 18)) 250 ((0 : Int32)).toNatClampNeg)] (pI s4 252 ((a2 + (1 : Int32))).toNatClampNeg (gI s4 248 18)) (fun x8 s7 => ((¬ x8 = 0 → vp_in (a2 + (2 : Int32)) 201 ∧ ((¬ a1 = (4 : Int32) → KI MX12_takes 2 [.ref 248, .int (1 : Int32), .int (99 : Int32)] (pI s7 252 ((a2 + (2 : Int32))).toNatClampNeg (gI s7 248 18)) (fun x11 s10 => ((¬ x11 = 0 → vp_in (a2 + (3 : Int32)) 201 ∧ KI MX12_takesName 2 [.ref 248, .int (9 : Int32), .int (gI (pI s10 252 ((a2 + (3 : Int32))).toNatClampNeg (gI s10 248 18)) 250 ((1 : Int32)).toNatClampNeg)] (pI s10 252 ((a2 + (3 : Int32))).toNatClampNeg (gI s10 248 18)) (fun x14 s13 => ((¬ x14 = 0 → vp_in (a2 + (4 : Int32)) 201 ∧ Q (1 : Int32) (pI s13 252 ((a2 + (4 : Int32))).toNatClampNeg (gI s13 248 18))) ∧ (x14 = 0 → Q (0 : Int32) s13)))) ∧ (x11 = 0 → Q (0 : Int32) s10)))) ∧ (a1 = (4 : Int32) → Q (1 : Int32) (pI s7 252 ((a2 + (2 : Int32))).toNatClampNeg (gI s7 248 18))))) ∧ (x8 = 0 → Q (0 : Int32) s7)))) ∧ (x5 = 0 → Q (0 : Int32) s4)))) ∧ (a1 = (2 : Int32) → BI MX12_bookLine 3 175 [(0, .ref 248), (1, .int a1), (2, .int a2), (3, .int a3)] s2 Q))))) ∧ (a1 = (5 : Int32) → Q (1 : Int32) s2)))))) ∧ (¬ (5 : Int32) ≤ a3 → vp_in (a2 + a3) 201 ∧ BI MX12_bookLine 3 122 [(0, .ref 248), (1, .int a1), (2, .int a2), (3, .int (a3 + 1))] (pI s 252 ((a2 + a3)).toNatClampNeg (0 : Int32)) Q))) : BI MX12_bookLine 3 122 [(0, .ref 248), (1, .int a1), (2, .int a2), (3, .int a3)] s Q := by
  refine JT_iload_n (q := 3) dX12_bookLine_122 rfl rfl ?_
  refine JT_iconst (v := 5) dX12_bookLine_123 ic_5 ?_
  refine JT_icmp_ge (tgt := 142) dX12_bookLine_124 (by decide) (fun hc26 => ?_) (fun hc26 => ?_)
  · have h := h.1 hc26
    refine JT_aload_n (q := 0) dX12_bookLine_142 rfl rfl ?_
    refine JS_getR (x := 252) dX12_bookLine_143 flX12_40 BS_248 (Nat.le_of_ble_eq_true rfl) (Nat.le_of_ble_eq_true rfl) (Or.inr ⟨_, ct_12_8⟩) RF_248_8 ?_
    refine JT_iload_n (q := 2) dX12_bookLine_146 rfl rfl ?_
    refine JT_iload_n (q := 1) dX12_bookLine_147 rfl rfl ?_
    obtain ⟨o1, h⟩ := h
    refine JS_iast dX12_bookLine_148 BS_252 (Nat.le_of_ble_eq_true rfl) (Nat.le_of_ble_eq_true rfl) o1 ?_
    refine JT_aload_n (q := 0) dX12_bookLine_149 rfl rfl ?_
    refine JS_callVV (M' := MX12_next) (d' := 1) (As := []) (rest := []) dX12_bookLine_150 cvX12_199 okX12_next rfl (Nat.le_of_ble_eq_true rfl) BS_248 (Nat.le_of_ble_eq_true rfl) (Nat.le_of_ble_eq_true rfl) hci_12 (Nat.le_of_ble_eq_true rfl) (Nat.le_of_ble_eq_true rfl) h (fun s2 h => ?_)
    refine JT_iload_n (q := 1) dX12_bookLine_153 rfl rfl ?_
    refine JT_iconst (v := 3) dX12_bookLine_154 ic_3 ?_
    refine JT_icmp_eq (tgt := 163) dX12_bookLine_155 (by decide) (fun hc24 => ?_) (fun hc24 => ?_)
    · have h := h.1 hc24
      refine JT_iconst (v := 1) dX12_bookLine_163 ic_1 ?_
      exact JS_iret dX12_bookLine_164 rfl (n01 (Or.inr rfl)) h
    · have h := h.2 hc24
      refine JT_iload_n (q := 1) dX12_bookLine_158 rfl rfl ?_
      refine JT_iconst (v := 5) dX12_bookLine_159 ic_5 ?_
      refine JT_icmp_ne (tgt := 165) dX12_bookLine_160 (by decide) (fun hc23 => ?_) (fun hc23 => ?_)
      · have h := h.1 hc23
        refine JT_iload_n (q := 1) dX12_bookLine_165 rfl rfl ?_
        refine JT_iconst (v := 1) dX12_bookLine_166 ic_1 ?_
        refine JT_icmp_eq (tgt := 175) dX12_bookLine_167 (by decide) (fun hc22 => ?_) (fun hc22 => ?_)
        · have h := h.1 hc22
          exact JT_sub [0, 1, 2, 3] rfl h
        · have h := h.2 hc22
          refine JT_iload_n (q := 1) dX12_bookLine_170 rfl rfl ?_
          refine JT_iconst (v := 2) dX12_bookLine_171 ic_2 ?_
          refine JT_icmp_ne (tgt := 261) dX12_bookLine_172 (by decide) (fun hc21 => ?_) (fun hc21 => ?_)
          · have h := h.1 hc21
            refine JT_aload_n (q := 0) dX12_bookLine_261 rfl rfl ?_
            refine JT_iconst (v := 0) dX12_bookLine_262 ic_0 ?_
            refine JT_aload_n (q := 0) dX12_bookLine_263 rfl rfl ?_
            refine JS_getR (x := 250) dX12_bookLine_264 flX12_33 BS_248 (Nat.le_of_ble_eq_true rfl) (Nat.le_of_ble_eq_true rfl) (Or.inr ⟨_, ct_12_6⟩) RF_248_6 ?_
            refine JT_iconst (v := 0) dX12_bookLine_267 ic_0 ?_
            refine JS_iald dX12_bookLine_268 BS_250 (Nat.le_of_ble_eq_true rfl) (Nat.le_of_ble_eq_true rfl) (by unfold vp_in; decide) ?_
            refine JS_callVI (M' := MX12_takesName) (d' := 2) (As := [.int (0 : Int32), .int (gI s2 250 ((0 : Int32)).toNatClampNeg)]) (rest := []) dX12_bookLine_269 cvX12_228 okX12_takesName rfl (Nat.le_of_ble_eq_true rfl) BS_248 (Nat.le_of_ble_eq_true rfl) (Nat.le_of_ble_eq_true rfl) hci_12 (Nat.le_of_ble_eq_true rfl) (Nat.le_of_ble_eq_true rfl) h (fun x5 s4 h => ?_)
            refine JT_if_ne (tgt := 277) dX12_bookLine_272 (by decide) (fun hc20 => ?_) (fun hc20 => ?_)
            · have h := h.1 hc20
              refine JT_aload_n (q := 0) dX12_bookLine_277 rfl rfl ?_
              refine JS_getR (x := 252) dX12_bookLine_278 flX12_40 BS_248 (Nat.le_of_ble_eq_true rfl) (Nat.le_of_ble_eq_true rfl) (Or.inr ⟨_, ct_12_8⟩) RF_248_8 ?_
              refine JT_iload_n (q := 2) dX12_bookLine_281 rfl rfl ?_
              refine JT_iconst (v := 1) dX12_bookLine_282 ic_1 ?_
              refine JT_iadd dX12_bookLine_283 ?_
              refine JT_aload_n (q := 0) dX12_bookLine_284 rfl rfl ?_
              refine JS_getI dX12_bookLine_285 flX12_206 BS_248 (Nat.le_of_ble_eq_true rfl) (Nat.le_of_ble_eq_true rfl) (Or.inl ct_12_18) ?_
              obtain ⟨o6, h⟩ := h
              refine JS_iast dX12_bookLine_288 BS_252 (Nat.le_of_ble_eq_true rfl) (Nat.le_of_ble_eq_true rfl) o6 ?_
              refine JT_aload_n (q := 0) dX12_bookLine_289 rfl rfl ?_
              refine JT_iconst (v := 0) dX12_bookLine_290 ic_0 ?_
              refine JT_aload_n (q := 0) dX12_bookLine_291 rfl rfl ?_
              refine JS_getR (x := 250) dX12_bookLine_292 flX12_33 BS_248 (Nat.le_of_ble_eq_true rfl) (Nat.le_of_ble_eq_true rfl) (Or.inr ⟨_, ct_12_6⟩) RF_248_6 ?_
              refine JT_iconst (v := 0) dX12_bookLine_295 ic_0 ?_
              refine JS_iald dX12_bookLine_296 BS_250 (Nat.le_of_ble_eq_true rfl) (Nat.le_of_ble_eq_true rfl) (by unfold vp_in; decide) ?_
              refine JS_callVI (M' := MX12_takesName) (d' := 2) (As := [.int (0 : Int32), .int (gI (pI s4 252 ((a2 + (1 : Int32))).toNatClampNeg (gI s4 248 18)) 250 ((0 : Int32)).toNatClampNeg)]) (rest := []) dX12_bookLine_297 cvX12_228 okX12_takesName rfl (Nat.le_of_ble_eq_true rfl) BS_248 (Nat.le_of_ble_eq_true rfl) (Nat.le_of_ble_eq_true rfl) hci_12 (Nat.le_of_ble_eq_true rfl) (Nat.le_of_ble_eq_true rfl) h (fun x8 s7 h => ?_)
              refine JT_if_ne (tgt := 305) dX12_bookLine_300 (by decide) (fun hc19 => ?_) (fun hc19 => ?_)
              · have h := h.1 hc19
                refine JT_aload_n (q := 0) dX12_bookLine_305 rfl rfl ?_
                refine JS_getR (x := 252) dX12_bookLine_306 flX12_40 BS_248 (Nat.le_of_ble_eq_true rfl) (Nat.le_of_ble_eq_true rfl) (Or.inr ⟨_, ct_12_8⟩) RF_248_8 ?_
                refine JT_iload_n (q := 2) dX12_bookLine_309 rfl rfl ?_
                refine JT_iconst (v := 2) dX12_bookLine_310 ic_2 ?_
                refine JT_iadd dX12_bookLine_311 ?_
                refine JT_aload_n (q := 0) dX12_bookLine_312 rfl rfl ?_
                refine JS_getI dX12_bookLine_313 flX12_206 BS_248 (Nat.le_of_ble_eq_true rfl) (Nat.le_of_ble_eq_true rfl) (Or.inl ct_12_18) ?_
                obtain ⟨o9, h⟩ := h
                refine JS_iast dX12_bookLine_316 BS_252 (Nat.le_of_ble_eq_true rfl) (Nat.le_of_ble_eq_true rfl) o9 ?_
                refine JT_iload_n (q := 1) dX12_bookLine_317 rfl rfl ?_
                refine JT_iconst (v := 4) dX12_bookLine_318 ic_4 ?_
                refine JT_icmp_ne (tgt := 324) dX12_bookLine_319 (by decide) (fun hc18 => ?_) (fun hc18 => ?_)
                · have h := h.1 hc18
                  refine JT_aload_n (q := 0) dX12_bookLine_324 rfl rfl ?_
                  refine JT_iconst (v := 1) dX12_bookLine_325 ic_1 ?_
                  refine JT_bipush (v := 99) dX12_bookLine_326 bp_99 ?_
                  refine JS_callVI (M' := MX12_takes) (d' := 2) (As := [.int (1 : Int32), .int (99 : Int32)]) (rest := []) dX12_bookLine_328 cvX12_224 okX12_takes rfl (Nat.le_of_ble_eq_true rfl) BS_248 (Nat.le_of_ble_eq_true rfl) (Nat.le_of_ble_eq_true rfl) hci_12 (Nat.le_of_ble_eq_true rfl) (Nat.le_of_ble_eq_true rfl) h (fun x11 s10 h => ?_)
                  refine JT_if_ne (tgt := 336) dX12_bookLine_331 (by decide) (fun hc17 => ?_) (fun hc17 => ?_)
                  · have h := h.1 hc17
                    refine JT_aload_n (q := 0) dX12_bookLine_336 rfl rfl ?_
                    refine JS_getR (x := 252) dX12_bookLine_337 flX12_40 BS_248 (Nat.le_of_ble_eq_true rfl) (Nat.le_of_ble_eq_true rfl) (Or.inr ⟨_, ct_12_8⟩) RF_248_8 ?_
                    refine JT_iload_n (q := 2) dX12_bookLine_340 rfl rfl ?_
                    refine JT_iconst (v := 3) dX12_bookLine_341 ic_3 ?_
                    refine JT_iadd dX12_bookLine_342 ?_
                    refine JT_aload_n (q := 0) dX12_bookLine_343 rfl rfl ?_
                    refine JS_getI dX12_bookLine_344 flX12_206 BS_248 (Nat.le_of_ble_eq_true rfl) (Nat.le_of_ble_eq_true rfl) (Or.inl ct_12_18) ?_
                    obtain ⟨o12, h⟩ := h
                    refine JS_iast dX12_bookLine_347 BS_252 (Nat.le_of_ble_eq_true rfl) (Nat.le_of_ble_eq_true rfl) o12 ?_
                    refine JT_aload_n (q := 0) dX12_bookLine_348 rfl rfl ?_
                    refine JT_bipush (v := 9) dX12_bookLine_349 bp_9 ?_
                    refine JT_aload_n (q := 0) dX12_bookLine_351 rfl rfl ?_
                    refine JS_getR (x := 250) dX12_bookLine_352 flX12_33 BS_248 (Nat.le_of_ble_eq_true rfl) (Nat.le_of_ble_eq_true rfl) (Or.inr ⟨_, ct_12_6⟩) RF_248_6 ?_
                    refine JT_iconst (v := 1) dX12_bookLine_355 ic_1 ?_
                    refine JS_iald dX12_bookLine_356 BS_250 (Nat.le_of_ble_eq_true rfl) (Nat.le_of_ble_eq_true rfl) (by unfold vp_in; decide) ?_
                    refine JS_callVI (M' := MX12_takesName) (d' := 2) (As := [.int (9 : Int32), .int (gI (pI s10 252 ((a2 + (3 : Int32))).toNatClampNeg (gI s10 248 18)) 250 ((1 : Int32)).toNatClampNeg)]) (rest := []) dX12_bookLine_357 cvX12_228 okX12_takesName rfl (Nat.le_of_ble_eq_true rfl) BS_248 (Nat.le_of_ble_eq_true rfl) (Nat.le_of_ble_eq_true rfl) hci_12 (Nat.le_of_ble_eq_true rfl) (Nat.le_of_ble_eq_true rfl) h (fun x14 s13 h => ?_)
                    refine JT_if_ne (tgt := 365) dX12_bookLine_360 (by decide) (fun hc16 => ?_) (fun hc16 => ?_)
                    · have h := h.1 hc16
                      refine JT_aload_n (q := 0) dX12_bookLine_365 rfl rfl ?_
                      refine JS_getR (x := 252) dX12_bookLine_366 flX12_40 BS_248 (Nat.le_of_ble_eq_true rfl) (Nat.le_of_ble_eq_true rfl) (Or.inr ⟨_, ct_12_8⟩) RF_248_8 ?_
                      refine JT_iload_n (q := 2) dX12_bookLine_369 rfl rfl ?_
                      refine JT_iconst (v := 4) dX12_bookLine_370 ic_4 ?_
                      refine JT_iadd dX12_bookLine_371 ?_
                      refine JT_aload_n (q := 0) dX12_bookLine_372 rfl rfl ?_
                      refine JS_getI dX12_bookLine_373 flX12_206 BS_248 (Nat.le_of_ble_eq_true rfl) (Nat.le_of_ble_eq_true rfl) (Or.inl ct_12_18) ?_
                      obtain ⟨o15, h⟩ := h
                      refine JS_iast dX12_bookLine_376 BS_252 (Nat.le_of_ble_eq_true rfl) (Nat.le_of_ble_eq_true rfl) o15 ?_
                      refine JT_iconst (v := 1) dX12_bookLine_377 ic_1 ?_
                      exact JS_iret dX12_bookLine_378 rfl (n01 (Or.inr rfl)) h
                    · have h := h.2 hc16
                      refine JT_iconst (v := 0) dX12_bookLine_363 ic_0 ?_
                      exact JS_iret dX12_bookLine_364 rfl (n01 (Or.inl rfl)) h
                  · have h := h.2 hc17
                    refine JT_iconst (v := 0) dX12_bookLine_334 ic_0 ?_
                    exact JS_iret dX12_bookLine_335 rfl (n01 (Or.inl rfl)) h
                · have h := h.2 hc18
                  refine JT_iconst (v := 1) dX12_bookLine_322 ic_1 ?_
                  exact JS_iret dX12_bookLine_323 rfl (n01 (Or.inr rfl)) h
              · have h := h.2 hc19
                refine JT_iconst (v := 0) dX12_bookLine_303 ic_0 ?_
                exact JS_iret dX12_bookLine_304 rfl (n01 (Or.inl rfl)) h
            · have h := h.2 hc20
              refine JT_iconst (v := 0) dX12_bookLine_275 ic_0 ?_
              exact JS_iret dX12_bookLine_276 rfl (n01 (Or.inl rfl)) h
          · have h := h.2 hc21
            exact JT_sub [0, 1, 2, 3] rfl h
      · have h := h.2 hc23
        refine JT_iconst (v := 1) dX12_bookLine_163 ic_1 ?_
        exact JS_iret dX12_bookLine_164 rfl (n01 (Or.inr rfl)) h
  · have h := h.2 hc26
    refine JT_aload_n (q := 0) dX12_bookLine_127 rfl rfl ?_
    refine JS_getR (x := 252) dX12_bookLine_128 flX12_40 BS_248 (Nat.le_of_ble_eq_true rfl) (Nat.le_of_ble_eq_true rfl) (Or.inr ⟨_, ct_12_8⟩) RF_248_8 ?_
    refine JT_iload_n (q := 2) dX12_bookLine_131 rfl rfl ?_
    refine JT_iload_n (q := 3) dX12_bookLine_132 rfl rfl ?_
    refine JT_iadd dX12_bookLine_133 ?_
    refine JT_iconst (v := 0) dX12_bookLine_134 ic_0 ?_
    obtain ⟨o25, h⟩ := h
    refine JS_iast dX12_bookLine_135 BS_252 (Nat.le_of_ble_eq_true rfl) (Nat.le_of_ble_eq_true rfl) o25 ?_
    refine JT_iinc (q := 3) (v := (a3 + 1)) (lv' := [(3, .int (a3 + 1)), (0, .ref 248), (1, .int a1), (2, .int a2)]) dX12_bookLine_136 rfl (by rfl) (Nat.le_of_ble_eq_true rfl) rfl ?_
    refine JT_goto (tgt := 122) dX12_bookLine_139 (by decide) ?_
    exact JT_sub [1, 2, 3, 0] rfl h
set_option maxRecDepth 20000 in
theorem bX12_bookLine_175 (a1 : Int32) (a2 : Int32) (a3 : Int32) {s : SM} {Q : Int32 → SM → Prop} (h : KI MX12_takes 2 [.ref 248, .int (0 : Int32), .int (59 : Int32)] s (fun x2 s1 => ((¬ x2 = 0 → vp_in (a2 + (1 : Int32)) 201 ∧ ((¬ a1 = (1 : Int32) → ((¬ (vX12_isWord (pI s1 252 ((a2 + (1 : Int32))).toNatClampNeg (gI s1 248 18)) (109342978500980 : Int64)) = 0 → BI MX12_bookLine 3 232 [(0, .ref 248), (1, .int a1), (2, .int a2), (3, .int a3)] (pI s1 252 ((a2 + (1 : Int32))).toNatClampNeg (gI s1 248 18)) Q) ∧ ((vX12_isWord (pI s1 252 ((a2 + (1 : Int32))).toNatClampNeg (gI s1 248 18)) (109342978500980 : Int64)) = 0 → ((¬ (vX12_isWord (pI s1 252 ((a2 + (1 : Int32))).toNatClampNeg (gI s1 248 18)) (1684365940 : Int64)) = 0 → BI MX12_bookLine 3 232 [(0, .ref 248), (1, .int a1), (2, .int a2), (3, .int a3)] (pI s1 252 ((a2 + (1 : Int32))).toNatClampNeg (gI s1 248 18)) Q) ∧ ((vX12_isWord (pI s1 252 ((a2 + (1 : Int32))).toNatClampNeg (gI s1 248 18)) (1684365940 : Int64)) = 0 → Q (vX12_bad (pI s1 252 ((a2 + (1 : Int32))).toNatClampNeg (gI s1 248 18)) (1 : Int32)) (mX12_bad (pI s1 252 ((a2 + (1 : Int32))).toNatClampNeg (gI s1 248 18)) (1 : Int32))))))) ∧ (a1 = (1 : Int32) → Q (1 : Int32) (pI s1 252 ((a2 + (1 : Int32))).toNatClampNeg (gI s1 248 18))))) ∧ (x2 = 0 → Q (0 : Int32) s1)))) : BI MX12_bookLine 3 175 [(0, .ref 248), (1, .int a1), (2, .int a2), (3, .int a3)] s Q := by
  refine JT_aload_n (q := 0) dX12_bookLine_175 rfl rfl ?_
  refine JT_iconst (v := 0) dX12_bookLine_176 ic_0 ?_
  refine JT_bipush (v := 59) dX12_bookLine_177 bp_59 ?_
  refine JS_callVI (M' := MX12_takes) (d' := 2) (As := [.int (0 : Int32), .int (59 : Int32)]) (rest := []) dX12_bookLine_179 cvX12_224 okX12_takes rfl (Nat.le_of_ble_eq_true rfl) BS_248 (Nat.le_of_ble_eq_true rfl) (Nat.le_of_ble_eq_true rfl) hci_12 (Nat.le_of_ble_eq_true rfl) (Nat.le_of_ble_eq_true rfl) h (fun x2 s1 h => ?_)
  refine JT_if_ne (tgt := 187) dX12_bookLine_182 (by decide) (fun hc10 => ?_) (fun hc10 => ?_)
  · have h := h.1 hc10
    refine JT_aload_n (q := 0) dX12_bookLine_187 rfl rfl ?_
    refine JS_getR (x := 252) dX12_bookLine_188 flX12_40 BS_248 (Nat.le_of_ble_eq_true rfl) (Nat.le_of_ble_eq_true rfl) (Or.inr ⟨_, ct_12_8⟩) RF_248_8 ?_
    refine JT_iload_n (q := 2) dX12_bookLine_191 rfl rfl ?_
    refine JT_iconst (v := 1) dX12_bookLine_192 ic_1 ?_
    refine JT_iadd dX12_bookLine_193 ?_
    refine JT_aload_n (q := 0) dX12_bookLine_194 rfl rfl ?_
    refine JS_getI dX12_bookLine_195 flX12_206 BS_248 (Nat.le_of_ble_eq_true rfl) (Nat.le_of_ble_eq_true rfl) (Or.inl ct_12_18) ?_
    obtain ⟨o3, h⟩ := h
    refine JS_iast dX12_bookLine_198 BS_252 (Nat.le_of_ble_eq_true rfl) (Nat.le_of_ble_eq_true rfl) o3 ?_
    refine JT_iload_n (q := 1) dX12_bookLine_199 rfl rfl ?_
    refine JT_iconst (v := 1) dX12_bookLine_200 ic_1 ?_
    refine JT_icmp_ne (tgt := 206) dX12_bookLine_201 (by decide) (fun hc9 => ?_) (fun hc9 => ?_)
    · have h := h.1 hc9
      refine JT_aload_n (q := 0) dX12_bookLine_206 rfl rfl ?_
      refine JT_ldc2 dX12_bookLine_207 kwX12_150 ?_
      refine JS_callVI (M' := MX12_isWord) (d' := 0) (As := [.long (109342978500980 : Int64)]) (rest := []) (P := (fun zv9 wm9 => (vX12_isWord (pI s1 252 ((a2 + (1 : Int32))).toNatClampNeg (gI s1 248 18)) (109342978500980 : Int64)) = zv9 ∧ (pI s1 252 ((a2 + (1 : Int32))).toNatClampNeg (gI s1 248 18)) = wm9)) dX12_bookLine_210 cvX12_217 okX12_isWord rfl (Nat.le_of_ble_eq_true rfl) BS_248 (Nat.le_of_ble_eq_true rfl) (Nat.le_of_ble_eq_true rfl) hci_12 (Nat.le_of_ble_eq_true rfl) (Nat.le_of_ble_eq_true rfl) (pX12_isWord  ((109342978500980 : Int64))  ⟨rfl, rfl⟩) (fun zv9 wm9 hq9 => ?_)
      obtain ⟨rfl, rfl⟩ := hq9
      refine JT_if_ne (tgt := 232) dX12_bookLine_213 (by decide) (fun hc7 => ?_) (fun hc7 => ?_)
      · have h := h.1 hc7
        exact JT_sub [0, 1, 2, 3] rfl h
      · have h := h.2 hc7
        refine JT_aload_n (q := 0) dX12_bookLine_216 rfl rfl ?_
        refine JT_ldc2 dX12_bookLine_217 kwX12_152 ?_
        refine JS_callVI (M' := MX12_isWord) (d' := 0) (As := [.long (1684365940 : Int64)]) (rest := []) (P := (fun zv9 wm9 => (vX12_isWord (pI s1 252 ((a2 + (1 : Int32))).toNatClampNeg (gI s1 248 18)) (1684365940 : Int64)) = zv9 ∧ (pI s1 252 ((a2 + (1 : Int32))).toNatClampNeg (gI s1 248 18)) = wm9)) dX12_bookLine_220 cvX12_217 okX12_isWord rfl (Nat.le_of_ble_eq_true rfl) BS_248 (Nat.le_of_ble_eq_true rfl) (Nat.le_of_ble_eq_true rfl) hci_12 (Nat.le_of_ble_eq_true rfl) (Nat.le_of_ble_eq_true rfl) (pX12_isWord  ((1684365940 : Int64))  ⟨rfl, rfl⟩) (fun zv9 wm9 hq9 => ?_)
        obtain ⟨rfl, rfl⟩ := hq9
        refine JT_if_ne (tgt := 232) dX12_bookLine_223 (by decide) (fun hc5 => ?_) (fun hc5 => ?_)
        · have h := h.1 hc5
          exact JT_sub [0, 1, 2, 3] rfl h
        · have h := h.2 hc5
          refine JT_aload_n (q := 0) dX12_bookLine_226 rfl rfl ?_
          refine JT_iconst (v := 1) dX12_bookLine_227 ic_1 ?_
          refine JS_callVI (M' := MX12_bad) (d' := 0) (As := [.int (1 : Int32)]) (rest := []) (P := (fun zv9 wm9 => (vX12_bad (pI s1 252 ((a2 + (1 : Int32))).toNatClampNeg (gI s1 248 18)) (1 : Int32)) = zv9 ∧ (mX12_bad (pI s1 252 ((a2 + (1 : Int32))).toNatClampNeg (gI s1 248 18)) (1 : Int32)) = wm9)) dX12_bookLine_228 cvX12_196 okX12_bad rfl (Nat.le_of_ble_eq_true rfl) BS_248 (Nat.le_of_ble_eq_true rfl) (Nat.le_of_ble_eq_true rfl) hci_12 (Nat.le_of_ble_eq_true rfl) (Nat.le_of_ble_eq_true rfl) (pX12_bad  ((1 : Int32))  ⟨rfl, rfl⟩) (fun zv9 wm9 hq9 => ?_)
          obtain ⟨rfl, rfl⟩ := hq9
          exact JS_iret dX12_bookLine_231 rfl (n01 (zX12_bad (pI s1 252 ((a2 + (1 : Int32))).toNatClampNeg (gI s1 248 18)) (1 : Int32))) h
    · have h := h.2 hc9
      refine JT_iconst (v := 1) dX12_bookLine_204 ic_1 ?_
      exact JS_iret dX12_bookLine_205 rfl (n01 (Or.inr rfl)) h
  · have h := h.2 hc10
    refine JT_iconst (v := 0) dX12_bookLine_185 ic_0 ?_
    exact JS_iret dX12_bookLine_186 rfl (n01 (Or.inl rfl)) h
set_option maxRecDepth 20000 in
theorem bX12_bookLine_232 (a1 : Int32) (a2 : Int32) (a3 : Int32) {s : SM} {Q : Int32 → SM → Prop} (h : vp_in (a2 + (2 : Int32)) 201 ∧ (∀ s2, s2 = (pI s 252 ((a2 + (2 : Int32))).toNatClampNeg (if (vX12_isWord s (1684365940 : Int64)) = 0 then (0 : Int32) else (1 : Int32))) → KV MX12_next 1 [.ref 248] s2 (fun s3 => Q (1 : Int32) s3))) : BI MX12_bookLine 3 232 [(0, .ref 248), (1, .int a1), (2, .int a2), (3, .int a3)] s Q := by
  refine JT_aload_n (q := 0) dX12_bookLine_232 rfl rfl ?_
  refine JS_getR (x := 252) dX12_bookLine_233 flX12_40 BS_248 (Nat.le_of_ble_eq_true rfl) (Nat.le_of_ble_eq_true rfl) (Or.inr ⟨_, ct_12_8⟩) RF_248_8 ?_
  refine JT_iload_n (q := 2) dX12_bookLine_236 rfl rfl ?_
  refine JT_iconst (v := 2) dX12_bookLine_237 ic_2 ?_
  refine JT_iadd dX12_bookLine_238 ?_
  refine JT_aload_n (q := 0) dX12_bookLine_239 rfl rfl ?_
  refine JT_ldc2 dX12_bookLine_240 kwX12_152 ?_
  refine JS_callVI (M' := MX12_isWord) (d' := 0) (As := [.long (1684365940 : Int64)]) (rest := [.int (a2 + (2 : Int32)), .ref 252]) (P := (fun zv9 wm9 => (vX12_isWord s (1684365940 : Int64)) = zv9 ∧ s = wm9)) dX12_bookLine_243 cvX12_217 okX12_isWord rfl (Nat.le_of_ble_eq_true rfl) BS_248 (Nat.le_of_ble_eq_true rfl) (Nat.le_of_ble_eq_true rfl) hci_12 (Nat.le_of_ble_eq_true rfl) (Nat.le_of_ble_eq_true rfl) (pX12_isWord  ((1684365940 : Int64))  ⟨rfl, rfl⟩) (fun zv9 wm9 hq9 => ?_)
  obtain ⟨rfl, rfl⟩ := hq9
  have hj5 : ∀ v : Int32, v = (if (vX12_isWord s (1684365940 : Int64)) = 0 then (0 : Int32) else (1 : Int32)) → JT MX12_bookLine 3 0 0 254 [(0, .ref 248), (1, .int a1), (2, .int a2), (3, .int a3)] [.int v, .int (a2 + (2 : Int32)), .ref 252] (std s) (KQ Q) := by
    intro v hv
    subst hv
    obtain ⟨o1, h⟩ := h
    refine JS_iast dX12_bookLine_254 BS_252 (Nat.le_of_ble_eq_true rfl) (Nat.le_of_ble_eq_true rfl) o1 ?_
    obtain ⟨s2, hs2⟩ : ∃ z, z = (pI s 252 ((a2 + (2 : Int32))).toNatClampNeg (if (vX12_isWord s (1684365940 : Int64)) = 0 then (0 : Int32) else (1 : Int32))) := ⟨_, rfl⟩
    replace h := h s2 hs2
    rw [← hs2]
    refine JT_aload_n (q := 0) dX12_bookLine_255 rfl rfl ?_
    refine JS_callVV (M' := MX12_next) (d' := 1) (As := []) (rest := []) dX12_bookLine_256 cvX12_199 okX12_next rfl (Nat.le_of_ble_eq_true rfl) BS_248 (Nat.le_of_ble_eq_true rfl) (Nat.le_of_ble_eq_true rfl) hci_12 (Nat.le_of_ble_eq_true rfl) (Nat.le_of_ble_eq_true rfl) h (fun s3 h => ?_)
    refine JT_iconst (v := 1) dX12_bookLine_259 ic_1 ?_
    exact JS_iret dX12_bookLine_260 rfl (n01 (Or.inr rfl)) h
  refine JT_if_eq (tgt := 253) dX12_bookLine_246 (by decide) (fun hc6 => ?_) (fun hc6 => ?_)
  · refine JT_iconst (v := 0) dX12_bookLine_253 ic_0 ?_
    exact hj5 _ (by rw [if_pos hc6])
  · refine JT_iconst (v := 1) dX12_bookLine_249 ic_1 ?_
    refine JT_goto (tgt := 254) dX12_bookLine_250 (by decide) ?_
    exact hj5 _ (by rw [if_neg hc6])
set_option maxRecDepth 20000 in
theorem bX12_bookLine  {s : SM} {Q : Int32 → SM → Prop} (h : (((vX12_isWord s (1684365676 : Int64)) = 0 → (((vX12_isWord s (126943972911973 : Int64)) = 0 → (((vX12_isWord s (1935892850 : Int64)) = 0 → (((vX12_isWord s (1919512167 : Int64)) = 0 → (((vX12_isWord s (1684628851 : Int64)) = 0 → ((0 ≤ (if (vX12_isWord s (2036687218 : Int64)) = 0 then (-1 : Int32) else (5 : Int32)) → ((¬ (gI s 248 36) = (40 : Int32) → BI MX12_bookLine 3 122 [(0, .ref 248), (1, .int (if (vX12_isWord s (2036687218 : Int64)) = 0 then (-1 : Int32) else (5 : Int32))), (2, .int ((1 : Int32) + ((5 : Int32) * (gI s 248 36)))), (3, .int (0 : Int32))] s Q) ∧ ((gI s 248 36) = (40 : Int32) → Q (vX12_bad s (4 : Int32)) (mX12_bad s (4 : Int32))))) ∧ (¬ 0 ≤ (if (vX12_isWord s (2036687218 : Int64)) = 0 then (-1 : Int32) else (5 : Int32)) → Q (vX12_bad s (1 : Int32)) (mX12_bad s (1 : Int32))))) ∧ (¬ (vX12_isWord s (1684628851 : Int64)) = 0 → ((0 ≤ (4 : Int32) → ((¬ (gI s 248 36) = (40 : Int32) → BI MX12_bookLine 3 122 [(0, .ref 248), (1, .int (4 : Int32)), (2, .int ((1 : Int32) + ((5 : Int32) * (gI s 248 36)))), (3, .int (0 : Int32))] s Q) ∧ ((gI s 248 36) = (40 : Int32) → Q (vX12_bad s (4 : Int32)) (mX12_bad s (4 : Int32))))) ∧ (¬ 0 ≤ (4 : Int32) → Q (vX12_bad s (1 : Int32)) (mX12_bad s (1 : Int32))))))) ∧ (¬ (vX12_isWord s (1919512167 : Int64)) = 0 → ((0 ≤ (3 : Int32) → ((¬ (gI s 248 36) = (40 : Int32) → BI MX12_bookLine 3 122 [(0, .ref 248), (1, .int (3 : Int32)), (2, .int ((1 : Int32) + ((5 : Int32) * (gI s 248 36)))), (3, .int (0 : Int32))] s Q) ∧ ((gI s 248 36) = (40 : Int32) → Q (vX12_bad s (4 : Int32)) (mX12_bad s (4 : Int32))))) ∧ (¬ 0 ≤ (3 : Int32) → Q (vX12_bad s (1 : Int32)) (mX12_bad s (1 : Int32))))))) ∧ (¬ (vX12_isWord s (1935892850 : Int64)) = 0 → ((0 ≤ (2 : Int32) → ((¬ (gI s 248 36) = (40 : Int32) → BI MX12_bookLine 3 122 [(0, .ref 248), (1, .int (2 : Int32)), (2, .int ((1 : Int32) + ((5 : Int32) * (gI s 248 36)))), (3, .int (0 : Int32))] s Q) ∧ ((gI s 248 36) = (40 : Int32) → Q (vX12_bad s (4 : Int32)) (mX12_bad s (4 : Int32))))) ∧ (¬ 0 ≤ (2 : Int32) → Q (vX12_bad s (1 : Int32)) (mX12_bad s (1 : Int32))))))) ∧ (¬ (vX12_isWord s (126943972911973 : Int64)) = 0 → ((0 ≤ (1 : Int32) → ((¬ (gI s 248 36) = (40 : Int32) → BI MX12_bookLine 3 122 [(0, .ref 248), (1, .int (1 : Int32)), (2, .int ((1 : Int32) + ((5 : Int32) * (gI s 248 36)))), (3, .int (0 : Int32))] s Q) ∧ ((gI s 248 36) = (40 : Int32) → Q (vX12_bad s (4 : Int32)) (mX12_bad s (4 : Int32))))) ∧ (¬ 0 ≤ (1 : Int32) → Q (vX12_bad s (1 : Int32)) (mX12_bad s (1 : Int32))))))) ∧ (¬ (vX12_isWord s (1684365676 : Int64)) = 0 → ((0 ≤ (0 : Int32) → ((¬ (gI s 248 36) = (40 : Int32) → BI MX12_bookLine 3 122 [(0, .ref 248), (1, .int (0 : Int32)), (2, .int ((1 : Int32) + ((5 : Int32) * (gI s 248 36)))), (3, .int (0 : Int32))] s Q) ∧ ((gI s 248 36) = (40 : Int32) → Q (vX12_bad s (4 : Int32)) (mX12_bad s (4 : Int32))))) ∧ (¬ 0 ≤ (0 : Int32) → Q (vX12_bad s (1 : Int32)) (mX12_bad s (1 : Int32))))))) : KI MX12_bookLine 3 [.ref 248] s Q := by
  show BI MX12_bookLine 3 0 [(0, .ref 248)] s Q
  refine JT_aload_n (q := 0) dX12_bookLine_0 rfl rfl ?_
  refine JT_ldc2 dX12_bookLine_1 kwX12_144 ?_
  refine JS_callVI (M' := MX12_isWord) (d' := 0) (As := [.long (1684365676 : Int64)]) (rest := []) (P := (fun zv9 wm9 => (vX12_isWord s (1684365676 : Int64)) = zv9 ∧ s = wm9)) dX12_bookLine_4 cvX12_217 okX12_isWord rfl (Nat.le_of_ble_eq_true rfl) BS_248 (Nat.le_of_ble_eq_true rfl) (Nat.le_of_ble_eq_true rfl) hci_12 (Nat.le_of_ble_eq_true rfl) (Nat.le_of_ble_eq_true rfl) (pX12_isWord  ((1684365676 : Int64))  ⟨rfl, rfl⟩) (fun zv9 wm9 hq9 => ?_)
  obtain ⟨rfl, rfl⟩ := hq9
  refine JT_if_eq (tgt := 14) dX12_bookLine_7 (by decide) (fun hc36 => ?_) (fun hc36 => ?_)
  · have h := h.1 hc36
    refine JT_aload_n (q := 0) dX12_bookLine_14 rfl rfl ?_
    refine JT_ldc2 dX12_bookLine_15 kwX12_146 ?_
    refine JS_callVI (M' := MX12_isWord) (d' := 0) (As := [.long (126943972911973 : Int64)]) (rest := []) (P := (fun zv9 wm9 => (vX12_isWord s (126943972911973 : Int64)) = zv9 ∧ s = wm9)) dX12_bookLine_18 cvX12_217 okX12_isWord rfl (Nat.le_of_ble_eq_true rfl) BS_248 (Nat.le_of_ble_eq_true rfl) (Nat.le_of_ble_eq_true rfl) hci_12 (Nat.le_of_ble_eq_true rfl) (Nat.le_of_ble_eq_true rfl) (pX12_isWord  ((126943972911973 : Int64))  ⟨rfl, rfl⟩) (fun zv9 wm9 hq9 => ?_)
    obtain ⟨rfl, rfl⟩ := hq9
    refine JT_if_eq (tgt := 28) dX12_bookLine_21 (by decide) (fun hc30 => ?_) (fun hc30 => ?_)
    · have h := h.1 hc30
      refine JT_aload_n (q := 0) dX12_bookLine_28 rfl rfl ?_
      refine JT_ldc2 dX12_bookLine_29 kwX12_148 ?_
      refine JS_callVI (M' := MX12_isWord) (d' := 0) (As := [.long (1935892850 : Int64)]) (rest := []) (P := (fun zv9 wm9 => (vX12_isWord s (1935892850 : Int64)) = zv9 ∧ s = wm9)) dX12_bookLine_32 cvX12_217 okX12_isWord rfl (Nat.le_of_ble_eq_true rfl) BS_248 (Nat.le_of_ble_eq_true rfl) (Nat.le_of_ble_eq_true rfl) hci_12 (Nat.le_of_ble_eq_true rfl) (Nat.le_of_ble_eq_true rfl) (pX12_isWord  ((1935892850 : Int64))  ⟨rfl, rfl⟩) (fun zv9 wm9 hq9 => ?_)
      obtain ⟨rfl, rfl⟩ := hq9
      refine JT_if_eq (tgt := 42) dX12_bookLine_35 (by decide) (fun hc24 => ?_) (fun hc24 => ?_)
      · have h := h.1 hc24
        refine JT_aload_n (q := 0) dX12_bookLine_42 rfl rfl ?_
        refine JT_ldc2 dX12_bookLine_43 kwX12_154 ?_
        refine JS_callVI (M' := MX12_isWord) (d' := 0) (As := [.long (1919512167 : Int64)]) (rest := []) (P := (fun zv9 wm9 => (vX12_isWord s (1919512167 : Int64)) = zv9 ∧ s = wm9)) dX12_bookLine_46 cvX12_217 okX12_isWord rfl (Nat.le_of_ble_eq_true rfl) BS_248 (Nat.le_of_ble_eq_true rfl) (Nat.le_of_ble_eq_true rfl) hci_12 (Nat.le_of_ble_eq_true rfl) (Nat.le_of_ble_eq_true rfl) (pX12_isWord  ((1919512167 : Int64))  ⟨rfl, rfl⟩) (fun zv9 wm9 hq9 => ?_)
        obtain ⟨rfl, rfl⟩ := hq9
        refine JT_if_eq (tgt := 56) dX12_bookLine_49 (by decide) (fun hc18 => ?_) (fun hc18 => ?_)
        · have h := h.1 hc18
          refine JT_aload_n (q := 0) dX12_bookLine_56 rfl rfl ?_
          refine JT_ldc2 dX12_bookLine_57 kwX12_156 ?_
          refine JS_callVI (M' := MX12_isWord) (d' := 0) (As := [.long (1684628851 : Int64)]) (rest := []) (P := (fun zv9 wm9 => (vX12_isWord s (1684628851 : Int64)) = zv9 ∧ s = wm9)) dX12_bookLine_60 cvX12_217 okX12_isWord rfl (Nat.le_of_ble_eq_true rfl) BS_248 (Nat.le_of_ble_eq_true rfl) (Nat.le_of_ble_eq_true rfl) hci_12 (Nat.le_of_ble_eq_true rfl) (Nat.le_of_ble_eq_true rfl) (pX12_isWord  ((1684628851 : Int64))  ⟨rfl, rfl⟩) (fun zv9 wm9 hq9 => ?_)
          obtain ⟨rfl, rfl⟩ := hq9
          refine JT_if_eq (tgt := 70) dX12_bookLine_63 (by decide) (fun hc12 => ?_) (fun hc12 => ?_)
          · have h := h.1 hc12
            refine JT_aload_n (q := 0) dX12_bookLine_70 rfl rfl ?_
            refine JT_ldc2 dX12_bookLine_71 kwX12_158 ?_
            refine JS_callVI (M' := MX12_isWord) (d' := 0) (As := [.long (2036687218 : Int64)]) (rest := []) (P := (fun zv9 wm9 => (vX12_isWord s (2036687218 : Int64)) = zv9 ∧ s = wm9)) dX12_bookLine_74 cvX12_217 okX12_isWord rfl (Nat.le_of_ble_eq_true rfl) BS_248 (Nat.le_of_ble_eq_true rfl) (Nat.le_of_ble_eq_true rfl) hci_12 (Nat.le_of_ble_eq_true rfl) (Nat.le_of_ble_eq_true rfl) (pX12_isWord  ((2036687218 : Int64))  ⟨rfl, rfl⟩) (fun zv9 wm9 hq9 => ?_)
            obtain ⟨rfl, rfl⟩ := hq9
            have hj5 : ∀ v : Int32, v = (if (vX12_isWord s (2036687218 : Int64)) = 0 then (-1 : Int32) else (5 : Int32)) → JT MX12_bookLine 3 0 0 85 [(0, .ref 248)] [.int v] (std s) (KQ Q) := by
              intro v hv
              subst hv
              refine JT_istore_n (lv' := [(1, .int (if (vX12_isWord s (2036687218 : Int64)) = 0 then (-1 : Int32) else (5 : Int32))), (0, .ref 248)]) dX12_bookLine_85 rfl (Nat.le_of_ble_eq_true rfl) rfl ?_
              refine JT_iload_n (q := 0) dX12_bookLine_86 rfl rfl ?_
              refine JT_if_ge (tgt := 96) dX12_bookLine_87 (by decide) (fun hc4 => ?_) (fun hc4 => ?_)
              · have h := h.1 hc4
                refine JT_aload_n (q := 1) dX12_bookLine_96 rfl rfl ?_
                refine JS_getI dX12_bookLine_97 flX12_401 BS_248 (Nat.le_of_ble_eq_true rfl) (Nat.le_of_ble_eq_true rfl) (Or.inl ct_12_36) ?_
                refine JT_bipush (v := 40) dX12_bookLine_100 bp_40 ?_
                refine JT_icmp_ne (tgt := 111) dX12_bookLine_102 (by decide) (fun hc2 => ?_) (fun hc2 => ?_)
                · have h := h.1 hc2
                  refine JT_iconst (v := 1) dX12_bookLine_111 ic_1 ?_
                  refine JT_iconst (v := 5) dX12_bookLine_112 ic_5 ?_
                  refine JT_aload_n (q := 1) dX12_bookLine_113 rfl rfl ?_
                  refine JS_getI dX12_bookLine_114 flX12_401 BS_248 (Nat.le_of_ble_eq_true rfl) (Nat.le_of_ble_eq_true rfl) (Or.inl ct_12_36) ?_
                  refine JT_imul dX12_bookLine_117 ?_
                  refine JT_iadd dX12_bookLine_118 ?_
                  refine JT_istore_n (lv' := [(2, .int ((1 : Int32) + ((5 : Int32) * (gI s 248 36)))), (1, .int (if (vX12_isWord s (2036687218 : Int64)) = 0 then (-1 : Int32) else (5 : Int32))), (0, .ref 248)]) dX12_bookLine_119 rfl (Nat.le_of_ble_eq_true rfl) rfl ?_
                  refine JT_iconst (v := 0) dX12_bookLine_120 ic_0 ?_
                  refine JT_istore_n (lv' := [(3, .int (0 : Int32)), (2, .int ((1 : Int32) + ((5 : Int32) * (gI s 248 36)))), (1, .int (if (vX12_isWord s (2036687218 : Int64)) = 0 then (-1 : Int32) else (5 : Int32))), (0, .ref 248)]) dX12_bookLine_121 rfl (Nat.le_of_ble_eq_true rfl) rfl ?_
                  exact JT_sub [3, 2, 1, 0] rfl h
                · have h := h.2 hc2
                  refine JT_aload_n (q := 1) dX12_bookLine_105 rfl rfl ?_
                  refine JT_iconst (v := 4) dX12_bookLine_106 ic_4 ?_
                  refine JS_callVI (M' := MX12_bad) (d' := 0) (As := [.int (4 : Int32)]) (rest := []) (P := (fun zv9 wm9 => (vX12_bad s (4 : Int32)) = zv9 ∧ (mX12_bad s (4 : Int32)) = wm9)) dX12_bookLine_107 cvX12_196 okX12_bad rfl (Nat.le_of_ble_eq_true rfl) BS_248 (Nat.le_of_ble_eq_true rfl) (Nat.le_of_ble_eq_true rfl) hci_12 (Nat.le_of_ble_eq_true rfl) (Nat.le_of_ble_eq_true rfl) (pX12_bad  ((4 : Int32))  ⟨rfl, rfl⟩) (fun zv9 wm9 hq9 => ?_)
                  obtain ⟨rfl, rfl⟩ := hq9
                  exact JS_iret dX12_bookLine_110 rfl (n01 (zX12_bad s (4 : Int32))) h
              · have h := h.2 hc4
                refine JT_aload_n (q := 1) dX12_bookLine_90 rfl rfl ?_
                refine JT_iconst (v := 1) dX12_bookLine_91 ic_1 ?_
                refine JS_callVI (M' := MX12_bad) (d' := 0) (As := [.int (1 : Int32)]) (rest := []) (P := (fun zv9 wm9 => (vX12_bad s (1 : Int32)) = zv9 ∧ (mX12_bad s (1 : Int32)) = wm9)) dX12_bookLine_92 cvX12_196 okX12_bad rfl (Nat.le_of_ble_eq_true rfl) BS_248 (Nat.le_of_ble_eq_true rfl) (Nat.le_of_ble_eq_true rfl) hci_12 (Nat.le_of_ble_eq_true rfl) (Nat.le_of_ble_eq_true rfl) (pX12_bad  ((1 : Int32))  ⟨rfl, rfl⟩) (fun zv9 wm9 hq9 => ?_)
                obtain ⟨rfl, rfl⟩ := hq9
                exact JS_iret dX12_bookLine_95 rfl (n01 (zX12_bad s (1 : Int32))) h
            refine JT_if_eq (tgt := 84) dX12_bookLine_77 (by decide) (fun hc6 => ?_) (fun hc6 => ?_)
            · refine JT_iconst (v := -1) dX12_bookLine_84 ic_m1 ?_
              exact hj5 _ (by rw [if_pos hc6])
            · refine JT_iconst (v := 5) dX12_bookLine_80 ic_5 ?_
              refine JT_goto (tgt := 85) dX12_bookLine_81 (by decide) ?_
              exact hj5 _ (by rw [if_neg hc6])
          · have h := h.2 hc12
            refine JT_iconst (v := 4) dX12_bookLine_66 ic_4 ?_
            refine JT_goto (tgt := 85) dX12_bookLine_67 (by decide) ?_
            refine JT_istore_n (lv' := [(1, .int (4 : Int32)), (0, .ref 248)]) dX12_bookLine_85 rfl (Nat.le_of_ble_eq_true rfl) rfl ?_
            refine JT_iload_n (q := 0) dX12_bookLine_86 rfl rfl ?_
            refine JT_if_ge (tgt := 96) dX12_bookLine_87 (by decide) (fun hc11 => ?_) (fun hc11 => ?_)
            · have h := h.1 hc11
              refine JT_aload_n (q := 1) dX12_bookLine_96 rfl rfl ?_
              refine JS_getI dX12_bookLine_97 flX12_401 BS_248 (Nat.le_of_ble_eq_true rfl) (Nat.le_of_ble_eq_true rfl) (Or.inl ct_12_36) ?_
              refine JT_bipush (v := 40) dX12_bookLine_100 bp_40 ?_
              refine JT_icmp_ne (tgt := 111) dX12_bookLine_102 (by decide) (fun hc9 => ?_) (fun hc9 => ?_)
              · have h := h.1 hc9
                refine JT_iconst (v := 1) dX12_bookLine_111 ic_1 ?_
                refine JT_iconst (v := 5) dX12_bookLine_112 ic_5 ?_
                refine JT_aload_n (q := 1) dX12_bookLine_113 rfl rfl ?_
                refine JS_getI dX12_bookLine_114 flX12_401 BS_248 (Nat.le_of_ble_eq_true rfl) (Nat.le_of_ble_eq_true rfl) (Or.inl ct_12_36) ?_
                refine JT_imul dX12_bookLine_117 ?_
                refine JT_iadd dX12_bookLine_118 ?_
                refine JT_istore_n (lv' := [(2, .int ((1 : Int32) + ((5 : Int32) * (gI s 248 36)))), (1, .int (4 : Int32)), (0, .ref 248)]) dX12_bookLine_119 rfl (Nat.le_of_ble_eq_true rfl) rfl ?_
                refine JT_iconst (v := 0) dX12_bookLine_120 ic_0 ?_
                refine JT_istore_n (lv' := [(3, .int (0 : Int32)), (2, .int ((1 : Int32) + ((5 : Int32) * (gI s 248 36)))), (1, .int (4 : Int32)), (0, .ref 248)]) dX12_bookLine_121 rfl (Nat.le_of_ble_eq_true rfl) rfl ?_
                exact JT_sub [3, 2, 1, 0] rfl h
              · have h := h.2 hc9
                refine JT_aload_n (q := 1) dX12_bookLine_105 rfl rfl ?_
                refine JT_iconst (v := 4) dX12_bookLine_106 ic_4 ?_
                refine JS_callVI (M' := MX12_bad) (d' := 0) (As := [.int (4 : Int32)]) (rest := []) (P := (fun zv9 wm9 => (vX12_bad s (4 : Int32)) = zv9 ∧ (mX12_bad s (4 : Int32)) = wm9)) dX12_bookLine_107 cvX12_196 okX12_bad rfl (Nat.le_of_ble_eq_true rfl) BS_248 (Nat.le_of_ble_eq_true rfl) (Nat.le_of_ble_eq_true rfl) hci_12 (Nat.le_of_ble_eq_true rfl) (Nat.le_of_ble_eq_true rfl) (pX12_bad  ((4 : Int32))  ⟨rfl, rfl⟩) (fun zv9 wm9 hq9 => ?_)
                obtain ⟨rfl, rfl⟩ := hq9
                exact JS_iret dX12_bookLine_110 rfl (n01 (zX12_bad s (4 : Int32))) h
            · have h := h.2 hc11
              refine JT_aload_n (q := 1) dX12_bookLine_90 rfl rfl ?_
              refine JT_iconst (v := 1) dX12_bookLine_91 ic_1 ?_
              refine JS_callVI (M' := MX12_bad) (d' := 0) (As := [.int (1 : Int32)]) (rest := []) (P := (fun zv9 wm9 => (vX12_bad s (1 : Int32)) = zv9 ∧ (mX12_bad s (1 : Int32)) = wm9)) dX12_bookLine_92 cvX12_196 okX12_bad rfl (Nat.le_of_ble_eq_true rfl) BS_248 (Nat.le_of_ble_eq_true rfl) (Nat.le_of_ble_eq_true rfl) hci_12 (Nat.le_of_ble_eq_true rfl) (Nat.le_of_ble_eq_true rfl) (pX12_bad  ((1 : Int32))  ⟨rfl, rfl⟩) (fun zv9 wm9 hq9 => ?_)
              obtain ⟨rfl, rfl⟩ := hq9
              exact JS_iret dX12_bookLine_95 rfl (n01 (zX12_bad s (1 : Int32))) h
        · have h := h.2 hc18
          refine JT_iconst (v := 3) dX12_bookLine_52 ic_3 ?_
          refine JT_goto (tgt := 85) dX12_bookLine_53 (by decide) ?_
          refine JT_istore_n (lv' := [(1, .int (3 : Int32)), (0, .ref 248)]) dX12_bookLine_85 rfl (Nat.le_of_ble_eq_true rfl) rfl ?_
          refine JT_iload_n (q := 0) dX12_bookLine_86 rfl rfl ?_
          refine JT_if_ge (tgt := 96) dX12_bookLine_87 (by decide) (fun hc17 => ?_) (fun hc17 => ?_)
          · have h := h.1 hc17
            refine JT_aload_n (q := 1) dX12_bookLine_96 rfl rfl ?_
            refine JS_getI dX12_bookLine_97 flX12_401 BS_248 (Nat.le_of_ble_eq_true rfl) (Nat.le_of_ble_eq_true rfl) (Or.inl ct_12_36) ?_
            refine JT_bipush (v := 40) dX12_bookLine_100 bp_40 ?_
            refine JT_icmp_ne (tgt := 111) dX12_bookLine_102 (by decide) (fun hc15 => ?_) (fun hc15 => ?_)
            · have h := h.1 hc15
              refine JT_iconst (v := 1) dX12_bookLine_111 ic_1 ?_
              refine JT_iconst (v := 5) dX12_bookLine_112 ic_5 ?_
              refine JT_aload_n (q := 1) dX12_bookLine_113 rfl rfl ?_
              refine JS_getI dX12_bookLine_114 flX12_401 BS_248 (Nat.le_of_ble_eq_true rfl) (Nat.le_of_ble_eq_true rfl) (Or.inl ct_12_36) ?_
              refine JT_imul dX12_bookLine_117 ?_
              refine JT_iadd dX12_bookLine_118 ?_
              refine JT_istore_n (lv' := [(2, .int ((1 : Int32) + ((5 : Int32) * (gI s 248 36)))), (1, .int (3 : Int32)), (0, .ref 248)]) dX12_bookLine_119 rfl (Nat.le_of_ble_eq_true rfl) rfl ?_
              refine JT_iconst (v := 0) dX12_bookLine_120 ic_0 ?_
              refine JT_istore_n (lv' := [(3, .int (0 : Int32)), (2, .int ((1 : Int32) + ((5 : Int32) * (gI s 248 36)))), (1, .int (3 : Int32)), (0, .ref 248)]) dX12_bookLine_121 rfl (Nat.le_of_ble_eq_true rfl) rfl ?_
              exact JT_sub [3, 2, 1, 0] rfl h
            · have h := h.2 hc15
              refine JT_aload_n (q := 1) dX12_bookLine_105 rfl rfl ?_
              refine JT_iconst (v := 4) dX12_bookLine_106 ic_4 ?_
              refine JS_callVI (M' := MX12_bad) (d' := 0) (As := [.int (4 : Int32)]) (rest := []) (P := (fun zv9 wm9 => (vX12_bad s (4 : Int32)) = zv9 ∧ (mX12_bad s (4 : Int32)) = wm9)) dX12_bookLine_107 cvX12_196 okX12_bad rfl (Nat.le_of_ble_eq_true rfl) BS_248 (Nat.le_of_ble_eq_true rfl) (Nat.le_of_ble_eq_true rfl) hci_12 (Nat.le_of_ble_eq_true rfl) (Nat.le_of_ble_eq_true rfl) (pX12_bad  ((4 : Int32))  ⟨rfl, rfl⟩) (fun zv9 wm9 hq9 => ?_)
              obtain ⟨rfl, rfl⟩ := hq9
              exact JS_iret dX12_bookLine_110 rfl (n01 (zX12_bad s (4 : Int32))) h
          · have h := h.2 hc17
            refine JT_aload_n (q := 1) dX12_bookLine_90 rfl rfl ?_
            refine JT_iconst (v := 1) dX12_bookLine_91 ic_1 ?_
            refine JS_callVI (M' := MX12_bad) (d' := 0) (As := [.int (1 : Int32)]) (rest := []) (P := (fun zv9 wm9 => (vX12_bad s (1 : Int32)) = zv9 ∧ (mX12_bad s (1 : Int32)) = wm9)) dX12_bookLine_92 cvX12_196 okX12_bad rfl (Nat.le_of_ble_eq_true rfl) BS_248 (Nat.le_of_ble_eq_true rfl) (Nat.le_of_ble_eq_true rfl) hci_12 (Nat.le_of_ble_eq_true rfl) (Nat.le_of_ble_eq_true rfl) (pX12_bad  ((1 : Int32))  ⟨rfl, rfl⟩) (fun zv9 wm9 hq9 => ?_)
            obtain ⟨rfl, rfl⟩ := hq9
            exact JS_iret dX12_bookLine_95 rfl (n01 (zX12_bad s (1 : Int32))) h
      · have h := h.2 hc24
        refine JT_iconst (v := 2) dX12_bookLine_38 ic_2 ?_
        refine JT_goto (tgt := 85) dX12_bookLine_39 (by decide) ?_
        refine JT_istore_n (lv' := [(1, .int (2 : Int32)), (0, .ref 248)]) dX12_bookLine_85 rfl (Nat.le_of_ble_eq_true rfl) rfl ?_
        refine JT_iload_n (q := 0) dX12_bookLine_86 rfl rfl ?_
        refine JT_if_ge (tgt := 96) dX12_bookLine_87 (by decide) (fun hc23 => ?_) (fun hc23 => ?_)
        · have h := h.1 hc23
          refine JT_aload_n (q := 1) dX12_bookLine_96 rfl rfl ?_
          refine JS_getI dX12_bookLine_97 flX12_401 BS_248 (Nat.le_of_ble_eq_true rfl) (Nat.le_of_ble_eq_true rfl) (Or.inl ct_12_36) ?_
          refine JT_bipush (v := 40) dX12_bookLine_100 bp_40 ?_
          refine JT_icmp_ne (tgt := 111) dX12_bookLine_102 (by decide) (fun hc21 => ?_) (fun hc21 => ?_)
          · have h := h.1 hc21
            refine JT_iconst (v := 1) dX12_bookLine_111 ic_1 ?_
            refine JT_iconst (v := 5) dX12_bookLine_112 ic_5 ?_
            refine JT_aload_n (q := 1) dX12_bookLine_113 rfl rfl ?_
            refine JS_getI dX12_bookLine_114 flX12_401 BS_248 (Nat.le_of_ble_eq_true rfl) (Nat.le_of_ble_eq_true rfl) (Or.inl ct_12_36) ?_
            refine JT_imul dX12_bookLine_117 ?_
            refine JT_iadd dX12_bookLine_118 ?_
            refine JT_istore_n (lv' := [(2, .int ((1 : Int32) + ((5 : Int32) * (gI s 248 36)))), (1, .int (2 : Int32)), (0, .ref 248)]) dX12_bookLine_119 rfl (Nat.le_of_ble_eq_true rfl) rfl ?_
            refine JT_iconst (v := 0) dX12_bookLine_120 ic_0 ?_
            refine JT_istore_n (lv' := [(3, .int (0 : Int32)), (2, .int ((1 : Int32) + ((5 : Int32) * (gI s 248 36)))), (1, .int (2 : Int32)), (0, .ref 248)]) dX12_bookLine_121 rfl (Nat.le_of_ble_eq_true rfl) rfl ?_
            exact JT_sub [3, 2, 1, 0] rfl h
          · have h := h.2 hc21
            refine JT_aload_n (q := 1) dX12_bookLine_105 rfl rfl ?_
            refine JT_iconst (v := 4) dX12_bookLine_106 ic_4 ?_
            refine JS_callVI (M' := MX12_bad) (d' := 0) (As := [.int (4 : Int32)]) (rest := []) (P := (fun zv9 wm9 => (vX12_bad s (4 : Int32)) = zv9 ∧ (mX12_bad s (4 : Int32)) = wm9)) dX12_bookLine_107 cvX12_196 okX12_bad rfl (Nat.le_of_ble_eq_true rfl) BS_248 (Nat.le_of_ble_eq_true rfl) (Nat.le_of_ble_eq_true rfl) hci_12 (Nat.le_of_ble_eq_true rfl) (Nat.le_of_ble_eq_true rfl) (pX12_bad  ((4 : Int32))  ⟨rfl, rfl⟩) (fun zv9 wm9 hq9 => ?_)
            obtain ⟨rfl, rfl⟩ := hq9
            exact JS_iret dX12_bookLine_110 rfl (n01 (zX12_bad s (4 : Int32))) h
        · have h := h.2 hc23
          refine JT_aload_n (q := 1) dX12_bookLine_90 rfl rfl ?_
          refine JT_iconst (v := 1) dX12_bookLine_91 ic_1 ?_
          refine JS_callVI (M' := MX12_bad) (d' := 0) (As := [.int (1 : Int32)]) (rest := []) (P := (fun zv9 wm9 => (vX12_bad s (1 : Int32)) = zv9 ∧ (mX12_bad s (1 : Int32)) = wm9)) dX12_bookLine_92 cvX12_196 okX12_bad rfl (Nat.le_of_ble_eq_true rfl) BS_248 (Nat.le_of_ble_eq_true rfl) (Nat.le_of_ble_eq_true rfl) hci_12 (Nat.le_of_ble_eq_true rfl) (Nat.le_of_ble_eq_true rfl) (pX12_bad  ((1 : Int32))  ⟨rfl, rfl⟩) (fun zv9 wm9 hq9 => ?_)
          obtain ⟨rfl, rfl⟩ := hq9
          exact JS_iret dX12_bookLine_95 rfl (n01 (zX12_bad s (1 : Int32))) h
    · have h := h.2 hc30
      refine JT_iconst (v := 1) dX12_bookLine_24 ic_1 ?_
      refine JT_goto (tgt := 85) dX12_bookLine_25 (by decide) ?_
      refine JT_istore_n (lv' := [(1, .int (1 : Int32)), (0, .ref 248)]) dX12_bookLine_85 rfl (Nat.le_of_ble_eq_true rfl) rfl ?_
      refine JT_iload_n (q := 0) dX12_bookLine_86 rfl rfl ?_
      refine JT_if_ge (tgt := 96) dX12_bookLine_87 (by decide) (fun hc29 => ?_) (fun hc29 => ?_)
      · have h := h.1 hc29
        refine JT_aload_n (q := 1) dX12_bookLine_96 rfl rfl ?_
        refine JS_getI dX12_bookLine_97 flX12_401 BS_248 (Nat.le_of_ble_eq_true rfl) (Nat.le_of_ble_eq_true rfl) (Or.inl ct_12_36) ?_
        refine JT_bipush (v := 40) dX12_bookLine_100 bp_40 ?_
        refine JT_icmp_ne (tgt := 111) dX12_bookLine_102 (by decide) (fun hc27 => ?_) (fun hc27 => ?_)
        · have h := h.1 hc27
          refine JT_iconst (v := 1) dX12_bookLine_111 ic_1 ?_
          refine JT_iconst (v := 5) dX12_bookLine_112 ic_5 ?_
          refine JT_aload_n (q := 1) dX12_bookLine_113 rfl rfl ?_
          refine JS_getI dX12_bookLine_114 flX12_401 BS_248 (Nat.le_of_ble_eq_true rfl) (Nat.le_of_ble_eq_true rfl) (Or.inl ct_12_36) ?_
          refine JT_imul dX12_bookLine_117 ?_
          refine JT_iadd dX12_bookLine_118 ?_
          refine JT_istore_n (lv' := [(2, .int ((1 : Int32) + ((5 : Int32) * (gI s 248 36)))), (1, .int (1 : Int32)), (0, .ref 248)]) dX12_bookLine_119 rfl (Nat.le_of_ble_eq_true rfl) rfl ?_
          refine JT_iconst (v := 0) dX12_bookLine_120 ic_0 ?_
          refine JT_istore_n (lv' := [(3, .int (0 : Int32)), (2, .int ((1 : Int32) + ((5 : Int32) * (gI s 248 36)))), (1, .int (1 : Int32)), (0, .ref 248)]) dX12_bookLine_121 rfl (Nat.le_of_ble_eq_true rfl) rfl ?_
          exact JT_sub [3, 2, 1, 0] rfl h
        · have h := h.2 hc27
          refine JT_aload_n (q := 1) dX12_bookLine_105 rfl rfl ?_
          refine JT_iconst (v := 4) dX12_bookLine_106 ic_4 ?_
          refine JS_callVI (M' := MX12_bad) (d' := 0) (As := [.int (4 : Int32)]) (rest := []) (P := (fun zv9 wm9 => (vX12_bad s (4 : Int32)) = zv9 ∧ (mX12_bad s (4 : Int32)) = wm9)) dX12_bookLine_107 cvX12_196 okX12_bad rfl (Nat.le_of_ble_eq_true rfl) BS_248 (Nat.le_of_ble_eq_true rfl) (Nat.le_of_ble_eq_true rfl) hci_12 (Nat.le_of_ble_eq_true rfl) (Nat.le_of_ble_eq_true rfl) (pX12_bad  ((4 : Int32))  ⟨rfl, rfl⟩) (fun zv9 wm9 hq9 => ?_)
          obtain ⟨rfl, rfl⟩ := hq9
          exact JS_iret dX12_bookLine_110 rfl (n01 (zX12_bad s (4 : Int32))) h
      · have h := h.2 hc29
        refine JT_aload_n (q := 1) dX12_bookLine_90 rfl rfl ?_
        refine JT_iconst (v := 1) dX12_bookLine_91 ic_1 ?_
        refine JS_callVI (M' := MX12_bad) (d' := 0) (As := [.int (1 : Int32)]) (rest := []) (P := (fun zv9 wm9 => (vX12_bad s (1 : Int32)) = zv9 ∧ (mX12_bad s (1 : Int32)) = wm9)) dX12_bookLine_92 cvX12_196 okX12_bad rfl (Nat.le_of_ble_eq_true rfl) BS_248 (Nat.le_of_ble_eq_true rfl) (Nat.le_of_ble_eq_true rfl) hci_12 (Nat.le_of_ble_eq_true rfl) (Nat.le_of_ble_eq_true rfl) (pX12_bad  ((1 : Int32))  ⟨rfl, rfl⟩) (fun zv9 wm9 hq9 => ?_)
        obtain ⟨rfl, rfl⟩ := hq9
        exact JS_iret dX12_bookLine_95 rfl (n01 (zX12_bad s (1 : Int32))) h
  · have h := h.2 hc36
    refine JT_iconst (v := 0) dX12_bookLine_10 ic_0 ?_
    refine JT_goto (tgt := 85) dX12_bookLine_11 (by decide) ?_
    refine JT_istore_n (lv' := [(1, .int (0 : Int32)), (0, .ref 248)]) dX12_bookLine_85 rfl (Nat.le_of_ble_eq_true rfl) rfl ?_
    refine JT_iload_n (q := 0) dX12_bookLine_86 rfl rfl ?_
    refine JT_if_ge (tgt := 96) dX12_bookLine_87 (by decide) (fun hc35 => ?_) (fun hc35 => ?_)
    · have h := h.1 hc35
      refine JT_aload_n (q := 1) dX12_bookLine_96 rfl rfl ?_
      refine JS_getI dX12_bookLine_97 flX12_401 BS_248 (Nat.le_of_ble_eq_true rfl) (Nat.le_of_ble_eq_true rfl) (Or.inl ct_12_36) ?_
      refine JT_bipush (v := 40) dX12_bookLine_100 bp_40 ?_
      refine JT_icmp_ne (tgt := 111) dX12_bookLine_102 (by decide) (fun hc33 => ?_) (fun hc33 => ?_)
      · have h := h.1 hc33
        refine JT_iconst (v := 1) dX12_bookLine_111 ic_1 ?_
        refine JT_iconst (v := 5) dX12_bookLine_112 ic_5 ?_
        refine JT_aload_n (q := 1) dX12_bookLine_113 rfl rfl ?_
        refine JS_getI dX12_bookLine_114 flX12_401 BS_248 (Nat.le_of_ble_eq_true rfl) (Nat.le_of_ble_eq_true rfl) (Or.inl ct_12_36) ?_
        refine JT_imul dX12_bookLine_117 ?_
        refine JT_iadd dX12_bookLine_118 ?_
        refine JT_istore_n (lv' := [(2, .int ((1 : Int32) + ((5 : Int32) * (gI s 248 36)))), (1, .int (0 : Int32)), (0, .ref 248)]) dX12_bookLine_119 rfl (Nat.le_of_ble_eq_true rfl) rfl ?_
        refine JT_iconst (v := 0) dX12_bookLine_120 ic_0 ?_
        refine JT_istore_n (lv' := [(3, .int (0 : Int32)), (2, .int ((1 : Int32) + ((5 : Int32) * (gI s 248 36)))), (1, .int (0 : Int32)), (0, .ref 248)]) dX12_bookLine_121 rfl (Nat.le_of_ble_eq_true rfl) rfl ?_
        exact JT_sub [3, 2, 1, 0] rfl h
      · have h := h.2 hc33
        refine JT_aload_n (q := 1) dX12_bookLine_105 rfl rfl ?_
        refine JT_iconst (v := 4) dX12_bookLine_106 ic_4 ?_
        refine JS_callVI (M' := MX12_bad) (d' := 0) (As := [.int (4 : Int32)]) (rest := []) (P := (fun zv9 wm9 => (vX12_bad s (4 : Int32)) = zv9 ∧ (mX12_bad s (4 : Int32)) = wm9)) dX12_bookLine_107 cvX12_196 okX12_bad rfl (Nat.le_of_ble_eq_true rfl) BS_248 (Nat.le_of_ble_eq_true rfl) (Nat.le_of_ble_eq_true rfl) hci_12 (Nat.le_of_ble_eq_true rfl) (Nat.le_of_ble_eq_true rfl) (pX12_bad  ((4 : Int32))  ⟨rfl, rfl⟩) (fun zv9 wm9 hq9 => ?_)
        obtain ⟨rfl, rfl⟩ := hq9
        exact JS_iret dX12_bookLine_110 rfl (n01 (zX12_bad s (4 : Int32))) h
    · have h := h.2 hc35
      refine JT_aload_n (q := 1) dX12_bookLine_90 rfl rfl ?_
      refine JT_iconst (v := 1) dX12_bookLine_91 ic_1 ?_
      refine JS_callVI (M' := MX12_bad) (d' := 0) (As := [.int (1 : Int32)]) (rest := []) (P := (fun zv9 wm9 => (vX12_bad s (1 : Int32)) = zv9 ∧ (mX12_bad s (1 : Int32)) = wm9)) dX12_bookLine_92 cvX12_196 okX12_bad rfl (Nat.le_of_ble_eq_true rfl) BS_248 (Nat.le_of_ble_eq_true rfl) (Nat.le_of_ble_eq_true rfl) hci_12 (Nat.le_of_ble_eq_true rfl) (Nat.le_of_ble_eq_true rfl) (pX12_bad  ((1 : Int32))  ⟨rfl, rfl⟩) (fun zv9 wm9 hq9 => ?_)
      obtain ⟨rfl, rfl⟩ := hq9
      exact JS_iret dX12_bookLine_95 rfl (n01 (zX12_bad s (1 : Int32))) h
set_option maxRecDepth 20000 in
theorem bX12_buries_18 (a1 : Int32) (a2 : Int32) (a3 : Int32) (a4 : Int32) {s : SM} {Q : Int32 → SM → Prop} (h : (((gI s 250 ((34 : Int32)).toNatClampNeg) ≤ a4 → Q a3 s) ∧ (¬ (gI s 250 ((34 : Int32)).toNatClampNeg) ≤ a4 → rX12_isOpen s a4 ∧ (((vX12_isOpen s a4) = 0 → BI MX12_buries 3 18 [(0, .ref 248), (1, .int a1), (2, .int a2), (3, .int a3), (4, .int (a4 + 1))] s Q) ∧ (¬ (vX12_isOpen s a4) = 0 → rX12_of s a4 (0 : Int32) ∧ (((vX12_of s a4 (0 : Int32)) = a1 → BI MX12_buries 3 64 [(0, .ref 248), (1, .int a1), (2, .int a2), (3, .int a3), (4, .int a4)] s Q) ∧ (¬ (vX12_of s a4 (0 : Int32)) = a1 → rX12_of s a4 (1 : Int32) ∧ (((vX12_of s a4 (1 : Int32)) = a1 → BI MX12_buries 3 64 [(0, .ref 248), (1, .int a1), (2, .int a2), (3, .int a3), (4, .int a4)] s Q) ∧ (¬ (vX12_of s a4 (1 : Int32)) = a1 → BI MX12_buries 3 18 [(0, .ref 248), (1, .int a1), (2, .int a2), (3, .int a3), (4, .int (a4 + 1))] s Q))))))))) : BI MX12_buries 3 18 [(0, .ref 248), (1, .int a1), (2, .int a2), (3, .int a3), (4, .int a4)] s Q := by
  refine JT_iload (q := 4) dX12_buries_18 rfl ?_
  refine JT_aload_n (q := 0) dX12_buries_20 rfl rfl ?_
  refine JS_getR (x := 250) dX12_buries_21 flX12_33 BS_248 (Nat.le_of_ble_eq_true rfl) (Nat.le_of_ble_eq_true rfl) (Or.inr ⟨_, ct_12_6⟩) RF_248_6 ?_
  refine JT_bipush (v := 34) dX12_buries_24 bp_34 ?_
  refine JS_iald dX12_buries_26 BS_250 (Nat.le_of_ble_eq_true rfl) (Nat.le_of_ble_eq_true rfl) (by unfold vp_in; decide) ?_
  refine JT_icmp_ge (tgt := 124) dX12_buries_27 (by decide) (fun hc7 => ?_) (fun hc7 => ?_)
  · have h := h.1 hc7
    refine JT_iload_n (q := 3) dX12_buries_124 rfl rfl ?_
    exact JS_iret dX12_buries_125 rfl rfl h
  · have h := h.2 hc7
    refine JT_aload_n (q := 0) dX12_buries_30 rfl rfl ?_
    refine JT_iload (q := 4) dX12_buries_31 rfl ?_
    obtain ⟨o6, h⟩ := h
    refine JS_callVI (M' := MX12_isOpen) (d' := 2) (As := [.int a4]) (rest := []) (P := (fun zv9 wm9 => (vX12_isOpen s a4) = zv9 ∧ s = wm9)) dX12_buries_33 cvX12_278 okX12_isOpen rfl (Nat.le_of_ble_eq_true rfl) BS_248 (Nat.le_of_ble_eq_true rfl) (Nat.le_of_ble_eq_true rfl) hci_12 (Nat.le_of_ble_eq_true rfl) (Nat.le_of_ble_eq_true rfl) (pX12_isOpen  (a4) o6 ⟨rfl, rfl⟩) (fun zv9 wm9 hq9 => ?_)
    obtain ⟨rfl, rfl⟩ := hq9
    refine JT_if_eq (tgt := 118) dX12_buries_36 (by decide) (fun hc5 => ?_) (fun hc5 => ?_)
    · have h := h.1 hc5
      refine JT_iinc (q := 4) (v := (a4 + 1)) (lv' := [(4, .int (a4 + 1)), (0, .ref 248), (1, .int a1), (2, .int a2), (3, .int a3)]) dX12_buries_118 rfl (by rfl) (Nat.le_of_ble_eq_true rfl) rfl ?_
      refine JT_goto (tgt := 18) dX12_buries_121 (by decide) ?_
      exact JT_sub [1, 2, 3, 4, 0] rfl h
    · have h := h.2 hc5
      refine JT_aload_n (q := 0) dX12_buries_39 rfl rfl ?_
      refine JT_iload (q := 4) dX12_buries_40 rfl ?_
      refine JT_iconst (v := 0) dX12_buries_42 ic_0 ?_
      obtain ⟨o4, h⟩ := h
      refine JS_callVI (M' := MX12_of) (d' := 0) (As := [.int a4, .int (0 : Int32)]) (rest := []) (P := (fun zv9 wm9 => (vX12_of s a4 (0 : Int32)) = zv9 ∧ s = wm9)) dX12_buries_43 cvX12_265 okX12_of rfl (Nat.le_of_ble_eq_true rfl) BS_248 (Nat.le_of_ble_eq_true rfl) (Nat.le_of_ble_eq_true rfl) hci_12 (Nat.le_of_ble_eq_true rfl) (Nat.le_of_ble_eq_true rfl) (pX12_of  (a4) ((0 : Int32)) o4 ⟨rfl, rfl⟩) (fun zv9 wm9 hq9 => ?_)
      obtain ⟨rfl, rfl⟩ := hq9
      refine JT_iload_n (q := 1) dX12_buries_46 rfl rfl ?_
      refine JT_icmp_eq (tgt := 64) dX12_buries_47 (by decide) (fun hc3 => ?_) (fun hc3 => ?_)
      · have h := h.1 hc3
        exact JT_sub [0, 1, 2, 3, 4] rfl h
      · have h := h.2 hc3
        refine JT_aload_n (q := 0) dX12_buries_50 rfl rfl ?_
        refine JT_iload (q := 4) dX12_buries_51 rfl ?_
        refine JT_iconst (v := 1) dX12_buries_53 ic_1 ?_
        obtain ⟨o2, h⟩ := h
        refine JS_callVI (M' := MX12_of) (d' := 0) (As := [.int a4, .int (1 : Int32)]) (rest := []) (P := (fun zv9 wm9 => (vX12_of s a4 (1 : Int32)) = zv9 ∧ s = wm9)) dX12_buries_54 cvX12_265 okX12_of rfl (Nat.le_of_ble_eq_true rfl) BS_248 (Nat.le_of_ble_eq_true rfl) (Nat.le_of_ble_eq_true rfl) hci_12 (Nat.le_of_ble_eq_true rfl) (Nat.le_of_ble_eq_true rfl) (pX12_of  (a4) ((1 : Int32)) o2 ⟨rfl, rfl⟩) (fun zv9 wm9 hq9 => ?_)
        obtain ⟨rfl, rfl⟩ := hq9
        refine JT_iload_n (q := 1) dX12_buries_57 rfl rfl ?_
        refine JT_icmp_eq (tgt := 64) dX12_buries_58 (by decide) (fun hc1 => ?_) (fun hc1 => ?_)
        · have h := h.1 hc1
          exact JT_sub [0, 1, 2, 3, 4] rfl h
        · have h := h.2 hc1
          refine JT_goto (tgt := 118) dX12_buries_61 (by decide) ?_
          refine JT_iinc (q := 4) (v := (a4 + 1)) (lv' := [(4, .int (a4 + 1)), (0, .ref 248), (1, .int a1), (2, .int a2), (3, .int a3)]) dX12_buries_118 rfl (by rfl) (Nat.le_of_ble_eq_true rfl) rfl ?_
          refine JT_goto (tgt := 18) dX12_buries_121 (by decide) ?_
          exact JT_sub [1, 2, 3, 4, 0] rfl h
set_option maxRecDepth 20000 in
theorem bX12_buries_64 (a1 : Int32) (a2 : Int32) (a3 : Int32) (a4 : Int32) {s : SM} {Q : Int32 → SM → Prop} (h : rX12_of s a4 (0 : Int32) ∧ rX12_set s a4 (if (vX12_of s a4 (0 : Int32)) = a1 then (0 : Int32) else (1 : Int32)) a2 ∧ rX12_of (mX12_set s a4 (if (vX12_of s a4 (0 : Int32)) = a1 then (0 : Int32) else (1 : Int32)) a2) a4 (0 : Int32) ∧ rX12_of (mX12_set s a4 (if (vX12_of s a4 (0 : Int32)) = a1 then (0 : Int32) else (1 : Int32)) a2) a4 (1 : Int32) ∧ ((¬ (vX12_of (mX12_set s a4 (if (vX12_of s a4 (0 : Int32)) = a1 then (0 : Int32) else (1 : Int32)) a2) a4 (0 : Int32)) = (vX12_of (mX12_set s a4 (if (vX12_of s a4 (0 : Int32)) = a1 then (0 : Int32) else (1 : Int32)) a2) a4 (1 : Int32)) → BI MX12_buries 3 18 [(0, .ref 248), (1, .int a1), (2, .int a2), (3, .int (a3 + 1)), (4, .int (a4 + 1))] (mX12_set s a4 (if (vX12_of s a4 (0 : Int32)) = a1 then (0 : Int32) else (1 : Int32)) a2) Q) ∧ ((vX12_of (mX12_set s a4 (if (vX12_of s a4 (0 : Int32)) = a1 then (0 : Int32) else (1 : Int32)) a2) a4 (0 : Int32)) = (vX12_of (mX12_set s a4 (if (vX12_of s a4 (0 : Int32)) = a1 then (0 : Int32) else (1 : Int32)) a2) a4 (1 : Int32)) → rX12_set (mX12_set s a4 (if (vX12_of s a4 (0 : Int32)) = a1 then (0 : Int32) else (1 : Int32)) a2) a4 (5 : Int32) (2 : Int32) ∧ (∀ s1, s1 = (mX12_set (mX12_set s a4 (if (vX12_of s a4 (0 : Int32)) = a1 then (0 : Int32) else (1 : Int32)) a2) a4 (5 : Int32) (2 : Int32)) → BI MX12_buries 3 18 [(0, .ref 248), (1, .int a1), (2, .int a2), (3, .int a3), (4, .int (a4 + 1))] s1 Q)))) : BI MX12_buries 3 64 [(0, .ref 248), (1, .int a1), (2, .int a2), (3, .int a3), (4, .int a4)] s Q := by
  refine JT_aload_n (q := 0) dX12_buries_64 rfl rfl ?_
  refine JT_iload (q := 4) dX12_buries_65 rfl ?_
  refine JT_aload_n (q := 0) dX12_buries_67 rfl rfl ?_
  refine JT_iload (q := 4) dX12_buries_68 rfl ?_
  refine JT_iconst (v := 0) dX12_buries_70 ic_0 ?_
  obtain ⟨o9, h⟩ := h
  refine JS_callVI (M' := MX12_of) (d' := 0) (As := [.int a4, .int (0 : Int32)]) (rest := [.int a4, .ref 248]) (P := (fun zv9 wm9 => (vX12_of s a4 (0 : Int32)) = zv9 ∧ s = wm9)) dX12_buries_71 cvX12_265 okX12_of rfl (Nat.le_of_ble_eq_true rfl) BS_248 (Nat.le_of_ble_eq_true rfl) (Nat.le_of_ble_eq_true rfl) hci_12 (Nat.le_of_ble_eq_true rfl) (Nat.le_of_ble_eq_true rfl) (pX12_of  (a4) ((0 : Int32)) o9 ⟨rfl, rfl⟩) (fun zv9 wm9 hq9 => ?_)
  obtain ⟨rfl, rfl⟩ := hq9
  refine JT_iload_n (q := 1) dX12_buries_74 rfl rfl ?_
  have hj7 : ∀ v : Int32, v = (if (vX12_of s a4 (0 : Int32)) = a1 then (0 : Int32) else (1 : Int32)) → JT MX12_buries 3 0 0 83 [(0, .ref 248), (1, .int a1), (2, .int a2), (3, .int a3), (4, .int a4)] [.int v, .int a4, .ref 248] (std s) (KQ Q) := by
    intro v hv
    subst hv
    refine JT_iload_n (q := 2) dX12_buries_83 rfl rfl ?_
    obtain ⟨o6, h⟩ := h
    refine JS_callVV (M' := MX12_set) (d' := 0) (As := [.int a4, .int (if (vX12_of s a4 (0 : Int32)) = a1 then (0 : Int32) else (1 : Int32)), .int a2]) (rest := []) (P := (fun wm9 => (mX12_set s a4 (if (vX12_of s a4 (0 : Int32)) = a1 then (0 : Int32) else (1 : Int32)) a2) = wm9)) dX12_buries_84 cvX12_322 okX12_set rfl (Nat.le_of_ble_eq_true rfl) BS_248 (Nat.le_of_ble_eq_true rfl) (Nat.le_of_ble_eq_true rfl) hci_12 (Nat.le_of_ble_eq_true rfl) (Nat.le_of_ble_eq_true rfl) (pX12_set  (a4) ((if (vX12_of s a4 (0 : Int32)) = a1 then (0 : Int32) else (1 : Int32))) (a2) o6 rfl) (fun wm9 hq9 => ?_)
    subst hq9
    refine JT_aload_n (q := 0) dX12_buries_87 rfl rfl ?_
    refine JT_iload (q := 4) dX12_buries_88 rfl ?_
    refine JT_iconst (v := 0) dX12_buries_90 ic_0 ?_
    obtain ⟨o5, h⟩ := h
    refine JS_callVI (M' := MX12_of) (d' := 0) (As := [.int a4, .int (0 : Int32)]) (rest := []) (P := (fun zv9 wm9 => (vX12_of (mX12_set s a4 (if (vX12_of s a4 (0 : Int32)) = a1 then (0 : Int32) else (1 : Int32)) a2) a4 (0 : Int32)) = zv9 ∧ (mX12_set s a4 (if (vX12_of s a4 (0 : Int32)) = a1 then (0 : Int32) else (1 : Int32)) a2) = wm9)) dX12_buries_91 cvX12_265 okX12_of rfl (Nat.le_of_ble_eq_true rfl) BS_248 (Nat.le_of_ble_eq_true rfl) (Nat.le_of_ble_eq_true rfl) hci_12 (Nat.le_of_ble_eq_true rfl) (Nat.le_of_ble_eq_true rfl) (pX12_of  (a4) ((0 : Int32)) o5 ⟨rfl, rfl⟩) (fun zv9 wm9 hq9 => ?_)
    obtain ⟨rfl, rfl⟩ := hq9
    refine JT_aload_n (q := 0) dX12_buries_94 rfl rfl ?_
    refine JT_iload (q := 4) dX12_buries_95 rfl ?_
    refine JT_iconst (v := 1) dX12_buries_97 ic_1 ?_
    obtain ⟨o4, h⟩ := h
    refine JS_callVI (M' := MX12_of) (d' := 0) (As := [.int a4, .int (1 : Int32)]) (rest := [.int (vX12_of (mX12_set s a4 (if (vX12_of s a4 (0 : Int32)) = a1 then (0 : Int32) else (1 : Int32)) a2) a4 (0 : Int32))]) (P := (fun zv9 wm9 => (vX12_of (mX12_set s a4 (if (vX12_of s a4 (0 : Int32)) = a1 then (0 : Int32) else (1 : Int32)) a2) a4 (1 : Int32)) = zv9 ∧ (mX12_set s a4 (if (vX12_of s a4 (0 : Int32)) = a1 then (0 : Int32) else (1 : Int32)) a2) = wm9)) dX12_buries_98 cvX12_265 okX12_of rfl (Nat.le_of_ble_eq_true rfl) BS_248 (Nat.le_of_ble_eq_true rfl) (Nat.le_of_ble_eq_true rfl) hci_12 (Nat.le_of_ble_eq_true rfl) (Nat.le_of_ble_eq_true rfl) (pX12_of  (a4) ((1 : Int32)) o4 ⟨rfl, rfl⟩) (fun zv9 wm9 hq9 => ?_)
    obtain ⟨rfl, rfl⟩ := hq9
    refine JT_icmp_ne (tgt := 115) dX12_buries_101 (by decide) (fun hc3 => ?_) (fun hc3 => ?_)
    · have h := h.1 hc3
      refine JT_iinc (q := 3) (v := (a3 + 1)) (lv' := [(3, .int (a3 + 1)), (0, .ref 248), (1, .int a1), (2, .int a2), (4, .int a4)]) dX12_buries_115 rfl (by rfl) (Nat.le_of_ble_eq_true rfl) rfl ?_
      refine JT_iinc (q := 4) (v := (a4 + 1)) (lv' := [(4, .int (a4 + 1)), (3, .int (a3 + 1)), (0, .ref 248), (1, .int a1), (2, .int a2)]) dX12_buries_118 rfl (by rfl) (Nat.le_of_ble_eq_true rfl) rfl ?_
      refine JT_goto (tgt := 18) dX12_buries_121 (by decide) ?_
      exact JT_sub [2, 3, 4, 1, 0] rfl h
    · have h := h.2 hc3
      refine JT_aload_n (q := 0) dX12_buries_104 rfl rfl ?_
      refine JT_iload (q := 4) dX12_buries_105 rfl ?_
      refine JT_iconst (v := 5) dX12_buries_107 ic_5 ?_
      refine JT_iconst (v := 2) dX12_buries_108 ic_2 ?_
      obtain ⟨o2, h⟩ := h
      refine JS_callVV (M' := MX12_set) (d' := 0) (As := [.int a4, .int (5 : Int32), .int (2 : Int32)]) (rest := []) (P := (fun wm9 => (mX12_set (mX12_set s a4 (if (vX12_of s a4 (0 : Int32)) = a1 then (0 : Int32) else (1 : Int32)) a2) a4 (5 : Int32) (2 : Int32)) = wm9)) dX12_buries_109 cvX12_322 okX12_set rfl (Nat.le_of_ble_eq_true rfl) BS_248 (Nat.le_of_ble_eq_true rfl) (Nat.le_of_ble_eq_true rfl) hci_12 (Nat.le_of_ble_eq_true rfl) (Nat.le_of_ble_eq_true rfl) (pX12_set  (a4) ((5 : Int32)) ((2 : Int32)) o2 rfl) (fun wm9 hq9 => ?_)
      subst hq9
      obtain ⟨s1, hs1⟩ : ∃ z, z = (mX12_set (mX12_set s a4 (if (vX12_of s a4 (0 : Int32)) = a1 then (0 : Int32) else (1 : Int32)) a2) a4 (5 : Int32) (2 : Int32)) := ⟨_, rfl⟩
      replace h := h s1 hs1
      rw [← hs1]
      refine JT_goto (tgt := 118) dX12_buries_112 (by decide) ?_
      refine JT_iinc (q := 4) (v := (a4 + 1)) (lv' := [(4, .int (a4 + 1)), (0, .ref 248), (1, .int a1), (2, .int a2), (3, .int a3)]) dX12_buries_118 rfl (by rfl) (Nat.le_of_ble_eq_true rfl) rfl ?_
      refine JT_goto (tgt := 18) dX12_buries_121 (by decide) ?_
      exact JT_sub [1, 2, 3, 4, 0] rfl h
  refine JT_icmp_ne (tgt := 82) dX12_buries_75 (by decide) (fun hc8 => ?_) (fun hc8 => ?_)
  · refine JT_iconst (v := 1) dX12_buries_82 ic_1 ?_
    exact hj7 _ (by rw [if_neg hc8])
  · refine JT_iconst (v := 0) dX12_buries_78 ic_0 ?_
    refine JT_goto (tgt := 83) dX12_buries_79 (by decide) ?_
    exact hj7 _ (by rw [if_pos hc8])
set_option maxRecDepth 20000 in
theorem bX12_buries (a1 : Int32) (a2 : Int32) {s : SM} {Q : Int32 → SM → Prop} (h : BI MX12_buries 3 18 [(0, .ref 248), (1, .int a1), (2, .int a2), (3, .int (0 : Int32)), (4, .int (0 : Int32))] (pI s 250 ((36 : Int32)).toNatClampNeg ((gI s 250 ((36 : Int32)).toNatClampNeg) ||| ((1 : Int32) <<< (a1 &&& 31)))) Q) : KI MX12_buries 3 [.ref 248, .int a1, .int a2] s Q := by
  show BI MX12_buries 3 0 [(0, .ref 248), (1, .int a1), (2, .int a2)] s Q
  refine JT_aload_n (q := 0) dX12_buries_0 rfl rfl ?_
  refine JS_getR (x := 250) dX12_buries_1 flX12_33 BS_248 (Nat.le_of_ble_eq_true rfl) (Nat.le_of_ble_eq_true rfl) (Or.inr ⟨_, ct_12_6⟩) RF_248_6 ?_
  refine JT_bipush (v := 36) dX12_buries_4 bp_36 ?_
  refine JT_dup2 dX12_buries_6 rfl rfl ?_
  refine JS_iald dX12_buries_7 BS_250 (Nat.le_of_ble_eq_true rfl) (Nat.le_of_ble_eq_true rfl) (by unfold vp_in; decide) ?_
  refine JT_iconst (v := 1) dX12_buries_8 ic_1 ?_
  refine JT_iload_n (q := 1) dX12_buries_9 rfl rfl ?_
  refine JT_ishl dX12_buries_10 ?_
  refine JT_ior dX12_buries_11 ?_
  refine JS_iast dX12_buries_12 BS_250 (Nat.le_of_ble_eq_true rfl) (Nat.le_of_ble_eq_true rfl) (by unfold vp_in; decide) ?_
  refine JT_iconst (v := 0) dX12_buries_13 ic_0 ?_
  refine JT_istore_n (lv' := [(3, .int (0 : Int32)), (0, .ref 248), (1, .int a1), (2, .int a2)]) dX12_buries_14 rfl (Nat.le_of_ble_eq_true rfl) rfl ?_
  refine JT_iconst (v := 0) dX12_buries_15 ic_0 ?_
  refine JT_istore (lv' := [(4, .int (0 : Int32)), (3, .int (0 : Int32)), (0, .ref 248), (1, .int a1), (2, .int a2)]) dX12_buries_16 (Nat.le_of_ble_eq_true rfl) rfl ?_
  exact JT_sub [2, 3, 4, 1, 0] rfl h
set_option maxRecDepth 20000 in
theorem bX12_chain_30 (a1 : Int32) (a2 : Int32) (a3 : Int32) (a4 : Int32) {s : SM} {Q : Int32 → SM → Prop} (h : (((gI s 250 ((0 : Int32)).toNatClampNeg) < a4 → Q (-1 : Int32) s) ∧ (¬ (gI s 250 ((0 : Int32)).toNatClampNeg) < a4 → (((vX12_has s a3 a2) = 0 → BI MX12_chain 3 58 [(0, .ref 248), (1, .int a1), (2, .int a2), (3, .int a3), (4, .int a4), (5, .int a3), (6, .int (0 : Int32))] s Q) ∧ (¬ (vX12_has s a3 a2) = 0 → Q a4 s))))) : BI MX12_chain 3 30 [(0, .ref 248), (1, .int a1), (2, .int a2), (3, .int a3), (4, .int a4)] s Q := by
  refine JT_iload (q := 4) dX12_chain_30 rfl ?_
  refine JT_aload_n (q := 0) dX12_chain_32 rfl rfl ?_
  refine JS_getR (x := 250) dX12_chain_33 flX12_33 BS_248 (Nat.le_of_ble_eq_true rfl) (Nat.le_of_ble_eq_true rfl) (Or.inr ⟨_, ct_12_6⟩) RF_248_6 ?_
  refine JT_iconst (v := 0) dX12_chain_36 ic_0 ?_
  refine JS_iald dX12_chain_37 BS_250 (Nat.le_of_ble_eq_true rfl) (Nat.le_of_ble_eq_true rfl) (by unfold vp_in; decide) ?_
  refine JT_icmp_gt (tgt := 122) dX12_chain_38 (by decide) (fun hc3 => ?_) (fun hc3 => ?_)
  · have h := h.1 hc3
    refine JT_iconst (v := -1) dX12_chain_122 ic_m1 ?_
    exact JS_iret dX12_chain_123 rfl rfl h
  · have h := h.2 hc3
    refine JT_iload_n (q := 3) dX12_chain_41 rfl rfl ?_
    refine JT_iload_n (q := 2) dX12_chain_42 rfl rfl ?_
    refine JS_callSI (M' := MX12_has) (d' := 0) (As := [.int a3, .int a2]) (rest := []) (P := (fun zv9 wm9 => (vX12_has s a3 a2) = zv9 ∧ s = wm9)) dX12_chain_43 cvX12_259 okX12_has rfl (Nat.le_of_ble_eq_true rfl) (Nat.le_of_ble_eq_true rfl) (Nat.le_of_ble_eq_true rfl) (pX12_has  (a3) (a2)  ⟨rfl, rfl⟩) (fun zv9 wm9 hq9 => ?_)
    obtain ⟨rfl, rfl⟩ := hq9
    refine JT_if_eq (tgt := 52) dX12_chain_46 (by decide) (fun hc1 => ?_) (fun hc1 => ?_)
    · have h := h.1 hc1
      refine JT_iload_n (q := 3) dX12_chain_52 rfl rfl ?_
      refine JT_istore (lv' := [(5, .int a3), (0, .ref 248), (1, .int a1), (2, .int a2), (3, .int a3), (4, .int a4)]) dX12_chain_53 (Nat.le_of_ble_eq_true rfl) rfl ?_
      refine JT_iconst (v := 0) dX12_chain_55 ic_0 ?_
      refine JT_istore (lv' := [(6, .int (0 : Int32)), (5, .int a3), (0, .ref 248), (1, .int a1), (2, .int a2), (3, .int a3), (4, .int a4)]) dX12_chain_56 (Nat.le_of_ble_eq_true rfl) rfl ?_
      exact JT_sub [2, 3, 4, 5, 6, 1, 0] rfl h
    · have h := h.2 hc1
      refine JT_iload (q := 4) dX12_chain_49 rfl ?_
      exact JS_iret dX12_chain_51 rfl rfl h
set_option maxRecDepth 20000 in
theorem bX12_chain_58 (a1 : Int32) (a2 : Int32) (a3 : Int32) (a4 : Int32) (a5 : Int32) (a6 : Int32) {s : SM} {Q : Int32 → SM → Prop} (h : (((gI s 250 ((34 : Int32)).toNatClampNeg) ≤ a6 → BI MX12_chain 3 30 [(0, .ref 248), (1, .int a1), (2, .int a2), (3, .int a5), (4, .int (a4 + 1))] s Q) ∧ (¬ (gI s 250 ((34 : Int32)).toNatClampNeg) ≤ a6 → rX12_isOpen s a6 ∧ (((vX12_isOpen s a6) = 0 → BI MX12_chain 3 58 [(0, .ref 248), (1, .int a1), (2, .int a2), (3, .int a3), (4, .int a4), (5, .int a5), (6, .int (a6 + 1))] s Q) ∧ (¬ (vX12_isOpen s a6) = 0 → rX12_of s a6 (1 : Int32) ∧ (((vX12_has s a3 (vX12_of s a6 (1 : Int32))) = 0 → BI MX12_chain 3 58 [(0, .ref 248), (1, .int a1), (2, .int a2), (3, .int a3), (4, .int a4), (5, .int a5), (6, .int (a6 + 1))] s Q) ∧ (¬ (vX12_has s a3 (vX12_of s a6 (1 : Int32))) = 0 → rX12_of s a6 (0 : Int32) ∧ BI MX12_chain 3 58 [(0, .ref 248), (1, .int a1), (2, .int a2), (3, .int a3), (4, .int a4), (5, .int (a5 ||| ((1 : Int32) <<< ((vX12_of s a6 (0 : Int32)) &&& 31)))), (6, .int (a6 + 1))] s Q))))))) : BI MX12_chain 3 58 [(0, .ref 248), (1, .int a1), (2, .int a2), (3, .int a3), (4, .int a4), (5, .int a5), (6, .int a6)] s Q := by
  refine JT_iload (q := 6) dX12_chain_58 rfl ?_
  refine JT_aload_n (q := 0) dX12_chain_60 rfl rfl ?_
  refine JS_getR (x := 250) dX12_chain_61 flX12_33 BS_248 (Nat.le_of_ble_eq_true rfl) (Nat.le_of_ble_eq_true rfl) (Or.inr ⟨_, ct_12_6⟩) RF_248_6 ?_
  refine JT_bipush (v := 34) dX12_chain_64 bp_34 ?_
  refine JS_iald dX12_chain_66 BS_250 (Nat.le_of_ble_eq_true rfl) (Nat.le_of_ble_eq_true rfl) (by unfold vp_in; decide) ?_
  refine JT_icmp_ge (tgt := 113) dX12_chain_67 (by decide) (fun hc7 => ?_) (fun hc7 => ?_)
  · have h := h.1 hc7
    refine JT_iload (q := 5) dX12_chain_113 rfl ?_
    refine JT_istore_n (lv' := [(3, .int a5), (0, .ref 248), (1, .int a1), (2, .int a2), (4, .int a4), (5, .int a5), (6, .int a6)]) dX12_chain_115 rfl (Nat.le_of_ble_eq_true rfl) rfl ?_
    refine JT_iinc (q := 4) (v := (a4 + 1)) (lv' := [(4, .int (a4 + 1)), (3, .int a5), (0, .ref 248), (1, .int a1), (2, .int a2), (5, .int a5), (6, .int a6)]) dX12_chain_116 rfl (by rfl) (Nat.le_of_ble_eq_true rfl) rfl ?_
    refine JT_goto (tgt := 30) dX12_chain_119 (by decide) ?_
    exact JT_sub [2, 3, 4, 1, 0] rfl h
  · have h := h.2 hc7
    refine JT_aload_n (q := 0) dX12_chain_70 rfl rfl ?_
    refine JT_iload (q := 6) dX12_chain_71 rfl ?_
    obtain ⟨o6, h⟩ := h
    refine JS_callVI (M' := MX12_isOpen) (d' := 2) (As := [.int a6]) (rest := []) (P := (fun zv9 wm9 => (vX12_isOpen s a6) = zv9 ∧ s = wm9)) dX12_chain_73 cvX12_278 okX12_isOpen rfl (Nat.le_of_ble_eq_true rfl) BS_248 (Nat.le_of_ble_eq_true rfl) (Nat.le_of_ble_eq_true rfl) hci_12 (Nat.le_of_ble_eq_true rfl) (Nat.le_of_ble_eq_true rfl) (pX12_isOpen  (a6) o6 ⟨rfl, rfl⟩) (fun zv9 wm9 hq9 => ?_)
    obtain ⟨rfl, rfl⟩ := hq9
    refine JT_if_eq (tgt := 107) dX12_chain_76 (by decide) (fun hc5 => ?_) (fun hc5 => ?_)
    · have h := h.1 hc5
      refine JT_iinc (q := 6) (v := (a6 + 1)) (lv' := [(6, .int (a6 + 1)), (0, .ref 248), (1, .int a1), (2, .int a2), (3, .int a3), (4, .int a4), (5, .int a5)]) dX12_chain_107 rfl (by rfl) (Nat.le_of_ble_eq_true rfl) rfl ?_
      refine JT_goto (tgt := 58) dX12_chain_110 (by decide) ?_
      exact JT_sub [1, 2, 3, 4, 5, 6, 0] rfl h
    · have h := h.2 hc5
      refine JT_iload_n (q := 3) dX12_chain_79 rfl rfl ?_
      refine JT_aload_n (q := 0) dX12_chain_80 rfl rfl ?_
      refine JT_iload (q := 6) dX12_chain_81 rfl ?_
      refine JT_iconst (v := 1) dX12_chain_83 ic_1 ?_
      obtain ⟨o4, h⟩ := h
      refine JS_callVI (M' := MX12_of) (d' := 0) (As := [.int a6, .int (1 : Int32)]) (rest := [.int a3]) (P := (fun zv9 wm9 => (vX12_of s a6 (1 : Int32)) = zv9 ∧ s = wm9)) dX12_chain_84 cvX12_265 okX12_of rfl (Nat.le_of_ble_eq_true rfl) BS_248 (Nat.le_of_ble_eq_true rfl) (Nat.le_of_ble_eq_true rfl) hci_12 (Nat.le_of_ble_eq_true rfl) (Nat.le_of_ble_eq_true rfl) (pX12_of  (a6) ((1 : Int32)) o4 ⟨rfl, rfl⟩) (fun zv9 wm9 hq9 => ?_)
      obtain ⟨rfl, rfl⟩ := hq9
      refine JS_callSI (M' := MX12_has) (d' := 0) (As := [.int a3, .int (vX12_of s a6 (1 : Int32))]) (rest := []) (P := (fun zv9 wm9 => (vX12_has s a3 (vX12_of s a6 (1 : Int32))) = zv9 ∧ s = wm9)) dX12_chain_87 cvX12_259 okX12_has rfl (Nat.le_of_ble_eq_true rfl) (Nat.le_of_ble_eq_true rfl) (Nat.le_of_ble_eq_true rfl) (pX12_has  (a3) ((vX12_of s a6 (1 : Int32)))  ⟨rfl, rfl⟩) (fun zv9 wm9 hq9 => ?_)
      obtain ⟨rfl, rfl⟩ := hq9
      refine JT_if_eq (tgt := 107) dX12_chain_90 (by decide) (fun hc2 => ?_) (fun hc2 => ?_)
      · have h := h.1 hc2
        refine JT_iinc (q := 6) (v := (a6 + 1)) (lv' := [(6, .int (a6 + 1)), (0, .ref 248), (1, .int a1), (2, .int a2), (3, .int a3), (4, .int a4), (5, .int a5)]) dX12_chain_107 rfl (by rfl) (Nat.le_of_ble_eq_true rfl) rfl ?_
        refine JT_goto (tgt := 58) dX12_chain_110 (by decide) ?_
        exact JT_sub [1, 2, 3, 4, 5, 6, 0] rfl h
      · have h := h.2 hc2
        refine JT_iload (q := 5) dX12_chain_93 rfl ?_
        refine JT_iconst (v := 1) dX12_chain_95 ic_1 ?_
        refine JT_aload_n (q := 0) dX12_chain_96 rfl rfl ?_
        refine JT_iload (q := 6) dX12_chain_97 rfl ?_
        refine JT_iconst (v := 0) dX12_chain_99 ic_0 ?_
        obtain ⟨o1, h⟩ := h
        refine JS_callVI (M' := MX12_of) (d' := 0) (As := [.int a6, .int (0 : Int32)]) (rest := [.int (1 : Int32), .int a5]) (P := (fun zv9 wm9 => (vX12_of s a6 (0 : Int32)) = zv9 ∧ s = wm9)) dX12_chain_100 cvX12_265 okX12_of rfl (Nat.le_of_ble_eq_true rfl) BS_248 (Nat.le_of_ble_eq_true rfl) (Nat.le_of_ble_eq_true rfl) hci_12 (Nat.le_of_ble_eq_true rfl) (Nat.le_of_ble_eq_true rfl) (pX12_of  (a6) ((0 : Int32)) o1 ⟨rfl, rfl⟩) (fun zv9 wm9 hq9 => ?_)
        obtain ⟨rfl, rfl⟩ := hq9
        refine JT_ishl dX12_chain_103 ?_
        refine JT_ior dX12_chain_104 ?_
        refine JT_istore (lv' := [(5, .int (a5 ||| ((1 : Int32) <<< ((vX12_of s a6 (0 : Int32)) &&& 31)))), (0, .ref 248), (1, .int a1), (2, .int a2), (3, .int a3), (4, .int a4), (6, .int a6)]) dX12_chain_105 (Nat.le_of_ble_eq_true rfl) rfl ?_
        refine JT_iinc (q := 6) (v := (a6 + 1)) (lv' := [(6, .int (a6 + 1)), (5, .int (a5 ||| ((1 : Int32) <<< ((vX12_of s a6 (0 : Int32)) &&& 31)))), (0, .ref 248), (1, .int a1), (2, .int a2), (3, .int a3), (4, .int a4)]) dX12_chain_107 rfl (by rfl) (Nat.le_of_ble_eq_true rfl) rfl ?_
        refine JT_goto (tgt := 58) dX12_chain_110 (by decide) ?_
        exact JT_sub [2, 3, 4, 5, 6, 1, 0] rfl h
set_option maxRecDepth 20000 in
theorem bX12_chain (a1 : Int32) (a2 : Int32) {s : SM} {Q : Int32 → SM → Prop} (h : (((vX12_isBody (pI s 248 0 (0 : Int32)) a1) = 0 → Q (-1 : Int32) (pI s 248 0 (0 : Int32))) ∧ (¬ (vX12_isBody (pI s 248 0 (0 : Int32)) a1) = 0 → ((¬ (vX12_isBody (pI s 248 0 (0 : Int32)) a2) = 0 → BI MX12_chain 3 30 [(0, .ref 248), (1, .int a1), (2, .int a2), (3, .int ((1 : Int32) <<< (a1 &&& 31))), (4, .int (0 : Int32))] (pI s 248 0 (0 : Int32)) Q) ∧ ((vX12_isBody (pI s 248 0 (0 : Int32)) a2) = 0 → Q (-1 : Int32) (pI s 248 0 (0 : Int32))))))) : KI MX12_chain 3 [.ref 248, .int a1, .int a2] s Q := by
  show BI MX12_chain 3 0 [(0, .ref 248), (1, .int a1), (2, .int a2)] s Q
  refine JT_aload_n (q := 0) dX12_chain_0 rfl rfl ?_
  refine JT_iconst (v := 0) dX12_chain_1 ic_0 ?_
  refine JS_putI dX12_chain_2 flX12_1 BS_248 (Nat.le_of_ble_eq_true rfl) (Nat.le_of_ble_eq_true rfl) ct_12_0 ?_
  refine JT_aload_n (q := 0) dX12_chain_5 rfl rfl ?_
  refine JT_iload_n (q := 1) dX12_chain_6 rfl rfl ?_
  refine JS_callVI (M' := MX12_isBody) (d' := 1) (As := [.int a1]) (rest := []) (P := (fun zv9 wm9 => (vX12_isBody (pI s 248 0 (0 : Int32)) a1) = zv9 ∧ (pI s 248 0 (0 : Int32)) = wm9)) dX12_chain_7 cvX12_287 okX12_isBody rfl (Nat.le_of_ble_eq_true rfl) BS_248 (Nat.le_of_ble_eq_true rfl) (Nat.le_of_ble_eq_true rfl) hci_12 (Nat.le_of_ble_eq_true rfl) (Nat.le_of_ble_eq_true rfl) (pX12_isBody  (a1)  ⟨rfl, rfl⟩) (fun zv9 wm9 hq9 => ?_)
  obtain ⟨rfl, rfl⟩ := hq9
  refine JT_if_eq (tgt := 21) dX12_chain_10 (by decide) (fun hc3 => ?_) (fun hc3 => ?_)
  · have h := h.1 hc3
    refine JT_iconst (v := -1) dX12_chain_21 ic_m1 ?_
    exact JS_iret dX12_chain_22 rfl rfl h
  · have h := h.2 hc3
    refine JT_aload_n (q := 0) dX12_chain_13 rfl rfl ?_
    refine JT_iload_n (q := 2) dX12_chain_14 rfl rfl ?_
    refine JS_callVI (M' := MX12_isBody) (d' := 1) (As := [.int a2]) (rest := []) (P := (fun zv9 wm9 => (vX12_isBody (pI s 248 0 (0 : Int32)) a2) = zv9 ∧ (pI s 248 0 (0 : Int32)) = wm9)) dX12_chain_15 cvX12_287 okX12_isBody rfl (Nat.le_of_ble_eq_true rfl) BS_248 (Nat.le_of_ble_eq_true rfl) (Nat.le_of_ble_eq_true rfl) hci_12 (Nat.le_of_ble_eq_true rfl) (Nat.le_of_ble_eq_true rfl) (pX12_isBody  (a2)  ⟨rfl, rfl⟩) (fun zv9 wm9 hq9 => ?_)
    obtain ⟨rfl, rfl⟩ := hq9
    refine JT_if_ne (tgt := 23) dX12_chain_18 (by decide) (fun hc1 => ?_) (fun hc1 => ?_)
    · have h := h.1 hc1
      refine JT_iconst (v := 1) dX12_chain_23 ic_1 ?_
      refine JT_iload_n (q := 1) dX12_chain_24 rfl rfl ?_
      refine JT_ishl dX12_chain_25 ?_
      refine JT_istore_n (lv' := [(3, .int ((1 : Int32) <<< (a1 &&& 31))), (0, .ref 248), (1, .int a1), (2, .int a2)]) dX12_chain_26 rfl (Nat.le_of_ble_eq_true rfl) rfl ?_
      refine JT_iconst (v := 0) dX12_chain_27 ic_0 ?_
      refine JT_istore (lv' := [(4, .int (0 : Int32)), (3, .int ((1 : Int32) <<< (a1 &&& 31))), (0, .ref 248), (1, .int a1), (2, .int a2)]) dX12_chain_28 (Nat.le_of_ble_eq_true rfl) rfl ?_
      exact JT_sub [2, 3, 4, 1, 0] rfl h
    · have h := h.2 hc1
      refine JT_iconst (v := -1) dX12_chain_21 ic_m1 ?_
      exact JS_iret dX12_chain_22 rfl rfl h
set_option maxRecDepth 20000 in
theorem bX12_cuts_15 (a1 : Int32) (a2 : Int32) {s : SM} {Q : Int32 → SM → Prop} (h : (((gI s 248 29) ≤ a2 → Q a1 s) ∧ (¬ (gI s 248 29) ≤ a2 → vp_in a2 5 ∧ rX12_of s (gI s 257 (a2).toNatClampNeg) (2 : Int32) ∧ rX12_set s (gI s 257 (a2).toNatClampNeg) (2 : Int32) ((vX12_of s (gI s 257 (a2).toNatClampNeg) (2 : Int32)) - a1) ∧ rX12_of (mX12_set s (gI s 257 (a2).toNatClampNeg) (2 : Int32) ((vX12_of s (gI s 257 (a2).toNatClampNeg) (2 : Int32)) - a1)) (gI s 257 (a2).toNatClampNeg) (2 : Int32) ∧ (((vX12_of (mX12_set s (gI s 257 (a2).toNatClampNeg) (2 : Int32) ((vX12_of s (gI s 257 (a2).toNatClampNeg) (2 : Int32)) - a1)) (gI s 257 (a2).toNatClampNeg) (2 : Int32)) ≤ 0 → rX12_set (mX12_set s (gI s 257 (a2).toNatClampNeg) (2 : Int32) ((vX12_of s (gI s 257 (a2).toNatClampNeg) (2 : Int32)) - a1)) (gI s 257 (a2).toNatClampNeg) (5 : Int32) (2 : Int32) ∧ (∀ s2, s2 = (mX12_set (mX12_set s (gI s 257 (a2).toNatClampNeg) (2 : Int32) ((vX12_of s (gI s 257 (a2).toNatClampNeg) (2 : Int32)) - a1)) (gI s 257 (a2).toNatClampNeg) (5 : Int32) (2 : Int32)) → BI MX12_cuts 3 66 [(0, .ref 248), (1, .int a1), (2, .int a2), (3, .int (gI s 257 (a2).toNatClampNeg)), (4, .int (0 : Int32))] s2 Q)) ∧ (¬ (vX12_of (mX12_set s (gI s 257 (a2).toNatClampNeg) (2 : Int32) ((vX12_of s (gI s 257 (a2).toNatClampNeg) (2 : Int32)) - a1)) (gI s 257 (a2).toNatClampNeg) (2 : Int32)) ≤ 0 → BI MX12_cuts 3 15 [(0, .ref 248), (1, .int a1), (2, .int (a2 + 1))] (mX12_set s (gI s 257 (a2).toNatClampNeg) (2 : Int32) ((vX12_of s (gI s 257 (a2).toNatClampNeg) (2 : Int32)) - a1)) Q))))) : BI MX12_cuts 3 15 [(0, .ref 248), (1, .int a1), (2, .int a2)] s Q := by
  refine JT_iload_n (q := 2) dX12_cuts_15 rfl rfl ?_
  refine JT_aload_n (q := 0) dX12_cuts_16 rfl rfl ?_
  refine JS_getI dX12_cuts_17 flX12_362 BS_248 (Nat.le_of_ble_eq_true rfl) (Nat.le_of_ble_eq_true rfl) (Or.inl ct_12_29) ?_
  refine JT_icmp_ge (tgt := 134) dX12_cuts_20 (by decide) (fun hc8 => ?_) (fun hc8 => ?_)
  · have h := h.1 hc8
    refine JT_iload_n (q := 1) dX12_cuts_134 rfl rfl ?_
    exact JS_iret dX12_cuts_135 rfl rfl h
  · have h := h.2 hc8
    refine JT_aload_n (q := 0) dX12_cuts_23 rfl rfl ?_
    refine JS_getR (x := 257) dX12_cuts_24 flX12_56 BS_248 (Nat.le_of_ble_eq_true rfl) (Nat.le_of_ble_eq_true rfl) (Or.inr ⟨_, ct_12_27⟩) RF_248_27 ?_
    refine JT_iload_n (q := 2) dX12_cuts_27 rfl rfl ?_
    obtain ⟨o1, h⟩ := h
    refine JS_iald dX12_cuts_28 BS_257 (Nat.le_of_ble_eq_true rfl) (Nat.le_of_ble_eq_true rfl) o1 ?_
    refine JT_istore_n (lv' := [(3, .int (gI s 257 (a2).toNatClampNeg)), (0, .ref 248), (1, .int a1), (2, .int a2)]) dX12_cuts_29 rfl (Nat.le_of_ble_eq_true rfl) rfl ?_
    refine JT_aload_n (q := 1) dX12_cuts_30 rfl rfl ?_
    refine JT_iload_n (q := 0) dX12_cuts_31 rfl rfl ?_
    refine JT_iconst (v := 2) dX12_cuts_32 ic_2 ?_
    refine JT_aload_n (q := 1) dX12_cuts_33 rfl rfl ?_
    refine JT_iload_n (q := 0) dX12_cuts_34 rfl rfl ?_
    refine JT_iconst (v := 2) dX12_cuts_35 ic_2 ?_
    obtain ⟨o7, h⟩ := h
    refine JS_callVI (M' := MX12_of) (d' := 0) (As := [.int (gI s 257 (a2).toNatClampNeg), .int (2 : Int32)]) (rest := [.int (2 : Int32), .int (gI s 257 (a2).toNatClampNeg), .ref 248]) (P := (fun zv9 wm9 => (vX12_of s (gI s 257 (a2).toNatClampNeg) (2 : Int32)) = zv9 ∧ s = wm9)) dX12_cuts_36 cvX12_265 okX12_of rfl (Nat.le_of_ble_eq_true rfl) BS_248 (Nat.le_of_ble_eq_true rfl) (Nat.le_of_ble_eq_true rfl) hci_12 (Nat.le_of_ble_eq_true rfl) (Nat.le_of_ble_eq_true rfl) (pX12_of  ((gI s 257 (a2).toNatClampNeg)) ((2 : Int32)) o7 ⟨rfl, rfl⟩) (fun zv9 wm9 hq9 => ?_)
    obtain ⟨rfl, rfl⟩ := hq9
    refine JT_iload_n (q := 2) dX12_cuts_39 rfl rfl ?_
    refine JT_isub dX12_cuts_40 ?_
    obtain ⟨o6, h⟩ := h
    refine JS_callVV (M' := MX12_set) (d' := 0) (As := [.int (gI s 257 (a2).toNatClampNeg), .int (2 : Int32), .int ((vX12_of s (gI s 257 (a2).toNatClampNeg) (2 : Int32)) - a1)]) (rest := []) (P := (fun wm9 => (mX12_set s (gI s 257 (a2).toNatClampNeg) (2 : Int32) ((vX12_of s (gI s 257 (a2).toNatClampNeg) (2 : Int32)) - a1)) = wm9)) dX12_cuts_41 cvX12_322 okX12_set rfl (Nat.le_of_ble_eq_true rfl) BS_248 (Nat.le_of_ble_eq_true rfl) (Nat.le_of_ble_eq_true rfl) hci_12 (Nat.le_of_ble_eq_true rfl) (Nat.le_of_ble_eq_true rfl) (pX12_set  ((gI s 257 (a2).toNatClampNeg)) ((2 : Int32)) (((vX12_of s (gI s 257 (a2).toNatClampNeg) (2 : Int32)) - a1)) o6 rfl) (fun wm9 hq9 => ?_)
    subst hq9
    refine JT_aload_n (q := 1) dX12_cuts_44 rfl rfl ?_
    refine JT_iload_n (q := 0) dX12_cuts_45 rfl rfl ?_
    refine JT_iconst (v := 2) dX12_cuts_46 ic_2 ?_
    obtain ⟨o5, h⟩ := h
    refine JS_callVI (M' := MX12_of) (d' := 0) (As := [.int (gI s 257 (a2).toNatClampNeg), .int (2 : Int32)]) (rest := []) (P := (fun zv9 wm9 => (vX12_of (mX12_set s (gI s 257 (a2).toNatClampNeg) (2 : Int32) ((vX12_of s (gI s 257 (a2).toNatClampNeg) (2 : Int32)) - a1)) (gI s 257 (a2).toNatClampNeg) (2 : Int32)) = zv9 ∧ (mX12_set s (gI s 257 (a2).toNatClampNeg) (2 : Int32) ((vX12_of s (gI s 257 (a2).toNatClampNeg) (2 : Int32)) - a1)) = wm9)) dX12_cuts_47 cvX12_265 okX12_of rfl (Nat.le_of_ble_eq_true rfl) BS_248 (Nat.le_of_ble_eq_true rfl) (Nat.le_of_ble_eq_true rfl) hci_12 (Nat.le_of_ble_eq_true rfl) (Nat.le_of_ble_eq_true rfl) (pX12_of  ((gI s 257 (a2).toNatClampNeg)) ((2 : Int32)) o5 ⟨rfl, rfl⟩) (fun zv9 wm9 hq9 => ?_)
    obtain ⟨rfl, rfl⟩ := hq9
    refine JT_if_le (tgt := 56) dX12_cuts_50 (by decide) (fun hc4 => ?_) (fun hc4 => ?_)
    · have h := h.1 hc4
      refine JT_aload_n (q := 1) dX12_cuts_56 rfl rfl ?_
      refine JT_iload_n (q := 0) dX12_cuts_57 rfl rfl ?_
      refine JT_iconst (v := 5) dX12_cuts_58 ic_5 ?_
      refine JT_iconst (v := 2) dX12_cuts_59 ic_2 ?_
      obtain ⟨o3, h⟩ := h
      refine JS_callVV (M' := MX12_set) (d' := 0) (As := [.int (gI s 257 (a2).toNatClampNeg), .int (5 : Int32), .int (2 : Int32)]) (rest := []) (P := (fun wm9 => (mX12_set (mX12_set s (gI s 257 (a2).toNatClampNeg) (2 : Int32) ((vX12_of s (gI s 257 (a2).toNatClampNeg) (2 : Int32)) - a1)) (gI s 257 (a2).toNatClampNeg) (5 : Int32) (2 : Int32)) = wm9)) dX12_cuts_60 cvX12_322 okX12_set rfl (Nat.le_of_ble_eq_true rfl) BS_248 (Nat.le_of_ble_eq_true rfl) (Nat.le_of_ble_eq_true rfl) hci_12 (Nat.le_of_ble_eq_true rfl) (Nat.le_of_ble_eq_true rfl) (pX12_set  ((gI s 257 (a2).toNatClampNeg)) ((5 : Int32)) ((2 : Int32)) o3 rfl) (fun wm9 hq9 => ?_)
      subst hq9
      obtain ⟨s2, hs2⟩ : ∃ z, z = (mX12_set (mX12_set s (gI s 257 (a2).toNatClampNeg) (2 : Int32) ((vX12_of s (gI s 257 (a2).toNatClampNeg) (2 : Int32)) - a1)) (gI s 257 (a2).toNatClampNeg) (5 : Int32) (2 : Int32)) := ⟨_, rfl⟩
      replace h := h s2 hs2
      rw [← hs2]
      refine JT_iconst (v := 0) dX12_cuts_63 ic_0 ?_
      refine JT_istore (lv' := [(4, .int (0 : Int32)), (3, .int (gI s 257 (a2).toNatClampNeg)), (0, .ref 248), (1, .int a1), (2, .int a2)]) dX12_cuts_64 (Nat.le_of_ble_eq_true rfl) rfl ?_
      exact JT_sub [2, 3, 4, 1, 0] rfl h
    · have h := h.2 hc4
      refine JT_goto (tgt := 128) dX12_cuts_53 (by decide) ?_
      refine JT_iinc (q := 3) (v := (a2 + 1)) (lv' := [(2, .int (a2 + 1)), (3, .int (gI s 257 (a2).toNatClampNeg)), (0, .ref 248), (1, .int a1)]) dX12_cuts_128 rfl (by rfl) (Nat.le_of_ble_eq_true rfl) rfl ?_
      refine JT_goto (tgt := 15) dX12_cuts_131 (by decide) ?_
      exact JT_sub [2, 3, 0] rfl h
set_option maxRecDepth 20000 in
theorem bX12_cuts_66 (a1 : Int32) (a2 : Int32) (a3 : Int32) (a4 : Int32) {s : SM} {Q : Int32 → SM → Prop} (h : (((2 : Int32) ≤ a4 → BI MX12_cuts 3 15 [(0, .ref 248), (1, .int a1), (2, .int (a2 + 1))] s Q) ∧ (¬ (2 : Int32) ≤ a4 → rX12_of s a3 ((6 : Int32) + a4) ∧ (((vX12_isLiving s (vX12_of s a3 ((6 : Int32) + a4))) = 0 → BI MX12_cuts 3 111 [(0, .ref 248), (1, .int a1), (2, .int a2), (3, .int a3), (4, .int a4), (5, .int (vX12_of s a3 ((6 : Int32) + a4)))] s Q) ∧ (¬ (vX12_isLiving s (vX12_of s a3 ((6 : Int32) + a4))) = 0 → vp_in ((37 : Int32) + (vX12_of s a3 ((6 : Int32) + a4))) 787 ∧ rX12_dotOf s a3 ∧ vp_in ((37 : Int32) + (vX12_of s a3 ((6 : Int32) + a4))) 787 ∧ (∀ s3, s3 = (pI s 250 (((37 : Int32) + (vX12_of s a3 ((6 : Int32) + a4)))).toNatClampNeg ((gI s 250 (((37 : Int32) + (vX12_of s a3 ((6 : Int32) + a4)))).toNatClampNeg) + (vX12_dotOf s a3))) → BI MX12_cuts 3 111 [(0, .ref 248), (1, .int a1), (2, .int a2), (3, .int a3), (4, .int a4), (5, .int (vX12_of s a3 ((6 : Int32) + a4)))] s3 Q)))))) : BI MX12_cuts 3 66 [(0, .ref 248), (1, .int a1), (2, .int a2), (3, .int a3), (4, .int a4)] s Q := by
  refine JT_iload (q := 4) dX12_cuts_66 rfl ?_
  refine JT_iconst (v := 2) dX12_cuts_68 ic_2 ?_
  refine JT_icmp_ge (tgt := 128) dX12_cuts_69 (by decide) (fun hc8 => ?_) (fun hc8 => ?_)
  · have h := h.1 hc8
    refine JT_iinc (q := 2) (v := (a2 + 1)) (lv' := [(2, .int (a2 + 1)), (0, .ref 248), (1, .int a1), (3, .int a3), (4, .int a4)]) dX12_cuts_128 rfl (by rfl) (Nat.le_of_ble_eq_true rfl) rfl ?_
    refine JT_goto (tgt := 15) dX12_cuts_131 (by decide) ?_
    exact JT_sub [1, 2, 0] rfl h
  · have h := h.2 hc8
    refine JT_aload_n (q := 0) dX12_cuts_72 rfl rfl ?_
    refine JT_iload_n (q := 3) dX12_cuts_73 rfl rfl ?_
    refine JT_bipush (v := 6) dX12_cuts_74 bp_6 ?_
    refine JT_iload (q := 4) dX12_cuts_76 rfl ?_
    refine JT_iadd dX12_cuts_78 ?_
    obtain ⟨o7, h⟩ := h
    refine JS_callVI (M' := MX12_of) (d' := 0) (As := [.int a3, .int ((6 : Int32) + a4)]) (rest := []) (P := (fun zv9 wm9 => (vX12_of s a3 ((6 : Int32) + a4)) = zv9 ∧ s = wm9)) dX12_cuts_79 cvX12_265 okX12_of rfl (Nat.le_of_ble_eq_true rfl) BS_248 (Nat.le_of_ble_eq_true rfl) (Nat.le_of_ble_eq_true rfl) hci_12 (Nat.le_of_ble_eq_true rfl) (Nat.le_of_ble_eq_true rfl) (pX12_of  (a3) (((6 : Int32) + a4)) o7 ⟨rfl, rfl⟩) (fun zv9 wm9 hq9 => ?_)
    obtain ⟨rfl, rfl⟩ := hq9
    refine JT_istore (lv' := [(5, .int (vX12_of s a3 ((6 : Int32) + a4))), (0, .ref 248), (1, .int a1), (2, .int a2), (3, .int a3), (4, .int a4)]) dX12_cuts_82 (Nat.le_of_ble_eq_true rfl) rfl ?_
    refine JT_aload_n (q := 1) dX12_cuts_84 rfl rfl ?_
    refine JT_iload (q := 0) dX12_cuts_85 rfl ?_
    refine JS_callVI (M' := MX12_isLiving) (d' := 1) (As := [.int (vX12_of s a3 ((6 : Int32) + a4))]) (rest := []) (P := (fun zv9 wm9 => (vX12_isLiving s (vX12_of s a3 ((6 : Int32) + a4))) = zv9 ∧ s = wm9)) dX12_cuts_87 cvX12_294 okX12_isLiving rfl (Nat.le_of_ble_eq_true rfl) BS_248 (Nat.le_of_ble_eq_true rfl) (Nat.le_of_ble_eq_true rfl) hci_12 (Nat.le_of_ble_eq_true rfl) (Nat.le_of_ble_eq_true rfl) (pX12_isLiving  ((vX12_of s a3 ((6 : Int32) + a4)))  ⟨rfl, rfl⟩) (fun zv9 wm9 hq9 => ?_)
    obtain ⟨rfl, rfl⟩ := hq9
    refine JT_if_eq (tgt := 111) dX12_cuts_90 (by decide) (fun hc5 => ?_) (fun hc5 => ?_)
    · have h := h.1 hc5
      exact JT_sub [1, 2, 3, 4, 5, 0] rfl h
    · have h := h.2 hc5
      refine JT_aload_n (q := 1) dX12_cuts_93 rfl rfl ?_
      refine JS_getR (x := 250) dX12_cuts_94 flX12_33 BS_248 (Nat.le_of_ble_eq_true rfl) (Nat.le_of_ble_eq_true rfl) (Or.inr ⟨_, ct_12_6⟩) RF_248_6 ?_
      refine JT_bipush (v := 37) dX12_cuts_97 bp_37 ?_
      refine JT_iload (q := 0) dX12_cuts_99 rfl ?_
      refine JT_iadd dX12_cuts_101 ?_
      refine JT_dup2 dX12_cuts_102 rfl rfl ?_
      obtain ⟨o1, h⟩ := h
      refine JS_iald dX12_cuts_103 BS_250 (Nat.le_of_ble_eq_true rfl) (Nat.le_of_ble_eq_true rfl) o1 ?_
      refine JT_aload_n (q := 1) dX12_cuts_104 rfl rfl ?_
      refine JT_iload_n (q := 4) dX12_cuts_105 rfl rfl ?_
      obtain ⟨o4, h⟩ := h
      refine JS_callVI (M' := MX12_dotOf) (d' := 2) (As := [.int a3]) (rest := [.int (gI s 250 (((37 : Int32) + (vX12_of s a3 ((6 : Int32) + a4)))).toNatClampNeg), .int ((37 : Int32) + (vX12_of s a3 ((6 : Int32) + a4))), .ref 250]) (P := (fun zv9 wm9 => (vX12_dotOf s a3) = zv9 ∧ s = wm9)) dX12_cuts_106 cvX12_350 okX12_dotOf rfl (Nat.le_of_ble_eq_true rfl) BS_248 (Nat.le_of_ble_eq_true rfl) (Nat.le_of_ble_eq_true rfl) hci_12 (Nat.le_of_ble_eq_true rfl) (Nat.le_of_ble_eq_true rfl) (pX12_dotOf  (a3) o4 ⟨rfl, rfl⟩) (fun zv9 wm9 hq9 => ?_)
      obtain ⟨rfl, rfl⟩ := hq9
      refine JT_iadd dX12_cuts_109 ?_
      obtain ⟨o2, h⟩ := h
      refine JS_iast dX12_cuts_110 BS_250 (Nat.le_of_ble_eq_true rfl) (Nat.le_of_ble_eq_true rfl) o2 ?_
      obtain ⟨s3, hs3⟩ : ∃ z, z = (pI s 250 (((37 : Int32) + (vX12_of s a3 ((6 : Int32) + a4)))).toNatClampNeg ((gI s 250 (((37 : Int32) + (vX12_of s a3 ((6 : Int32) + a4)))).toNatClampNeg) + (vX12_dotOf s a3))) := ⟨_, rfl⟩
      replace h := h s3 hs3
      rw [← hs3]
      exact JT_sub [1, 2, 3, 4, 5, 0] rfl h
set_option maxRecDepth 20000 in
theorem bX12_cuts_111 (a1 : Int32) (a2 : Int32) (a3 : Int32) (a4 : Int32) (a5 : Int32) {s : SM} {Q : Int32 → SM → Prop} (h : rX12_set s a3 ((6 : Int32) + a4) (-1 : Int32) ∧ BI MX12_cuts 3 66 [(0, .ref 248), (1, .int a1), (2, .int a2), (3, .int a3), (4, .int (a4 + 1))] (mX12_set s a3 ((6 : Int32) + a4) (-1 : Int32)) Q) : BI MX12_cuts 3 111 [(0, .ref 248), (1, .int a1), (2, .int a2), (3, .int a3), (4, .int a4), (5, .int a5)] s Q := by
  refine JT_aload_n (q := 0) dX12_cuts_111 rfl rfl ?_
  refine JT_iload_n (q := 3) dX12_cuts_112 rfl rfl ?_
  refine JT_bipush (v := 6) dX12_cuts_113 bp_6 ?_
  refine JT_iload (q := 4) dX12_cuts_115 rfl ?_
  refine JT_iadd dX12_cuts_117 ?_
  refine JT_iconst (v := -1) dX12_cuts_118 ic_m1 ?_
  obtain ⟨o1, h⟩ := h
  refine JS_callVV (M' := MX12_set) (d' := 0) (As := [.int a3, .int ((6 : Int32) + a4), .int (-1 : Int32)]) (rest := []) (P := (fun wm9 => (mX12_set s a3 ((6 : Int32) + a4) (-1 : Int32)) = wm9)) dX12_cuts_119 cvX12_322 okX12_set rfl (Nat.le_of_ble_eq_true rfl) BS_248 (Nat.le_of_ble_eq_true rfl) (Nat.le_of_ble_eq_true rfl) hci_12 (Nat.le_of_ble_eq_true rfl) (Nat.le_of_ble_eq_true rfl) (pX12_set  (a3) (((6 : Int32) + a4)) ((-1 : Int32)) o1 rfl) (fun wm9 hq9 => ?_)
  subst hq9
  refine JT_iinc (q := 4) (v := (a4 + 1)) (lv' := [(4, .int (a4 + 1)), (0, .ref 248), (1, .int a1), (2, .int a2), (3, .int a3), (5, .int a5)]) dX12_cuts_122 rfl (by rfl) (Nat.le_of_ble_eq_true rfl) rfl ?_
  refine JT_goto (tgt := 66) dX12_cuts_125 (by decide) ?_
  exact JT_sub [1, 2, 3, 4, 0] rfl h
set_option maxRecDepth 20000 in
theorem bX12_cuts  {s : SM} {Q : Int32 → SM → Prop} (h : KI MX12_leastOf 1 [.ref 248, .ref 257, .int (gI s 248 29)] s (fun x2 s1 => BI MX12_cuts 3 15 [(0, .ref 248), (1, .int x2), (2, .int (0 : Int32))] s1 Q)) : KI MX12_cuts 3 [.ref 248] s Q := by
  show BI MX12_cuts 3 0 [(0, .ref 248)] s Q
  refine JT_aload_n (q := 0) dX12_cuts_0 rfl rfl ?_
  refine JT_aload_n (q := 0) dX12_cuts_1 rfl rfl ?_
  refine JS_getR (x := 257) dX12_cuts_2 flX12_56 BS_248 (Nat.le_of_ble_eq_true rfl) (Nat.le_of_ble_eq_true rfl) (Or.inr ⟨_, ct_12_27⟩) RF_248_27 ?_
  refine JT_aload_n (q := 0) dX12_cuts_5 rfl rfl ?_
  refine JS_getI dX12_cuts_6 flX12_362 BS_248 (Nat.le_of_ble_eq_true rfl) (Nat.le_of_ble_eq_true rfl) (Or.inl ct_12_29) ?_
  refine JS_callVI (M' := MX12_leastOf) (d' := 1) (As := [.ref 257, .int (gI s 248 29)]) (rest := []) dX12_cuts_9 cvX12_346 okX12_leastOf rfl (Nat.le_of_ble_eq_true rfl) BS_248 (Nat.le_of_ble_eq_true rfl) (Nat.le_of_ble_eq_true rfl) hci_12 (Nat.le_of_ble_eq_true rfl) (Nat.le_of_ble_eq_true rfl) h (fun x2 s1 h => ?_)
  refine JT_istore_n (lv' := [(1, .int x2), (0, .ref 248)]) dX12_cuts_12 rfl (Nat.le_of_ble_eq_true rfl) rfl ?_
  refine JT_iconst (v := 0) dX12_cuts_13 ic_0 ?_
  refine JT_istore_n (lv' := [(2, .int (0 : Int32)), (1, .int x2), (0, .ref 248)]) dX12_cuts_14 rfl (Nat.le_of_ble_eq_true rfl) rfl ?_
  exact JT_sub [2, 1, 0] rfl h
set_option maxRecDepth 20000 in
theorem bX12_deal (a1 : Int32) (a2 : Int32) {s : SM} {Q : Int32 → SM → Prop} (h : (((vX12_isDeal s a1) = 0 → rX12_throwsIf s (1 : Int32) ∧ (((vX12_throwsIf s (1 : Int32)) = 0 → (((8 : Int32) ≤ a2 → ((¬ a2 = (8 : Int32) → rX12_valueOf (mX12_throwsIf s (1 : Int32)) a1 ∧ Q (vX12_valueOf (mX12_throwsIf s (1 : Int32)) a1) (mX12_throwsIf s (1 : Int32))) ∧ (a2 = (8 : Int32) → rX12_isKnown (mX12_throwsIf s (1 : Int32)) a1 (vX12_living (mX12_throwsIf s (1 : Int32)) ) ∧ Q (if (vX12_isKnown (mX12_throwsIf s (1 : Int32)) a1 (vX12_living (mX12_throwsIf s (1 : Int32)) )) = 0 then (0 : Int32) else (1 : Int32)) (mX12_throwsIf s (1 : Int32))))) ∧ (¬ (8 : Int32) ≤ a2 → rX12_of (mX12_throwsIf s (1 : Int32)) a1 a2 ∧ Q (vX12_of (mX12_throwsIf s (1 : Int32)) a1 a2) (mX12_throwsIf s (1 : Int32))))) ∧ (¬ (vX12_throwsIf s (1 : Int32)) = 0 → Q (0 : Int32) (mX12_throwsIf s (1 : Int32))))) ∧ (¬ (vX12_isDeal s a1) = 0 → rX12_throwsIf s (if (vX12_isIn s a2 (0 : Int32) (9 : Int32)) = 0 then (1 : Int32) else (0 : Int32)) ∧ (((vX12_throwsIf s (if (vX12_isIn s a2 (0 : Int32) (9 : Int32)) = 0 then (1 : Int32) else (0 : Int32))) = 0 → (((8 : Int32) ≤ a2 → ((¬ a2 = (8 : Int32) → rX12_valueOf (mX12_throwsIf s (if (vX12_isIn s a2 (0 : Int32) (9 : Int32)) = 0 then (1 : Int32) else (0 : Int32))) a1 ∧ Q (vX12_valueOf (mX12_throwsIf s (if (vX12_isIn s a2 (0 : Int32) (9 : Int32)) = 0 then (1 : Int32) else (0 : Int32))) a1) (mX12_throwsIf s (if (vX12_isIn s a2 (0 : Int32) (9 : Int32)) = 0 then (1 : Int32) else (0 : Int32)))) ∧ (a2 = (8 : Int32) → rX12_isKnown (mX12_throwsIf s (if (vX12_isIn s a2 (0 : Int32) (9 : Int32)) = 0 then (1 : Int32) else (0 : Int32))) a1 (vX12_living (mX12_throwsIf s (if (vX12_isIn s a2 (0 : Int32) (9 : Int32)) = 0 then (1 : Int32) else (0 : Int32))) ) ∧ Q (if (vX12_isKnown (mX12_throwsIf s (if (vX12_isIn s a2 (0 : Int32) (9 : Int32)) = 0 then (1 : Int32) else (0 : Int32))) a1 (vX12_living (mX12_throwsIf s (if (vX12_isIn s a2 (0 : Int32) (9 : Int32)) = 0 then (1 : Int32) else (0 : Int32))) )) = 0 then (0 : Int32) else (1 : Int32)) (mX12_throwsIf s (if (vX12_isIn s a2 (0 : Int32) (9 : Int32)) = 0 then (1 : Int32) else (0 : Int32)))))) ∧ (¬ (8 : Int32) ≤ a2 → rX12_of (mX12_throwsIf s (if (vX12_isIn s a2 (0 : Int32) (9 : Int32)) = 0 then (1 : Int32) else (0 : Int32))) a1 a2 ∧ Q (vX12_of (mX12_throwsIf s (if (vX12_isIn s a2 (0 : Int32) (9 : Int32)) = 0 then (1 : Int32) else (0 : Int32))) a1 a2) (mX12_throwsIf s (if (vX12_isIn s a2 (0 : Int32) (9 : Int32)) = 0 then (1 : Int32) else (0 : Int32)))))) ∧ (¬ (vX12_throwsIf s (if (vX12_isIn s a2 (0 : Int32) (9 : Int32)) = 0 then (1 : Int32) else (0 : Int32))) = 0 → Q (0 : Int32) (mX12_throwsIf s (if (vX12_isIn s a2 (0 : Int32) (9 : Int32)) = 0 then (1 : Int32) else (0 : Int32)))))))) : KI MX12_deal 3 [.ref 248, .int a1, .int a2] s Q := by
  show BI MX12_deal 3 0 [(0, .ref 248), (1, .int a1), (2, .int a2)] s Q
  refine JT_aload_n (q := 0) dX12_deal_0 rfl rfl ?_
  refine JT_aload_n (q := 0) dX12_deal_1 rfl rfl ?_
  refine JT_iload_n (q := 1) dX12_deal_2 rfl rfl ?_
  refine JS_callVI (M' := MX12_isDeal) (d' := 1) (As := [.int a1]) (rest := [.ref 248]) (P := (fun zv9 wm9 => (vX12_isDeal s a1) = zv9 ∧ s = wm9)) dX12_deal_3 cvX12_262 okX12_isDeal rfl (Nat.le_of_ble_eq_true rfl) BS_248 (Nat.le_of_ble_eq_true rfl) (Nat.le_of_ble_eq_true rfl) hci_12 (Nat.le_of_ble_eq_true rfl) (Nat.le_of_ble_eq_true rfl) (pX12_isDeal  (a1)  ⟨rfl, rfl⟩) (fun zv9 wm9 hq9 => ?_)
  obtain ⟨rfl, rfl⟩ := hq9
  refine JT_if_eq (tgt := 19) dX12_deal_6 (by decide) (fun hc24 => ?_) (fun hc24 => ?_)
  · have h := h.1 hc24
    refine JT_iconst (v := 1) dX12_deal_19 ic_1 ?_
    refine JT_goto (tgt := 24) dX12_deal_20 (by decide) ?_
    obtain ⟨o10, h⟩ := h
    refine JS_callVI (M' := MX12_throwsIf) (d' := 0) (As := [.int (1 : Int32)]) (rest := []) (P := (fun zv9 wm9 => (vX12_throwsIf s (1 : Int32)) = zv9 ∧ (mX12_throwsIf s (1 : Int32)) = wm9)) dX12_deal_24 cvX12_290 okX12_throwsIf rfl (Nat.le_of_ble_eq_true rfl) BS_248 (Nat.le_of_ble_eq_true rfl) (Nat.le_of_ble_eq_true rfl) hci_12 (Nat.le_of_ble_eq_true rfl) (Nat.le_of_ble_eq_true rfl) (pX12_throwsIf  ((1 : Int32)) o10 ⟨rfl, rfl⟩) (fun zv9 wm9 hq9 => ?_)
    obtain ⟨rfl, rfl⟩ := hq9
    refine JT_if_eq (tgt := 32) dX12_deal_27 (by decide) (fun hc9 => ?_) (fun hc9 => ?_)
    · have h := h.1 hc9
      refine JT_iload_n (q := 2) dX12_deal_32 rfl rfl ?_
      refine JT_bipush (v := 8) dX12_deal_33 bp_8 ?_
      refine JT_icmp_ge (tgt := 47) dX12_deal_35 (by decide) (fun hc8 => ?_) (fun hc8 => ?_)
      · have h := h.1 hc8
        refine JT_iload_n (q := 2) dX12_deal_47 rfl rfl ?_
        refine JT_bipush (v := 8) dX12_deal_48 bp_8 ?_
        refine JT_icmp_ne (tgt := 73) dX12_deal_50 (by decide) (fun hc6 => ?_) (fun hc6 => ?_)
        · have h := h.1 hc6
          refine JT_aload_n (q := 0) dX12_deal_73 rfl rfl ?_
          refine JT_iload_n (q := 1) dX12_deal_74 rfl rfl ?_
          obtain ⟨o1, h⟩ := h
          refine JS_callVI (M' := MX12_valueOf) (d' := 2) (As := [.int a1]) (rest := []) (P := (fun zv9 wm9 => (vX12_valueOf (mX12_throwsIf s (1 : Int32)) a1) = zv9 ∧ (mX12_throwsIf s (1 : Int32)) = wm9)) dX12_deal_75 cvX12_281 okX12_valueOf rfl (Nat.le_of_ble_eq_true rfl) BS_248 (Nat.le_of_ble_eq_true rfl) (Nat.le_of_ble_eq_true rfl) hci_12 (Nat.le_of_ble_eq_true rfl) (Nat.le_of_ble_eq_true rfl) (pX12_valueOf  (a1) o1 ⟨rfl, rfl⟩) (fun zv9 wm9 hq9 => ?_)
          obtain ⟨rfl, rfl⟩ := hq9
          exact JS_iret dX12_deal_78 rfl rfl h
        · have h := h.2 hc6
          refine JT_aload_n (q := 0) dX12_deal_53 rfl rfl ?_
          refine JT_iload_n (q := 1) dX12_deal_54 rfl rfl ?_
          refine JT_aload_n (q := 0) dX12_deal_55 rfl rfl ?_
          refine JS_callVI (M' := MX12_living) (d' := 0) (As := []) (rest := [.int a1, .ref 248]) (P := (fun zv9 wm9 => (vX12_living (mX12_throwsIf s (1 : Int32)) ) = zv9 ∧ (mX12_throwsIf s (1 : Int32)) = wm9)) dX12_deal_56 cvX12_309 okX12_living rfl (Nat.le_of_ble_eq_true rfl) BS_248 (Nat.le_of_ble_eq_true rfl) (Nat.le_of_ble_eq_true rfl) hci_12 (Nat.le_of_ble_eq_true rfl) (Nat.le_of_ble_eq_true rfl) (pX12_living    ⟨rfl, rfl⟩) (fun zv9 wm9 hq9 => ?_)
          obtain ⟨rfl, rfl⟩ := hq9
          obtain ⟨o4, h⟩ := h
          refine JS_callVI (M' := MX12_isKnown) (d' := 2) (As := [.int a1, .int (vX12_living (mX12_throwsIf s (1 : Int32)) )]) (rest := []) (P := (fun zv9 wm9 => (vX12_isKnown (mX12_throwsIf s (1 : Int32)) a1 (vX12_living (mX12_throwsIf s (1 : Int32)) )) = zv9 ∧ (mX12_throwsIf s (1 : Int32)) = wm9)) dX12_deal_59 cvX12_312 okX12_isKnown rfl (Nat.le_of_ble_eq_true rfl) BS_248 (Nat.le_of_ble_eq_true rfl) (Nat.le_of_ble_eq_true rfl) hci_12 (Nat.le_of_ble_eq_true rfl) (Nat.le_of_ble_eq_true rfl) (pX12_isKnown  (a1) ((vX12_living (mX12_throwsIf s (1 : Int32)) )) o4 ⟨rfl, rfl⟩) (fun zv9 wm9 hq9 => ?_)
          obtain ⟨rfl, rfl⟩ := hq9
          have hj2 : ∀ v : Int32, v = (if (vX12_isKnown (mX12_throwsIf s (1 : Int32)) a1 (vX12_living (mX12_throwsIf s (1 : Int32)) )) = 0 then (0 : Int32) else (1 : Int32)) → JT MX12_deal 3 0 0 78 [(0, .ref 248), (1, .int a1), (2, .int a2)] [.int v] (std (mX12_throwsIf s (1 : Int32))) (KQ Q) := by
            intro v hv
            subst hv
            exact JS_iret dX12_deal_78 rfl rfl h
          refine JT_if_eq (tgt := 69) dX12_deal_62 (by decide) (fun hc3 => ?_) (fun hc3 => ?_)
          · refine JT_iconst (v := 0) dX12_deal_69 ic_0 ?_
            refine JT_goto (tgt := 78) dX12_deal_70 (by decide) ?_
            exact hj2 _ (by rw [if_pos hc3])
          · refine JT_iconst (v := 1) dX12_deal_65 ic_1 ?_
            refine JT_goto (tgt := 78) dX12_deal_66 (by decide) ?_
            exact hj2 _ (by rw [if_neg hc3])
      · have h := h.2 hc8
        refine JT_aload_n (q := 0) dX12_deal_38 rfl rfl ?_
        refine JT_iload_n (q := 1) dX12_deal_39 rfl rfl ?_
        refine JT_iload_n (q := 2) dX12_deal_40 rfl rfl ?_
        obtain ⟨o7, h⟩ := h
        refine JS_callVI (M' := MX12_of) (d' := 0) (As := [.int a1, .int a2]) (rest := []) (P := (fun zv9 wm9 => (vX12_of (mX12_throwsIf s (1 : Int32)) a1 a2) = zv9 ∧ (mX12_throwsIf s (1 : Int32)) = wm9)) dX12_deal_41 cvX12_265 okX12_of rfl (Nat.le_of_ble_eq_true rfl) BS_248 (Nat.le_of_ble_eq_true rfl) (Nat.le_of_ble_eq_true rfl) hci_12 (Nat.le_of_ble_eq_true rfl) (Nat.le_of_ble_eq_true rfl) (pX12_of  (a1) (a2) o7 ⟨rfl, rfl⟩) (fun zv9 wm9 hq9 => ?_)
        obtain ⟨rfl, rfl⟩ := hq9
        refine JT_goto (tgt := 78) dX12_deal_44 (by decide) ?_
        exact JS_iret dX12_deal_78 rfl rfl h
    · have h := h.2 hc9
      refine JT_iconst (v := 0) dX12_deal_30 ic_0 ?_
      exact JS_iret dX12_deal_31 rfl rfl h
  · have h := h.2 hc24
    refine JT_iload_n (q := 2) dX12_deal_9 rfl rfl ?_
    refine JT_iconst (v := 0) dX12_deal_10 ic_0 ?_
    refine JT_bipush (v := 9) dX12_deal_11 bp_9 ?_
    refine JS_callSI (M' := MX12_isIn) (d' := 0) (As := [.int a2, .int (0 : Int32), .int (9 : Int32)]) (rest := [.ref 248]) (P := (fun zv9 wm9 => (vX12_isIn s a2 (0 : Int32) (9 : Int32)) = zv9 ∧ s = wm9)) dX12_deal_13 cvX12_202 okX12_isIn rfl (Nat.le_of_ble_eq_true rfl) (Nat.le_of_ble_eq_true rfl) (Nat.le_of_ble_eq_true rfl) (pX12_isIn  (a2) ((0 : Int32)) ((9 : Int32))  ⟨rfl, rfl⟩) (fun zv9 wm9 hq9 => ?_)
    obtain ⟨rfl, rfl⟩ := hq9
    have hj21 : ∀ v : Int32, v = (if (vX12_isIn s a2 (0 : Int32) (9 : Int32)) = 0 then (1 : Int32) else (0 : Int32)) → JT MX12_deal 3 0 0 24 [(0, .ref 248), (1, .int a1), (2, .int a2)] [.int v, .ref 248] (std s) (KQ Q) := by
      intro v hv
      subst hv
      obtain ⟨o20, h⟩ := h
      refine JS_callVI (M' := MX12_throwsIf) (d' := 0) (As := [.int (if (vX12_isIn s a2 (0 : Int32) (9 : Int32)) = 0 then (1 : Int32) else (0 : Int32))]) (rest := []) (P := (fun zv9 wm9 => (vX12_throwsIf s (if (vX12_isIn s a2 (0 : Int32) (9 : Int32)) = 0 then (1 : Int32) else (0 : Int32))) = zv9 ∧ (mX12_throwsIf s (if (vX12_isIn s a2 (0 : Int32) (9 : Int32)) = 0 then (1 : Int32) else (0 : Int32))) = wm9)) dX12_deal_24 cvX12_290 okX12_throwsIf rfl (Nat.le_of_ble_eq_true rfl) BS_248 (Nat.le_of_ble_eq_true rfl) (Nat.le_of_ble_eq_true rfl) hci_12 (Nat.le_of_ble_eq_true rfl) (Nat.le_of_ble_eq_true rfl) (pX12_throwsIf  ((if (vX12_isIn s a2 (0 : Int32) (9 : Int32)) = 0 then (1 : Int32) else (0 : Int32))) o20 ⟨rfl, rfl⟩) (fun zv9 wm9 hq9 => ?_)
      obtain ⟨rfl, rfl⟩ := hq9
      refine JT_if_eq (tgt := 32) dX12_deal_27 (by decide) (fun hc19 => ?_) (fun hc19 => ?_)
      · have h := h.1 hc19
        refine JT_iload_n (q := 2) dX12_deal_32 rfl rfl ?_
        refine JT_bipush (v := 8) dX12_deal_33 bp_8 ?_
        refine JT_icmp_ge (tgt := 47) dX12_deal_35 (by decide) (fun hc18 => ?_) (fun hc18 => ?_)
        · have h := h.1 hc18
          refine JT_iload_n (q := 2) dX12_deal_47 rfl rfl ?_
          refine JT_bipush (v := 8) dX12_deal_48 bp_8 ?_
          refine JT_icmp_ne (tgt := 73) dX12_deal_50 (by decide) (fun hc16 => ?_) (fun hc16 => ?_)
          · have h := h.1 hc16
            refine JT_aload_n (q := 0) dX12_deal_73 rfl rfl ?_
            refine JT_iload_n (q := 1) dX12_deal_74 rfl rfl ?_
            obtain ⟨o11, h⟩ := h
            refine JS_callVI (M' := MX12_valueOf) (d' := 2) (As := [.int a1]) (rest := []) (P := (fun zv9 wm9 => (vX12_valueOf (mX12_throwsIf s (if (vX12_isIn s a2 (0 : Int32) (9 : Int32)) = 0 then (1 : Int32) else (0 : Int32))) a1) = zv9 ∧ (mX12_throwsIf s (if (vX12_isIn s a2 (0 : Int32) (9 : Int32)) = 0 then (1 : Int32) else (0 : Int32))) = wm9)) dX12_deal_75 cvX12_281 okX12_valueOf rfl (Nat.le_of_ble_eq_true rfl) BS_248 (Nat.le_of_ble_eq_true rfl) (Nat.le_of_ble_eq_true rfl) hci_12 (Nat.le_of_ble_eq_true rfl) (Nat.le_of_ble_eq_true rfl) (pX12_valueOf  (a1) o11 ⟨rfl, rfl⟩) (fun zv9 wm9 hq9 => ?_)
            obtain ⟨rfl, rfl⟩ := hq9
            exact JS_iret dX12_deal_78 rfl rfl h
          · have h := h.2 hc16
            refine JT_aload_n (q := 0) dX12_deal_53 rfl rfl ?_
            refine JT_iload_n (q := 1) dX12_deal_54 rfl rfl ?_
            refine JT_aload_n (q := 0) dX12_deal_55 rfl rfl ?_
            refine JS_callVI (M' := MX12_living) (d' := 0) (As := []) (rest := [.int a1, .ref 248]) (P := (fun zv9 wm9 => (vX12_living (mX12_throwsIf s (if (vX12_isIn s a2 (0 : Int32) (9 : Int32)) = 0 then (1 : Int32) else (0 : Int32))) ) = zv9 ∧ (mX12_throwsIf s (if (vX12_isIn s a2 (0 : Int32) (9 : Int32)) = 0 then (1 : Int32) else (0 : Int32))) = wm9)) dX12_deal_56 cvX12_309 okX12_living rfl (Nat.le_of_ble_eq_true rfl) BS_248 (Nat.le_of_ble_eq_true rfl) (Nat.le_of_ble_eq_true rfl) hci_12 (Nat.le_of_ble_eq_true rfl) (Nat.le_of_ble_eq_true rfl) (pX12_living    ⟨rfl, rfl⟩) (fun zv9 wm9 hq9 => ?_)
            obtain ⟨rfl, rfl⟩ := hq9
            obtain ⟨o14, h⟩ := h
            refine JS_callVI (M' := MX12_isKnown) (d' := 2) (As := [.int a1, .int (vX12_living (mX12_throwsIf s (if (vX12_isIn s a2 (0 : Int32) (9 : Int32)) = 0 then (1 : Int32) else (0 : Int32))) )]) (rest := []) (P := (fun zv9 wm9 => (vX12_isKnown (mX12_throwsIf s (if (vX12_isIn s a2 (0 : Int32) (9 : Int32)) = 0 then (1 : Int32) else (0 : Int32))) a1 (vX12_living (mX12_throwsIf s (if (vX12_isIn s a2 (0 : Int32) (9 : Int32)) = 0 then (1 : Int32) else (0 : Int32))) )) = zv9 ∧ (mX12_throwsIf s (if (vX12_isIn s a2 (0 : Int32) (9 : Int32)) = 0 then (1 : Int32) else (0 : Int32))) = wm9)) dX12_deal_59 cvX12_312 okX12_isKnown rfl (Nat.le_of_ble_eq_true rfl) BS_248 (Nat.le_of_ble_eq_true rfl) (Nat.le_of_ble_eq_true rfl) hci_12 (Nat.le_of_ble_eq_true rfl) (Nat.le_of_ble_eq_true rfl) (pX12_isKnown  (a1) ((vX12_living (mX12_throwsIf s (if (vX12_isIn s a2 (0 : Int32) (9 : Int32)) = 0 then (1 : Int32) else (0 : Int32))) )) o14 ⟨rfl, rfl⟩) (fun zv9 wm9 hq9 => ?_)
            obtain ⟨rfl, rfl⟩ := hq9
            have hj12 : ∀ v : Int32, v = (if (vX12_isKnown (mX12_throwsIf s (if (vX12_isIn s a2 (0 : Int32) (9 : Int32)) = 0 then (1 : Int32) else (0 : Int32))) a1 (vX12_living (mX12_throwsIf s (if (vX12_isIn s a2 (0 : Int32) (9 : Int32)) = 0 then (1 : Int32) else (0 : Int32))) )) = 0 then (0 : Int32) else (1 : Int32)) → JT MX12_deal 3 0 0 78 [(0, .ref 248), (1, .int a1), (2, .int a2)] [.int v] (std (mX12_throwsIf s (if (vX12_isIn s a2 (0 : Int32) (9 : Int32)) = 0 then (1 : Int32) else (0 : Int32)))) (KQ Q) := by
              intro v hv
              subst hv
              exact JS_iret dX12_deal_78 rfl rfl h
            refine JT_if_eq (tgt := 69) dX12_deal_62 (by decide) (fun hc13 => ?_) (fun hc13 => ?_)
            · refine JT_iconst (v := 0) dX12_deal_69 ic_0 ?_
              refine JT_goto (tgt := 78) dX12_deal_70 (by decide) ?_
              exact hj12 _ (by rw [if_pos hc13])
            · refine JT_iconst (v := 1) dX12_deal_65 ic_1 ?_
              refine JT_goto (tgt := 78) dX12_deal_66 (by decide) ?_
              exact hj12 _ (by rw [if_neg hc13])
        · have h := h.2 hc18
          refine JT_aload_n (q := 0) dX12_deal_38 rfl rfl ?_
          refine JT_iload_n (q := 1) dX12_deal_39 rfl rfl ?_
          refine JT_iload_n (q := 2) dX12_deal_40 rfl rfl ?_
          obtain ⟨o17, h⟩ := h
          refine JS_callVI (M' := MX12_of) (d' := 0) (As := [.int a1, .int a2]) (rest := []) (P := (fun zv9 wm9 => (vX12_of (mX12_throwsIf s (if (vX12_isIn s a2 (0 : Int32) (9 : Int32)) = 0 then (1 : Int32) else (0 : Int32))) a1 a2) = zv9 ∧ (mX12_throwsIf s (if (vX12_isIn s a2 (0 : Int32) (9 : Int32)) = 0 then (1 : Int32) else (0 : Int32))) = wm9)) dX12_deal_41 cvX12_265 okX12_of rfl (Nat.le_of_ble_eq_true rfl) BS_248 (Nat.le_of_ble_eq_true rfl) (Nat.le_of_ble_eq_true rfl) hci_12 (Nat.le_of_ble_eq_true rfl) (Nat.le_of_ble_eq_true rfl) (pX12_of  (a1) (a2) o17 ⟨rfl, rfl⟩) (fun zv9 wm9 hq9 => ?_)
          obtain ⟨rfl, rfl⟩ := hq9
          refine JT_goto (tgt := 78) dX12_deal_44 (by decide) ?_
          exact JS_iret dX12_deal_78 rfl rfl h
      · have h := h.2 hc19
        refine JT_iconst (v := 0) dX12_deal_30 ic_0 ?_
        exact JS_iret dX12_deal_31 rfl rfl h
    refine JT_if_ne (tgt := 23) dX12_deal_16 (by decide) (fun hc22 => ?_) (fun hc22 => ?_)
    · refine JT_iconst (v := 0) dX12_deal_23 ic_0 ?_
      exact hj21 _ (by rw [if_neg hc22])
    · refine JT_iconst (v := 1) dX12_deal_19 ic_1 ?_
      refine JT_goto (tgt := 24) dX12_deal_20 (by decide) ?_
      exact hj21 _ (by rw [if_pos hc22])
set_option maxRecDepth 20000 in
def vX12_deal (s : SM) (a1 : Int32) (a2 : Int32) : Int32 := (if (vX12_isDeal s a1) = 0 then (if (vX12_throwsIf s (1 : Int32)) = 0 then (if (8 : Int32) ≤ a2 then (if a2 = (8 : Int32) then (if (vX12_isKnown (mX12_throwsIf s (1 : Int32)) a1 (vX12_living (mX12_throwsIf s (1 : Int32)) )) = 0 then (0 : Int32) else (1 : Int32)) else (vX12_valueOf (mX12_throwsIf s (1 : Int32)) a1)) else (vX12_of (mX12_throwsIf s (1 : Int32)) a1 a2)) else (0 : Int32)) else (if (vX12_throwsIf s (if (vX12_isIn s a2 (0 : Int32) (9 : Int32)) = 0 then (1 : Int32) else (0 : Int32))) = 0 then (if (8 : Int32) ≤ a2 then (if a2 = (8 : Int32) then (if (vX12_isKnown (mX12_throwsIf s (if (vX12_isIn s a2 (0 : Int32) (9 : Int32)) = 0 then (1 : Int32) else (0 : Int32))) a1 (vX12_living (mX12_throwsIf s (if (vX12_isIn s a2 (0 : Int32) (9 : Int32)) = 0 then (1 : Int32) else (0 : Int32))) )) = 0 then (0 : Int32) else (1 : Int32)) else (vX12_valueOf (mX12_throwsIf s (if (vX12_isIn s a2 (0 : Int32) (9 : Int32)) = 0 then (1 : Int32) else (0 : Int32))) a1)) else (vX12_of (mX12_throwsIf s (if (vX12_isIn s a2 (0 : Int32) (9 : Int32)) = 0 then (1 : Int32) else (0 : Int32))) a1 a2)) else (0 : Int32)))
set_option maxRecDepth 20000 in
def mX12_deal (s : SM) (a1 : Int32) (a2 : Int32) : SM := (if (vX12_isDeal s a1) = 0 then (mX12_throwsIf s (1 : Int32)) else (mX12_throwsIf s (if (vX12_isIn s a2 (0 : Int32) (9 : Int32)) = 0 then (1 : Int32) else (0 : Int32))))
set_option maxRecDepth 20000 in
def rX12_deal (s : SM) (a1 : Int32) (a2 : Int32) : Prop := (((vX12_isDeal s a1) = 0 → rX12_throwsIf s (1 : Int32) ∧ ((vX12_throwsIf s (1 : Int32)) = 0 → (((8 : Int32) ≤ a2 → ((¬ a2 = (8 : Int32) → rX12_valueOf (mX12_throwsIf s (1 : Int32)) a1) ∧ (a2 = (8 : Int32) → rX12_isKnown (mX12_throwsIf s (1 : Int32)) a1 (vX12_living (mX12_throwsIf s (1 : Int32)) )))) ∧ (¬ (8 : Int32) ≤ a2 → rX12_of (mX12_throwsIf s (1 : Int32)) a1 a2)))) ∧ (¬ (vX12_isDeal s a1) = 0 → rX12_throwsIf s (if (vX12_isIn s a2 (0 : Int32) (9 : Int32)) = 0 then (1 : Int32) else (0 : Int32)) ∧ ((vX12_throwsIf s (if (vX12_isIn s a2 (0 : Int32) (9 : Int32)) = 0 then (1 : Int32) else (0 : Int32))) = 0 → (((8 : Int32) ≤ a2 → ((¬ a2 = (8 : Int32) → rX12_valueOf (mX12_throwsIf s (if (vX12_isIn s a2 (0 : Int32) (9 : Int32)) = 0 then (1 : Int32) else (0 : Int32))) a1) ∧ (a2 = (8 : Int32) → rX12_isKnown (mX12_throwsIf s (if (vX12_isIn s a2 (0 : Int32) (9 : Int32)) = 0 then (1 : Int32) else (0 : Int32))) a1 (vX12_living (mX12_throwsIf s (if (vX12_isIn s a2 (0 : Int32) (9 : Int32)) = 0 then (1 : Int32) else (0 : Int32))) )))) ∧ (¬ (8 : Int32) ≤ a2 → rX12_of (mX12_throwsIf s (if (vX12_isIn s a2 (0 : Int32) (9 : Int32)) = 0 then (1 : Int32) else (0 : Int32))) a1 a2)))))
set_option maxRecDepth 20000 in
theorem pX12_deal (a1 : Int32) (a2 : Int32) {s : SM} {Q : Int32 → SM → Prop} (hr : rX12_deal s a1 a2) (h : Q (vX12_deal s a1 a2) (mX12_deal s a1 a2)) : KI MX12_deal 3 [.ref 248, .int a1, .int a2] s Q := by
  refine bX12_deal a1 a2 ?_
  unfold rX12_deal at hr
  unfold vX12_deal mX12_deal at h
  refine ⟨fun c => ?_, fun c => ?_⟩
  · replace hr := hr.1 c
    try simp only [if_pos c] at h
    refine ⟨hr.1, ?_⟩
    replace hr := hr.2
    refine ⟨fun c => ?_, fun c => ?_⟩
    · replace hr := hr c
      try simp only [if_pos c] at h
      refine ⟨fun c => ?_, fun c => ?_⟩
      · replace hr := hr.1 c
        try simp only [if_pos c] at h
        refine ⟨fun c => ?_, fun c => ?_⟩
        · replace hr := hr.1 c
          try simp only [if_neg c] at h
          refine ⟨hr, ?_⟩
          first | exact h | contradiction
        · replace hr := hr.2 c
          try simp only [if_pos c] at h
          refine ⟨hr, ?_⟩
          first | exact h | contradiction
      · replace hr := hr.2 c
        try simp only [if_neg c] at h
        refine ⟨hr, ?_⟩
        first | exact h | contradiction
    · try simp only [if_neg c] at h
      first | exact h | contradiction
  · replace hr := hr.2 c
    try simp only [if_neg c] at h
    refine ⟨hr.1, ?_⟩
    replace hr := hr.2
    refine ⟨fun c => ?_, fun c => ?_⟩
    · replace hr := hr c
      try simp only [if_pos c] at h
      refine ⟨fun c => ?_, fun c => ?_⟩
      · replace hr := hr.1 c
        try simp only [if_pos c] at h
        refine ⟨fun c => ?_, fun c => ?_⟩
        · replace hr := hr.1 c
          try simp only [if_neg c] at h
          refine ⟨hr, ?_⟩
          first | exact h | contradiction
        · replace hr := hr.2 c
          try simp only [if_pos c] at h
          refine ⟨hr, ?_⟩
          first | exact h | contradiction
      · replace hr := hr.2 c
        try simp only [if_neg c] at h
        refine ⟨hr, ?_⟩
        first | exact h | contradiction
    · try simp only [if_neg c] at h
      first | exact h | contradiction
set_option maxRecDepth 20000 in
theorem bX12_freesOf_15 (a1 : Int32) (a2 : Int32) (a3 : Int32) (a4 : Int32) {s : SM} {Q : Int32 → SM → Prop} (h : ((a1 ≤ a4 → Q a3 s) ∧ (¬ a1 ≤ a4 → vp_in a4 5 ∧ rX12_of s (gI s 256 (a4).toNatClampNeg) (2 : Int32) ∧ (((vX12_of s (gI s 256 (a4).toNatClampNeg) (2 : Int32)) = a2 → BI MX12_freesOf 3 43 [(0, .ref 248), (1, .int a1), (2, .int a2), (3, .int a3), (4, .int a4), (5, .int (0 : Int32))] s Q) ∧ (¬ (vX12_of s (gI s 256 (a4).toNatClampNeg) (2 : Int32)) = a2 → BI MX12_freesOf 3 15 [(0, .ref 248), (1, .int a1), (2, .int a2), (3, .int a3), (4, .int (a4 + 1))] s Q))))) : BI MX12_freesOf 3 15 [(0, .ref 248), (1, .int a1), (2, .int a2), (3, .int a3), (4, .int a4)] s Q := by
  refine JT_iload (q := 4) dX12_freesOf_15 rfl ?_
  refine JT_iload_n (q := 1) dX12_freesOf_17 rfl rfl ?_
  refine JT_icmp_ge (tgt := 114) dX12_freesOf_18 (by decide) (fun hc4 => ?_) (fun hc4 => ?_)
  · have h := h.1 hc4
    refine JT_iload_n (q := 3) dX12_freesOf_114 rfl rfl ?_
    exact JS_iret dX12_freesOf_115 rfl rfl h
  · have h := h.2 hc4
    refine JT_aload_n (q := 0) dX12_freesOf_21 rfl rfl ?_
    refine JT_aload_n (q := 0) dX12_freesOf_22 rfl rfl ?_
    refine JS_getR (x := 256) dX12_freesOf_23 flX12_53 BS_248 (Nat.le_of_ble_eq_true rfl) (Nat.le_of_ble_eq_true rfl) (Or.inr ⟨_, ct_12_26⟩) RF_248_26 ?_
    refine JT_iload (q := 4) dX12_freesOf_26 rfl ?_
    obtain ⟨o1, h⟩ := h
    refine JS_iald dX12_freesOf_28 BS_256 (Nat.le_of_ble_eq_true rfl) (Nat.le_of_ble_eq_true rfl) o1 ?_
    refine JT_iconst (v := 2) dX12_freesOf_29 ic_2 ?_
    obtain ⟨o3, h⟩ := h
    refine JS_callVI (M' := MX12_of) (d' := 0) (As := [.int (gI s 256 (a4).toNatClampNeg), .int (2 : Int32)]) (rest := []) (P := (fun zv9 wm9 => (vX12_of s (gI s 256 (a4).toNatClampNeg) (2 : Int32)) = zv9 ∧ s = wm9)) dX12_freesOf_30 cvX12_265 okX12_of rfl (Nat.le_of_ble_eq_true rfl) BS_248 (Nat.le_of_ble_eq_true rfl) (Nat.le_of_ble_eq_true rfl) hci_12 (Nat.le_of_ble_eq_true rfl) (Nat.le_of_ble_eq_true rfl) (pX12_of  ((gI s 256 (a4).toNatClampNeg)) ((2 : Int32)) o3 ⟨rfl, rfl⟩) (fun zv9 wm9 hq9 => ?_)
    obtain ⟨rfl, rfl⟩ := hq9
    refine JT_iload_n (q := 2) dX12_freesOf_33 rfl rfl ?_
    refine JT_icmp_eq (tgt := 40) dX12_freesOf_34 (by decide) (fun hc2 => ?_) (fun hc2 => ?_)
    · have h := h.1 hc2
      refine JT_iconst (v := 0) dX12_freesOf_40 ic_0 ?_
      refine JT_istore (lv' := [(5, .int (0 : Int32)), (0, .ref 248), (1, .int a1), (2, .int a2), (3, .int a3), (4, .int a4)]) dX12_freesOf_41 (Nat.le_of_ble_eq_true rfl) rfl ?_
      exact JT_sub [1, 2, 3, 4, 5, 0] rfl h
    · have h := h.2 hc2
      refine JT_goto (tgt := 108) dX12_freesOf_37 (by decide) ?_
      refine JT_iinc (q := 4) (v := (a4 + 1)) (lv' := [(4, .int (a4 + 1)), (0, .ref 248), (1, .int a1), (2, .int a2), (3, .int a3)]) dX12_freesOf_108 rfl (by rfl) (Nat.le_of_ble_eq_true rfl) rfl ?_
      refine JT_goto (tgt := 15) dX12_freesOf_111 (by decide) ?_
      exact JT_sub [1, 2, 3, 4, 0] rfl h
set_option maxRecDepth 20000 in
theorem bX12_freesOf_43 (a1 : Int32) (a2 : Int32) (a3 : Int32) (a4 : Int32) (a5 : Int32) {s : SM} {Q : Int32 → SM → Prop} (h : (((2 : Int32) ≤ a5 → BI MX12_freesOf 3 15 [(0, .ref 248), (1, .int a1), (2, .int a2), (3, .int a3), (4, .int (a4 + 1))] s Q) ∧ (¬ (2 : Int32) ≤ a5 → vp_in a4 5 ∧ rX12_of s (gI s 256 (a4).toNatClampNeg) ((6 : Int32) + a5) ∧ (((vX12_isLiving s (vX12_of s (gI s 256 (a4).toNatClampNeg) ((6 : Int32) + a5))) = 0 → BI MX12_freesOf 3 43 [(0, .ref 248), (1, .int a1), (2, .int a2), (3, .int (a3 + (0 : Int32))), (4, .int a4), (5, .int (a5 + 1))] s Q) ∧ (¬ (vX12_isLiving s (vX12_of s (gI s 256 (a4).toNatClampNeg) ((6 : Int32) + a5))) = 0 → vp_in a4 5 ∧ rX12_sizeOf s (gI s 256 (a4).toNatClampNeg) ∧ vp_in a4 5 ∧ rX12_dotOf s (gI s 256 (a4).toNatClampNeg) ∧ BI MX12_freesOf 3 43 [(0, .ref 248), (1, .int a1), (2, .int a2), (3, .int (a3 + ((vX12_sizeOf s (gI s 256 (a4).toNatClampNeg)) - (vX12_dotOf s (gI s 256 (a4).toNatClampNeg))))), (4, .int a4), (5, .int (a5 + 1))] s Q))))) : BI MX12_freesOf 3 43 [(0, .ref 248), (1, .int a1), (2, .int a2), (3, .int a3), (4, .int a4), (5, .int a5)] s Q := by
  refine JT_iload (q := 5) dX12_freesOf_43 rfl ?_
  refine JT_iconst (v := 2) dX12_freesOf_45 ic_2 ?_
  refine JT_icmp_ge (tgt := 108) dX12_freesOf_46 (by decide) (fun hc9 => ?_) (fun hc9 => ?_)
  · have h := h.1 hc9
    refine JT_iinc (q := 4) (v := (a4 + 1)) (lv' := [(4, .int (a4 + 1)), (0, .ref 248), (1, .int a1), (2, .int a2), (3, .int a3), (5, .int a5)]) dX12_freesOf_108 rfl (by rfl) (Nat.le_of_ble_eq_true rfl) rfl ?_
    refine JT_goto (tgt := 15) dX12_freesOf_111 (by decide) ?_
    exact JT_sub [1, 2, 3, 4, 0] rfl h
  · have h := h.2 hc9
    refine JT_iload_n (q := 3) dX12_freesOf_49 rfl rfl ?_
    refine JT_aload_n (q := 0) dX12_freesOf_50 rfl rfl ?_
    refine JT_aload_n (q := 0) dX12_freesOf_51 rfl rfl ?_
    refine JT_aload_n (q := 0) dX12_freesOf_52 rfl rfl ?_
    refine JS_getR (x := 256) dX12_freesOf_53 flX12_53 BS_248 (Nat.le_of_ble_eq_true rfl) (Nat.le_of_ble_eq_true rfl) (Or.inr ⟨_, ct_12_26⟩) RF_248_26 ?_
    refine JT_iload (q := 4) dX12_freesOf_56 rfl ?_
    obtain ⟨o1, h⟩ := h
    refine JS_iald dX12_freesOf_58 BS_256 (Nat.le_of_ble_eq_true rfl) (Nat.le_of_ble_eq_true rfl) o1 ?_
    refine JT_bipush (v := 6) dX12_freesOf_59 bp_6 ?_
    refine JT_iload (q := 5) dX12_freesOf_61 rfl ?_
    refine JT_iadd dX12_freesOf_63 ?_
    obtain ⟨o8, h⟩ := h
    refine JS_callVI (M' := MX12_of) (d' := 0) (As := [.int (gI s 256 (a4).toNatClampNeg), .int ((6 : Int32) + a5)]) (rest := [.ref 248, .int a3]) (P := (fun zv9 wm9 => (vX12_of s (gI s 256 (a4).toNatClampNeg) ((6 : Int32) + a5)) = zv9 ∧ s = wm9)) dX12_freesOf_64 cvX12_265 okX12_of rfl (Nat.le_of_ble_eq_true rfl) BS_248 (Nat.le_of_ble_eq_true rfl) (Nat.le_of_ble_eq_true rfl) hci_12 (Nat.le_of_ble_eq_true rfl) (Nat.le_of_ble_eq_true rfl) (pX12_of  ((gI s 256 (a4).toNatClampNeg)) (((6 : Int32) + a5)) o8 ⟨rfl, rfl⟩) (fun zv9 wm9 hq9 => ?_)
    obtain ⟨rfl, rfl⟩ := hq9
    refine JS_callVI (M' := MX12_isLiving) (d' := 1) (As := [.int (vX12_of s (gI s 256 (a4).toNatClampNeg) ((6 : Int32) + a5))]) (rest := [.int a3]) (P := (fun zv9 wm9 => (vX12_isLiving s (vX12_of s (gI s 256 (a4).toNatClampNeg) ((6 : Int32) + a5))) = zv9 ∧ s = wm9)) dX12_freesOf_67 cvX12_294 okX12_isLiving rfl (Nat.le_of_ble_eq_true rfl) BS_248 (Nat.le_of_ble_eq_true rfl) (Nat.le_of_ble_eq_true rfl) hci_12 (Nat.le_of_ble_eq_true rfl) (Nat.le_of_ble_eq_true rfl) (pX12_isLiving  ((vX12_of s (gI s 256 (a4).toNatClampNeg) ((6 : Int32) + a5)))  ⟨rfl, rfl⟩) (fun zv9 wm9 hq9 => ?_)
    obtain ⟨rfl, rfl⟩ := hq9
    refine JT_if_eq (tgt := 99) dX12_freesOf_70 (by decide) (fun hc6 => ?_) (fun hc6 => ?_)
    · have h := h.1 hc6
      refine JT_iconst (v := 0) dX12_freesOf_99 ic_0 ?_
      refine JT_iadd dX12_freesOf_100 ?_
      refine JT_istore_n (lv' := [(3, .int (a3 + (0 : Int32))), (0, .ref 248), (1, .int a1), (2, .int a2), (4, .int a4), (5, .int a5)]) dX12_freesOf_101 rfl (Nat.le_of_ble_eq_true rfl) rfl ?_
      refine JT_iinc (q := 5) (v := (a5 + 1)) (lv' := [(5, .int (a5 + 1)), (3, .int (a3 + (0 : Int32))), (0, .ref 248), (1, .int a1), (2, .int a2), (4, .int a4)]) dX12_freesOf_102 rfl (by rfl) (Nat.le_of_ble_eq_true rfl) rfl ?_
      refine JT_goto (tgt := 43) dX12_freesOf_105 (by decide) ?_
      exact JT_sub [2, 3, 4, 1, 5, 0] rfl h
    · have h := h.2 hc6
      refine JT_aload_n (q := 0) dX12_freesOf_73 rfl rfl ?_
      refine JT_aload_n (q := 0) dX12_freesOf_74 rfl rfl ?_
      refine JS_getR (x := 256) dX12_freesOf_75 flX12_53 BS_248 (Nat.le_of_ble_eq_true rfl) (Nat.le_of_ble_eq_true rfl) (Or.inr ⟨_, ct_12_26⟩) RF_248_26 ?_
      refine JT_iload (q := 4) dX12_freesOf_78 rfl ?_
      obtain ⟨o2, h⟩ := h
      refine JS_iald dX12_freesOf_80 BS_256 (Nat.le_of_ble_eq_true rfl) (Nat.le_of_ble_eq_true rfl) o2 ?_
      obtain ⟨o5, h⟩ := h
      refine JS_callVI (M' := MX12_sizeOf) (d' := 1) (As := [.int (gI s 256 (a4).toNatClampNeg)]) (rest := [.int a3]) (P := (fun zv9 wm9 => (vX12_sizeOf s (gI s 256 (a4).toNatClampNeg)) = zv9 ∧ s = wm9)) dX12_freesOf_81 cvX12_268 okX12_sizeOf rfl (Nat.le_of_ble_eq_true rfl) BS_248 (Nat.le_of_ble_eq_true rfl) (Nat.le_of_ble_eq_true rfl) hci_12 (Nat.le_of_ble_eq_true rfl) (Nat.le_of_ble_eq_true rfl) (pX12_sizeOf  ((gI s 256 (a4).toNatClampNeg)) o5 ⟨rfl, rfl⟩) (fun zv9 wm9 hq9 => ?_)
      obtain ⟨rfl, rfl⟩ := hq9
      refine JT_aload_n (q := 0) dX12_freesOf_84 rfl rfl ?_
      refine JT_aload_n (q := 0) dX12_freesOf_85 rfl rfl ?_
      refine JS_getR (x := 256) dX12_freesOf_86 flX12_53 BS_248 (Nat.le_of_ble_eq_true rfl) (Nat.le_of_ble_eq_true rfl) (Or.inr ⟨_, ct_12_26⟩) RF_248_26 ?_
      refine JT_iload (q := 4) dX12_freesOf_89 rfl ?_
      obtain ⟨o3, h⟩ := h
      refine JS_iald dX12_freesOf_91 BS_256 (Nat.le_of_ble_eq_true rfl) (Nat.le_of_ble_eq_true rfl) o3 ?_
      obtain ⟨o4, h⟩ := h
      refine JS_callVI (M' := MX12_dotOf) (d' := 2) (As := [.int (gI s 256 (a4).toNatClampNeg)]) (rest := [.int (vX12_sizeOf s (gI s 256 (a4).toNatClampNeg)), .int a3]) (P := (fun zv9 wm9 => (vX12_dotOf s (gI s 256 (a4).toNatClampNeg)) = zv9 ∧ s = wm9)) dX12_freesOf_92 cvX12_350 okX12_dotOf rfl (Nat.le_of_ble_eq_true rfl) BS_248 (Nat.le_of_ble_eq_true rfl) (Nat.le_of_ble_eq_true rfl) hci_12 (Nat.le_of_ble_eq_true rfl) (Nat.le_of_ble_eq_true rfl) (pX12_dotOf  ((gI s 256 (a4).toNatClampNeg)) o4 ⟨rfl, rfl⟩) (fun zv9 wm9 hq9 => ?_)
      obtain ⟨rfl, rfl⟩ := hq9
      refine JT_isub dX12_freesOf_95 ?_
      refine JT_goto (tgt := 100) dX12_freesOf_96 (by decide) ?_
      refine JT_iadd dX12_freesOf_100 ?_
      refine JT_istore_n (lv' := [(3, .int (a3 + ((vX12_sizeOf s (gI s 256 (a4).toNatClampNeg)) - (vX12_dotOf s (gI s 256 (a4).toNatClampNeg))))), (0, .ref 248), (1, .int a1), (2, .int a2), (4, .int a4), (5, .int a5)]) dX12_freesOf_101 rfl (Nat.le_of_ble_eq_true rfl) rfl ?_
      refine JT_iinc (q := 5) (v := (a5 + 1)) (lv' := [(5, .int (a5 + 1)), (3, .int (a3 + ((vX12_sizeOf s (gI s 256 (a4).toNatClampNeg)) - (vX12_dotOf s (gI s 256 (a4).toNatClampNeg))))), (0, .ref 248), (1, .int a1), (2, .int a2), (4, .int a4)]) dX12_freesOf_102 rfl (by rfl) (Nat.le_of_ble_eq_true rfl) rfl ?_
      refine JT_goto (tgt := 43) dX12_freesOf_105 (by decide) ?_
      exact JT_sub [2, 3, 4, 1, 5, 0] rfl h
set_option maxRecDepth 20000 in
theorem bX12_freesOf (a1 : Int32) {s : SM} {Q : Int32 → SM → Prop} (h : KI MX12_leastOf 1 [.ref 248, .ref 256, .int a1] s (fun x2 s1 => BI MX12_freesOf 3 15 [(0, .ref 248), (1, .int a1), (2, .int x2), (3, .int (0 : Int32)), (4, .int (0 : Int32))] s1 Q)) : KI MX12_freesOf 3 [.ref 248, .int a1] s Q := by
  show BI MX12_freesOf 3 0 [(0, .ref 248), (1, .int a1)] s Q
  refine JT_aload_n (q := 0) dX12_freesOf_0 rfl rfl ?_
  refine JT_aload_n (q := 0) dX12_freesOf_1 rfl rfl ?_
  refine JS_getR (x := 256) dX12_freesOf_2 flX12_53 BS_248 (Nat.le_of_ble_eq_true rfl) (Nat.le_of_ble_eq_true rfl) (Or.inr ⟨_, ct_12_26⟩) RF_248_26 ?_
  refine JT_iload_n (q := 1) dX12_freesOf_5 rfl rfl ?_
  refine JS_callVI (M' := MX12_leastOf) (d' := 1) (As := [.ref 256, .int a1]) (rest := []) dX12_freesOf_6 cvX12_346 okX12_leastOf rfl (Nat.le_of_ble_eq_true rfl) BS_248 (Nat.le_of_ble_eq_true rfl) (Nat.le_of_ble_eq_true rfl) hci_12 (Nat.le_of_ble_eq_true rfl) (Nat.le_of_ble_eq_true rfl) h (fun x2 s1 h => ?_)
  refine JT_istore_n (lv' := [(2, .int x2), (0, .ref 248), (1, .int a1)]) dX12_freesOf_9 rfl (Nat.le_of_ble_eq_true rfl) rfl ?_
  refine JT_iconst (v := 0) dX12_freesOf_10 ic_0 ?_
  refine JT_istore_n (lv' := [(3, .int (0 : Int32)), (2, .int x2), (0, .ref 248), (1, .int a1)]) dX12_freesOf_11 rfl (Nat.le_of_ble_eq_true rfl) rfl ?_
  refine JT_iconst (v := 0) dX12_freesOf_12 ic_0 ?_
  refine JT_istore (lv' := [(4, .int (0 : Int32)), (3, .int (0 : Int32)), (2, .int x2), (0, .ref 248), (1, .int a1)]) dX12_freesOf_13 (Nat.le_of_ble_eq_true rfl) rfl ?_
  exact JT_sub [3, 4, 2, 1, 0] rfl h
set_option maxRecDepth 20000 in
theorem bX12_fullest_18 (a1 : Int32) (a2 : Int32) (a3 : Int32) {s : SM} {Q : Int32 → SM → Prop} (h : ((a2 = 0 → Q (-1 : Int32) s) ∧ (¬ a2 = 0 → BI MX12_fullest 3 28 [(0, .ref 248), (1, .int a1), (2, .int a2), (3, .int a3), (4, .int (-1 : Int32)), (5, .int (0 : Int32))] s Q))) : BI MX12_fullest 3 18 [(0, .ref 248), (1, .int a1), (2, .int a2), (3, .int a3)] s Q := by
  refine JT_iload_n (q := 2) dX12_fullest_18 rfl rfl ?_
  refine JT_if_eq (tgt := 101) dX12_fullest_19 (by decide) (fun hc1 => ?_) (fun hc1 => ?_)
  · have h := h.1 hc1
    refine JT_iconst (v := -1) dX12_fullest_101 ic_m1 ?_
    exact JS_iret dX12_fullest_102 rfl rfl h
  · have h := h.2 hc1
    refine JT_iconst (v := -1) dX12_fullest_22 ic_m1 ?_
    refine JT_istore (lv' := [(4, .int (-1 : Int32)), (0, .ref 248), (1, .int a1), (2, .int a2), (3, .int a3)]) dX12_fullest_23 (Nat.le_of_ble_eq_true rfl) rfl ?_
    refine JT_iconst (v := 0) dX12_fullest_25 ic_0 ?_
    refine JT_istore (lv' := [(5, .int (0 : Int32)), (4, .int (-1 : Int32)), (0, .ref 248), (1, .int a1), (2, .int a2), (3, .int a3)]) dX12_fullest_26 (Nat.le_of_ble_eq_true rfl) rfl ?_
    exact JT_sub [2, 3, 4, 5, 1, 0] rfl h
set_option maxRecDepth 20000 in
theorem bX12_fullest_28 (a1 : Int32) (a2 : Int32) (a3 : Int32) (a4 : Int32) (a5 : Int32) {s : SM} {Q : Int32 → SM → Prop} (h : (((gI s 250 ((0 : Int32)).toNatClampNeg) ≤ a5 → ((¬ a3 = a1 → BI MX12_fullest 3 18 [(0, .ref 248), (1, .int a1), (2, .int (a2 &&& (((1 : Int32) <<< (a4 &&& 31)) ^^^ (-1 : Int32)))), (3, .int (a3 + 1))] s Q) ∧ (a3 = a1 → Q a4 s))) ∧ (¬ (gI s 250 ((0 : Int32)).toNatClampNeg) ≤ a5 → (((vX12_has s a2 a5) = 0 → BI MX12_fullest 3 28 [(0, .ref 248), (1, .int a1), (2, .int a2), (3, .int a3), (4, .int a4), (5, .int (a5 + 1))] s Q) ∧ (¬ (vX12_has s a2 a5) = 0 → ((a4 < 0 → BI MX12_fullest 3 28 [(0, .ref 248), (1, .int a1), (2, .int a2), (3, .int a3), (4, .int a5), (5, .int (a5 + 1))] s Q) ∧ (¬ a4 < 0 → KI MX12_leftOf 2 [.ref 248, .int a5] s (fun x3 s2 => KI MX12_leftOf 2 [.ref 248, .int a4] s2 (fun x5 s4 => ((x5 ≤ x3 → BI MX12_fullest 3 28 [(0, .ref 248), (1, .int a1), (2, .int a2), (3, .int a3), (4, .int a4), (5, .int (a5 + 1))] s4 Q) ∧ (¬ x5 ≤ x3 → BI MX12_fullest 3 28 [(0, .ref 248), (1, .int a1), (2, .int a2), (3, .int a3), (4, .int a5), (5, .int (a5 + 1))] s4 Q))))))))))) : BI MX12_fullest 3 28 [(0, .ref 248), (1, .int a1), (2, .int a2), (3, .int a3), (4, .int a4), (5, .int a5)] s Q := by
  refine JT_iload (q := 5) dX12_fullest_28 rfl ?_
  refine JT_aload_n (q := 0) dX12_fullest_30 rfl rfl ?_
  refine JS_getR (x := 250) dX12_fullest_31 flX12_33 BS_248 (Nat.le_of_ble_eq_true rfl) (Nat.le_of_ble_eq_true rfl) (Or.inr ⟨_, ct_12_6⟩) RF_248_6 ?_
  refine JT_iconst (v := 0) dX12_fullest_34 ic_0 ?_
  refine JS_iald dX12_fullest_35 BS_250 (Nat.le_of_ble_eq_true rfl) (Nat.le_of_ble_eq_true rfl) (by unfold vp_in; decide) ?_
  refine JT_icmp_ge (tgt := 78) dX12_fullest_36 (by decide) (fun hc10 => ?_) (fun hc10 => ?_)
  · have h := h.1 hc10
    refine JT_iload_n (q := 3) dX12_fullest_78 rfl rfl ?_
    refine JT_iload_n (q := 1) dX12_fullest_79 rfl rfl ?_
    refine JT_icmp_ne (tgt := 86) dX12_fullest_80 (by decide) (fun hc1 => ?_) (fun hc1 => ?_)
    · have h := h.1 hc1
      refine JT_iload_n (q := 2) dX12_fullest_86 rfl rfl ?_
      refine JT_iconst (v := 1) dX12_fullest_87 ic_1 ?_
      refine JT_iload (q := 4) dX12_fullest_88 rfl ?_
      refine JT_ishl dX12_fullest_90 ?_
      refine JT_iconst (v := -1) dX12_fullest_91 ic_m1 ?_
      refine JT_ixor dX12_fullest_92 ?_
      refine JT_iand dX12_fullest_93 ?_
      refine JT_istore_n (lv' := [(2, .int (a2 &&& (((1 : Int32) <<< (a4 &&& 31)) ^^^ (-1 : Int32)))), (0, .ref 248), (1, .int a1), (3, .int a3), (4, .int a4), (5, .int a5)]) dX12_fullest_94 rfl (Nat.le_of_ble_eq_true rfl) rfl ?_
      refine JT_iinc (q := 3) (v := (a3 + 1)) (lv' := [(3, .int (a3 + 1)), (2, .int (a2 &&& (((1 : Int32) <<< (a4 &&& 31)) ^^^ (-1 : Int32)))), (0, .ref 248), (1, .int a1), (4, .int a4), (5, .int a5)]) dX12_fullest_95 rfl (by rfl) (Nat.le_of_ble_eq_true rfl) rfl ?_
      refine JT_goto (tgt := 18) dX12_fullest_98 (by decide) ?_
      exact JT_sub [2, 3, 1, 0] rfl h
    · have h := h.2 hc1
      refine JT_iload (q := 4) dX12_fullest_83 rfl ?_
      exact JS_iret dX12_fullest_85 rfl rfl h
  · have h := h.2 hc10
    refine JT_iload_n (q := 2) dX12_fullest_39 rfl rfl ?_
    refine JT_iload (q := 5) dX12_fullest_40 rfl ?_
    refine JS_callSI (M' := MX12_has) (d' := 0) (As := [.int a2, .int a5]) (rest := []) (P := (fun zv9 wm9 => (vX12_has s a2 a5) = zv9 ∧ s = wm9)) dX12_fullest_42 cvX12_259 okX12_has rfl (Nat.le_of_ble_eq_true rfl) (Nat.le_of_ble_eq_true rfl) (Nat.le_of_ble_eq_true rfl) (pX12_has  (a2) (a5)  ⟨rfl, rfl⟩) (fun zv9 wm9 hq9 => ?_)
    obtain ⟨rfl, rfl⟩ := hq9
    refine JT_if_eq (tgt := 72) dX12_fullest_45 (by decide) (fun hc8 => ?_) (fun hc8 => ?_)
    · have h := h.1 hc8
      refine JT_iinc (q := 5) (v := (a5 + 1)) (lv' := [(5, .int (a5 + 1)), (0, .ref 248), (1, .int a1), (2, .int a2), (3, .int a3), (4, .int a4)]) dX12_fullest_72 rfl (by rfl) (Nat.le_of_ble_eq_true rfl) rfl ?_
      refine JT_goto (tgt := 28) dX12_fullest_75 (by decide) ?_
      exact JT_sub [1, 2, 3, 4, 5, 0] rfl h
    · have h := h.2 hc8
      refine JT_iload (q := 4) dX12_fullest_48 rfl ?_
      refine JT_if_lt (tgt := 68) dX12_fullest_50 (by decide) (fun hc7 => ?_) (fun hc7 => ?_)
      · have h := h.1 hc7
        refine JT_iload (q := 5) dX12_fullest_68 rfl ?_
        refine JT_istore (lv' := [(4, .int a5), (0, .ref 248), (1, .int a1), (2, .int a2), (3, .int a3), (5, .int a5)]) dX12_fullest_70 (Nat.le_of_ble_eq_true rfl) rfl ?_
        refine JT_iinc (q := 5) (v := (a5 + 1)) (lv' := [(5, .int (a5 + 1)), (4, .int a5), (0, .ref 248), (1, .int a1), (2, .int a2), (3, .int a3)]) dX12_fullest_72 rfl (by rfl) (Nat.le_of_ble_eq_true rfl) rfl ?_
        refine JT_goto (tgt := 28) dX12_fullest_75 (by decide) ?_
        exact JT_sub [2, 3, 4, 5, 1, 0] rfl h
      · have h := h.2 hc7
        refine JT_aload_n (q := 0) dX12_fullest_53 rfl rfl ?_
        refine JT_iload (q := 5) dX12_fullest_54 rfl ?_
        refine JS_callVI (M' := MX12_leftOf) (d' := 2) (As := [.int a5]) (rest := []) dX12_fullest_56 cvX12_297 okX12_leftOf rfl (Nat.le_of_ble_eq_true rfl) BS_248 (Nat.le_of_ble_eq_true rfl) (Nat.le_of_ble_eq_true rfl) hci_12 (Nat.le_of_ble_eq_true rfl) (Nat.le_of_ble_eq_true rfl) h (fun x3 s2 h => ?_)
        refine JT_aload_n (q := 0) dX12_fullest_59 rfl rfl ?_
        refine JT_iload (q := 4) dX12_fullest_60 rfl ?_
        refine JS_callVI (M' := MX12_leftOf) (d' := 2) (As := [.int a4]) (rest := [.int x3]) dX12_fullest_62 cvX12_297 okX12_leftOf rfl (Nat.le_of_ble_eq_true rfl) BS_248 (Nat.le_of_ble_eq_true rfl) (Nat.le_of_ble_eq_true rfl) hci_12 (Nat.le_of_ble_eq_true rfl) (Nat.le_of_ble_eq_true rfl) h (fun x5 s4 h => ?_)
        refine JT_icmp_ge (tgt := 72) dX12_fullest_65 (by decide) (fun hc6 => ?_) (fun hc6 => ?_)
        · have h := h.1 hc6
          refine JT_iinc (q := 5) (v := (a5 + 1)) (lv' := [(5, .int (a5 + 1)), (0, .ref 248), (1, .int a1), (2, .int a2), (3, .int a3), (4, .int a4)]) dX12_fullest_72 rfl (by rfl) (Nat.le_of_ble_eq_true rfl) rfl ?_
          refine JT_goto (tgt := 28) dX12_fullest_75 (by decide) ?_
          exact JT_sub [1, 2, 3, 4, 5, 0] rfl h
        · have h := h.2 hc6
          refine JT_iload (q := 5) dX12_fullest_68 rfl ?_
          refine JT_istore (lv' := [(4, .int a5), (0, .ref 248), (1, .int a1), (2, .int a2), (3, .int a3), (5, .int a5)]) dX12_fullest_70 (Nat.le_of_ble_eq_true rfl) rfl ?_
          refine JT_iinc (q := 5) (v := (a5 + 1)) (lv' := [(5, .int (a5 + 1)), (4, .int a5), (0, .ref 248), (1, .int a1), (2, .int a2), (3, .int a3)]) dX12_fullest_72 rfl (by rfl) (Nat.le_of_ble_eq_true rfl) rfl ?_
          refine JT_goto (tgt := 28) dX12_fullest_75 (by decide) ?_
          exact JT_sub [2, 3, 4, 5, 1, 0] rfl h
set_option maxRecDepth 20000 in
theorem bX12_fullest (a1 : Int32) {s : SM} {Q : Int32 → SM → Prop} (h : ((0 ≤ a1 → BI MX12_fullest 3 18 [(0, .ref 248), (1, .int a1), (2, .int (vX12_living (pI s 248 0 (0 : Int32)) )), (3, .int (0 : Int32))] (pI s 248 0 (0 : Int32)) Q) ∧ (¬ 0 ≤ a1 → Q (-1 : Int32) (pI s 248 0 (0 : Int32))))) : KI MX12_fullest 3 [.ref 248, .int a1] s Q := by
  show BI MX12_fullest 3 0 [(0, .ref 248), (1, .int a1)] s Q
  refine JT_aload_n (q := 0) dX12_fullest_0 rfl rfl ?_
  refine JT_iconst (v := 0) dX12_fullest_1 ic_0 ?_
  refine JS_putI dX12_fullest_2 flX12_1 BS_248 (Nat.le_of_ble_eq_true rfl) (Nat.le_of_ble_eq_true rfl) ct_12_0 ?_
  refine JT_iload_n (q := 1) dX12_fullest_5 rfl rfl ?_
  refine JT_if_ge (tgt := 11) dX12_fullest_6 (by decide) (fun hc2 => ?_) (fun hc2 => ?_)
  · have h := h.1 hc2
    refine JT_aload_n (q := 0) dX12_fullest_11 rfl rfl ?_
    refine JS_callVI (M' := MX12_living) (d' := 0) (As := []) (rest := []) (P := (fun zv9 wm9 => (vX12_living (pI s 248 0 (0 : Int32)) ) = zv9 ∧ (pI s 248 0 (0 : Int32)) = wm9)) dX12_fullest_12 cvX12_309 okX12_living rfl (Nat.le_of_ble_eq_true rfl) BS_248 (Nat.le_of_ble_eq_true rfl) (Nat.le_of_ble_eq_true rfl) hci_12 (Nat.le_of_ble_eq_true rfl) (Nat.le_of_ble_eq_true rfl) (pX12_living    ⟨rfl, rfl⟩) (fun zv9 wm9 hq9 => ?_)
    obtain ⟨rfl, rfl⟩ := hq9
    refine JT_istore_n (lv' := [(2, .int (vX12_living (pI s 248 0 (0 : Int32)) )), (0, .ref 248), (1, .int a1)]) dX12_fullest_15 rfl (Nat.le_of_ble_eq_true rfl) rfl ?_
    refine JT_iconst (v := 0) dX12_fullest_16 ic_0 ?_
    refine JT_istore_n (lv' := [(3, .int (0 : Int32)), (2, .int (vX12_living (pI s 248 0 (0 : Int32)) )), (0, .ref 248), (1, .int a1)]) dX12_fullest_17 rfl (Nat.le_of_ble_eq_true rfl) rfl ?_
    exact JT_sub [2, 3, 1, 0] rfl h
  · have h := h.2 hc2
    refine JT_iconst (v := -1) dX12_fullest_9 ic_m1 ?_
    exact JS_iret dX12_fullest_10 rfl rfl h
set_option maxRecDepth 20000 in
theorem bX12_greatest_7 (a1 : Int32) (a2 : Int32) {s : SM} {Q : Int32 → SM → Prop} (h : (((gI s 250 ((34 : Int32)).toNatClampNeg) ≤ a2 → Q (-1 : Int32) s) ∧ (¬ (gI s 250 ((34 : Int32)).toNatClampNeg) ≤ a2 → rX12_isOpen s a2 ∧ ((¬ (vX12_isOpen s a2) = 0 → BI MX12_greatest 3 34 [(0, .ref 248), (1, .int a1), (2, .int a2), (3, .int (0 : Int32)), (4, .int (0 : Int32))] s Q) ∧ ((vX12_isOpen s a2) = 0 → BI MX12_greatest 3 7 [(0, .ref 248), (1, .int a1), (2, .int (a2 + 1))] s Q))))) : BI MX12_greatest 3 7 [(0, .ref 248), (1, .int a1), (2, .int a2)] s Q := by
  refine JT_iload_n (q := 2) dX12_greatest_7 rfl rfl ?_
  refine JT_aload_n (q := 0) dX12_greatest_8 rfl rfl ?_
  refine JS_getR (x := 250) dX12_greatest_9 flX12_33 BS_248 (Nat.le_of_ble_eq_true rfl) (Nat.le_of_ble_eq_true rfl) (Or.inr ⟨_, ct_12_6⟩) RF_248_6 ?_
  refine JT_bipush (v := 34) dX12_greatest_12 bp_34 ?_
  refine JS_iald dX12_greatest_14 BS_250 (Nat.le_of_ble_eq_true rfl) (Nat.le_of_ble_eq_true rfl) (by unfold vp_in; decide) ?_
  refine JT_icmp_ge (tgt := 116) dX12_greatest_15 (by decide) (fun hc3 => ?_) (fun hc3 => ?_)
  · have h := h.1 hc3
    refine JT_iconst (v := -1) dX12_greatest_116 ic_m1 ?_
    exact JS_iret dX12_greatest_117 rfl rfl h
  · have h := h.2 hc3
    refine JT_aload_n (q := 0) dX12_greatest_18 rfl rfl ?_
    refine JT_iload_n (q := 2) dX12_greatest_19 rfl rfl ?_
    obtain ⟨o2, h⟩ := h
    refine JS_callVI (M' := MX12_isOpen) (d' := 2) (As := [.int a2]) (rest := []) (P := (fun zv9 wm9 => (vX12_isOpen s a2) = zv9 ∧ s = wm9)) dX12_greatest_20 cvX12_278 okX12_isOpen rfl (Nat.le_of_ble_eq_true rfl) BS_248 (Nat.le_of_ble_eq_true rfl) (Nat.le_of_ble_eq_true rfl) hci_12 (Nat.le_of_ble_eq_true rfl) (Nat.le_of_ble_eq_true rfl) (pX12_isOpen  (a2) o2 ⟨rfl, rfl⟩) (fun zv9 wm9 hq9 => ?_)
    obtain ⟨rfl, rfl⟩ := hq9
    refine JT_if_ne (tgt := 29) dX12_greatest_23 (by decide) (fun hc1 => ?_) (fun hc1 => ?_)
    · have h := h.1 hc1
      refine JT_iconst (v := 0) dX12_greatest_29 ic_0 ?_
      refine JT_istore_n (lv' := [(3, .int (0 : Int32)), (0, .ref 248), (1, .int a1), (2, .int a2)]) dX12_greatest_30 rfl (Nat.le_of_ble_eq_true rfl) rfl ?_
      refine JT_iconst (v := 0) dX12_greatest_31 ic_0 ?_
      refine JT_istore (lv' := [(4, .int (0 : Int32)), (3, .int (0 : Int32)), (0, .ref 248), (1, .int a1), (2, .int a2)]) dX12_greatest_32 (Nat.le_of_ble_eq_true rfl) rfl ?_
      exact JT_sub [2, 3, 4, 1, 0] rfl h
    · have h := h.2 hc1
      refine JT_goto (tgt := 110) dX12_greatest_26 (by decide) ?_
      refine JT_iinc (q := 2) (v := (a2 + 1)) (lv' := [(2, .int (a2 + 1)), (0, .ref 248), (1, .int a1)]) dX12_greatest_110 rfl (by rfl) (Nat.le_of_ble_eq_true rfl) rfl ?_
      refine JT_goto (tgt := 7) dX12_greatest_113 (by decide) ?_
      exact JT_sub [1, 2, 0] rfl h
set_option maxRecDepth 20000 in
theorem bX12_greatest_34 (a1 : Int32) (a2 : Int32) (a3 : Int32) (a4 : Int32) {s : SM} {Q : Int32 → SM → Prop} (h : (((gI s 250 ((34 : Int32)).toNatClampNeg) ≤ a4 → ((¬ a3 = a1 → BI MX12_greatest 3 7 [(0, .ref 248), (1, .int a1), (2, .int (a2 + 1))] s Q) ∧ (a3 = a1 → Q a2 s))) ∧ (¬ (gI s 250 ((34 : Int32)).toNatClampNeg) ≤ a4 → rX12_isOpen s a4 ∧ (((vX12_isOpen s a4) = 0 → BI MX12_greatest 3 34 [(0, .ref 248), (1, .int a1), (2, .int a2), (3, .int (a3 + (0 : Int32))), (4, .int (a4 + 1))] s Q) ∧ (¬ (vX12_isOpen s a4) = 0 → rX12_valueOf s a4 ∧ rX12_valueOf s a2 ∧ (((vX12_valueOf s a2) < (vX12_valueOf s a4) → BI MX12_greatest 3 34 [(0, .ref 248), (1, .int a1), (2, .int a2), (3, .int (a3 + (1 : Int32))), (4, .int (a4 + 1))] s Q) ∧ (¬ (vX12_valueOf s a2) < (vX12_valueOf s a4) → rX12_valueOf s a4 ∧ rX12_valueOf s a2 ∧ BI MX12_greatest 3 34 [(0, .ref 248), (1, .int a1), (2, .int a2), (3, .int (a3 + (if (vX12_valueOf s a4) = (vX12_valueOf s a2) then (if a2 ≤ a4 then (0 : Int32) else (1 : Int32)) else (0 : Int32)))), (4, .int (a4 + 1))] s Q))))))) : BI MX12_greatest 3 34 [(0, .ref 248), (1, .int a1), (2, .int a2), (3, .int a3), (4, .int a4)] s Q := by
  refine JT_iload (q := 4) dX12_greatest_34 rfl ?_
  refine JT_aload_n (q := 0) dX12_greatest_36 rfl rfl ?_
  refine JS_getR (x := 250) dX12_greatest_37 flX12_33 BS_248 (Nat.le_of_ble_eq_true rfl) (Nat.le_of_ble_eq_true rfl) (Or.inr ⟨_, ct_12_6⟩) RF_248_6 ?_
  refine JT_bipush (v := 34) dX12_greatest_40 bp_34 ?_
  refine JS_iald dX12_greatest_42 BS_250 (Nat.le_of_ble_eq_true rfl) (Nat.le_of_ble_eq_true rfl) (by unfold vp_in; decide) ?_
  refine JT_icmp_ge (tgt := 103) dX12_greatest_43 (by decide) (fun hc12 => ?_) (fun hc12 => ?_)
  · have h := h.1 hc12
    refine JT_iload_n (q := 3) dX12_greatest_103 rfl rfl ?_
    refine JT_iload_n (q := 1) dX12_greatest_104 rfl rfl ?_
    refine JT_icmp_ne (tgt := 110) dX12_greatest_105 (by decide) (fun hc1 => ?_) (fun hc1 => ?_)
    · have h := h.1 hc1
      refine JT_iinc (q := 2) (v := (a2 + 1)) (lv' := [(2, .int (a2 + 1)), (0, .ref 248), (1, .int a1), (3, .int a3), (4, .int a4)]) dX12_greatest_110 rfl (by rfl) (Nat.le_of_ble_eq_true rfl) rfl ?_
      refine JT_goto (tgt := 7) dX12_greatest_113 (by decide) ?_
      exact JT_sub [1, 2, 0] rfl h
    · have h := h.2 hc1
      refine JT_iload_n (q := 2) dX12_greatest_108 rfl rfl ?_
      exact JS_iret dX12_greatest_109 rfl rfl h
  · have h := h.2 hc12
    refine JT_iload_n (q := 3) dX12_greatest_46 rfl rfl ?_
    refine JT_aload_n (q := 0) dX12_greatest_47 rfl rfl ?_
    refine JT_iload (q := 4) dX12_greatest_48 rfl ?_
    obtain ⟨o11, h⟩ := h
    refine JS_callVI (M' := MX12_isOpen) (d' := 2) (As := [.int a4]) (rest := [.int a3]) (P := (fun zv9 wm9 => (vX12_isOpen s a4) = zv9 ∧ s = wm9)) dX12_greatest_50 cvX12_278 okX12_isOpen rfl (Nat.le_of_ble_eq_true rfl) BS_248 (Nat.le_of_ble_eq_true rfl) (Nat.le_of_ble_eq_true rfl) hci_12 (Nat.le_of_ble_eq_true rfl) (Nat.le_of_ble_eq_true rfl) (pX12_isOpen  (a4) o11 ⟨rfl, rfl⟩) (fun zv9 wm9 hq9 => ?_)
    obtain ⟨rfl, rfl⟩ := hq9
    refine JT_if_eq (tgt := 94) dX12_greatest_53 (by decide) (fun hc10 => ?_) (fun hc10 => ?_)
    · have h := h.1 hc10
      refine JT_iconst (v := 0) dX12_greatest_94 ic_0 ?_
      refine JT_iadd dX12_greatest_95 ?_
      refine JT_istore_n (lv' := [(3, .int (a3 + (0 : Int32))), (0, .ref 248), (1, .int a1), (2, .int a2), (4, .int a4)]) dX12_greatest_96 rfl (Nat.le_of_ble_eq_true rfl) rfl ?_
      refine JT_iinc (q := 4) (v := (a4 + 1)) (lv' := [(4, .int (a4 + 1)), (3, .int (a3 + (0 : Int32))), (0, .ref 248), (1, .int a1), (2, .int a2)]) dX12_greatest_97 rfl (by rfl) (Nat.le_of_ble_eq_true rfl) rfl ?_
      refine JT_goto (tgt := 34) dX12_greatest_100 (by decide) ?_
      exact JT_sub [2, 3, 4, 1, 0] rfl h
    · have h := h.2 hc10
      refine JT_aload_n (q := 0) dX12_greatest_56 rfl rfl ?_
      refine JT_iload (q := 4) dX12_greatest_57 rfl ?_
      obtain ⟨o9, h⟩ := h
      refine JS_callVI (M' := MX12_valueOf) (d' := 2) (As := [.int a4]) (rest := [.int a3]) (P := (fun zv9 wm9 => (vX12_valueOf s a4) = zv9 ∧ s = wm9)) dX12_greatest_59 cvX12_281 okX12_valueOf rfl (Nat.le_of_ble_eq_true rfl) BS_248 (Nat.le_of_ble_eq_true rfl) (Nat.le_of_ble_eq_true rfl) hci_12 (Nat.le_of_ble_eq_true rfl) (Nat.le_of_ble_eq_true rfl) (pX12_valueOf  (a4) o9 ⟨rfl, rfl⟩) (fun zv9 wm9 hq9 => ?_)
      obtain ⟨rfl, rfl⟩ := hq9
      refine JT_aload_n (q := 0) dX12_greatest_62 rfl rfl ?_
      refine JT_iload_n (q := 2) dX12_greatest_63 rfl rfl ?_
      obtain ⟨o8, h⟩ := h
      refine JS_callVI (M' := MX12_valueOf) (d' := 2) (As := [.int a2]) (rest := [.int (vX12_valueOf s a4), .int a3]) (P := (fun zv9 wm9 => (vX12_valueOf s a2) = zv9 ∧ s = wm9)) dX12_greatest_64 cvX12_281 okX12_valueOf rfl (Nat.le_of_ble_eq_true rfl) BS_248 (Nat.le_of_ble_eq_true rfl) (Nat.le_of_ble_eq_true rfl) hci_12 (Nat.le_of_ble_eq_true rfl) (Nat.le_of_ble_eq_true rfl) (pX12_valueOf  (a2) o8 ⟨rfl, rfl⟩) (fun zv9 wm9 hq9 => ?_)
      obtain ⟨rfl, rfl⟩ := hq9
      refine JT_icmp_gt (tgt := 90) dX12_greatest_67 (by decide) (fun hc7 => ?_) (fun hc7 => ?_)
      · have h := h.1 hc7
        refine JT_iconst (v := 1) dX12_greatest_90 ic_1 ?_
        refine JT_goto (tgt := 95) dX12_greatest_91 (by decide) ?_
        refine JT_iadd dX12_greatest_95 ?_
        refine JT_istore_n (lv' := [(3, .int (a3 + (1 : Int32))), (0, .ref 248), (1, .int a1), (2, .int a2), (4, .int a4)]) dX12_greatest_96 rfl (Nat.le_of_ble_eq_true rfl) rfl ?_
        refine JT_iinc (q := 4) (v := (a4 + 1)) (lv' := [(4, .int (a4 + 1)), (3, .int (a3 + (1 : Int32))), (0, .ref 248), (1, .int a1), (2, .int a2)]) dX12_greatest_97 rfl (by rfl) (Nat.le_of_ble_eq_true rfl) rfl ?_
        refine JT_goto (tgt := 34) dX12_greatest_100 (by decide) ?_
        exact JT_sub [2, 3, 4, 1, 0] rfl h
      · have h := h.2 hc7
        refine JT_aload_n (q := 0) dX12_greatest_70 rfl rfl ?_
        refine JT_iload (q := 4) dX12_greatest_71 rfl ?_
        obtain ⟨o6, h⟩ := h
        refine JS_callVI (M' := MX12_valueOf) (d' := 2) (As := [.int a4]) (rest := [.int a3]) (P := (fun zv9 wm9 => (vX12_valueOf s a4) = zv9 ∧ s = wm9)) dX12_greatest_73 cvX12_281 okX12_valueOf rfl (Nat.le_of_ble_eq_true rfl) BS_248 (Nat.le_of_ble_eq_true rfl) (Nat.le_of_ble_eq_true rfl) hci_12 (Nat.le_of_ble_eq_true rfl) (Nat.le_of_ble_eq_true rfl) (pX12_valueOf  (a4) o6 ⟨rfl, rfl⟩) (fun zv9 wm9 hq9 => ?_)
        obtain ⟨rfl, rfl⟩ := hq9
        refine JT_aload_n (q := 0) dX12_greatest_76 rfl rfl ?_
        refine JT_iload_n (q := 2) dX12_greatest_77 rfl rfl ?_
        obtain ⟨o5, h⟩ := h
        refine JS_callVI (M' := MX12_valueOf) (d' := 2) (As := [.int a2]) (rest := [.int (vX12_valueOf s a4), .int a3]) (P := (fun zv9 wm9 => (vX12_valueOf s a2) = zv9 ∧ s = wm9)) dX12_greatest_78 cvX12_281 okX12_valueOf rfl (Nat.le_of_ble_eq_true rfl) BS_248 (Nat.le_of_ble_eq_true rfl) (Nat.le_of_ble_eq_true rfl) hci_12 (Nat.le_of_ble_eq_true rfl) (Nat.le_of_ble_eq_true rfl) (pX12_valueOf  (a2) o5 ⟨rfl, rfl⟩) (fun zv9 wm9 hq9 => ?_)
        obtain ⟨rfl, rfl⟩ := hq9
        have hj2 : ∀ v : Int32, v = (if (vX12_valueOf s a4) = (vX12_valueOf s a2) then (if a2 ≤ a4 then (0 : Int32) else (1 : Int32)) else (0 : Int32)) → JT MX12_greatest 3 0 0 95 [(0, .ref 248), (1, .int a1), (2, .int a2), (3, .int a3), (4, .int a4)] [.int v, .int a3] (std s) (KQ Q) := by
          intro v hv
          subst hv
          refine JT_iadd dX12_greatest_95 ?_
          refine JT_istore_n (lv' := [(3, .int (a3 + (if (vX12_valueOf s a4) = (vX12_valueOf s a2) then (if a2 ≤ a4 then (0 : Int32) else (1 : Int32)) else (0 : Int32)))), (0, .ref 248), (1, .int a1), (2, .int a2), (4, .int a4)]) dX12_greatest_96 rfl (Nat.le_of_ble_eq_true rfl) rfl ?_
          refine JT_iinc (q := 4) (v := (a4 + 1)) (lv' := [(4, .int (a4 + 1)), (3, .int (a3 + (if (vX12_valueOf s a4) = (vX12_valueOf s a2) then (if a2 ≤ a4 then (0 : Int32) else (1 : Int32)) else (0 : Int32)))), (0, .ref 248), (1, .int a1), (2, .int a2)]) dX12_greatest_97 rfl (by rfl) (Nat.le_of_ble_eq_true rfl) rfl ?_
          refine JT_goto (tgt := 34) dX12_greatest_100 (by decide) ?_
          exact JT_sub [2, 3, 4, 1, 0] rfl h
        refine JT_icmp_ne (tgt := 94) dX12_greatest_81 (by decide) (fun hc3 => ?_) (fun hc3 => ?_)
        · refine JT_iconst (v := 0) dX12_greatest_94 ic_0 ?_
          exact hj2 _ (by rw [if_neg hc3])
        · refine JT_iload (q := 4) dX12_greatest_84 rfl ?_
          refine JT_iload_n (q := 2) dX12_greatest_86 rfl rfl ?_
          refine JT_icmp_ge (tgt := 94) dX12_greatest_87 (by decide) (fun hc4 => ?_) (fun hc4 => ?_)
          · refine JT_iconst (v := 0) dX12_greatest_94 ic_0 ?_
            exact hj2 _ (by rw [if_pos hc3, if_pos hc4])
          · refine JT_iconst (v := 1) dX12_greatest_90 ic_1 ?_
            refine JT_goto (tgt := 95) dX12_greatest_91 (by decide) ?_
            exact hj2 _ (by rw [if_pos hc3, if_neg hc4])
set_option maxRecDepth 20000 in
theorem bX12_greatest (a1 : Int32) {s : SM} {Q : Int32 → SM → Prop} (h : BI MX12_greatest 3 7 [(0, .ref 248), (1, .int a1), (2, .int (0 : Int32))] (pI s 248 0 (0 : Int32)) Q) : KI MX12_greatest 3 [.ref 248, .int a1] s Q := by
  show BI MX12_greatest 3 0 [(0, .ref 248), (1, .int a1)] s Q
  refine JT_aload_n (q := 0) dX12_greatest_0 rfl rfl ?_
  refine JT_iconst (v := 0) dX12_greatest_1 ic_0 ?_
  refine JS_putI dX12_greatest_2 flX12_1 BS_248 (Nat.le_of_ble_eq_true rfl) (Nat.le_of_ble_eq_true rfl) ct_12_0 ?_
  refine JT_iconst (v := 0) dX12_greatest_5 ic_0 ?_
  refine JT_istore_n (lv' := [(2, .int (0 : Int32)), (0, .ref 248), (1, .int a1)]) dX12_greatest_6 rfl (Nat.le_of_ble_eq_true rfl) rfl ?_
  exact JT_sub [1, 2, 0] rfl h
set_option maxRecDepth 20000 in
theorem bX12_isLost (a1 : Int32) {s : SM} {Q : Int32 → SM → Prop} (h : rX12_isOpen s a1 ∧ (((vX12_isOpen s a1) = 0 → Q (0 : Int32) s) ∧ (¬ (vX12_isOpen s a1) = 0 → rX12_sortOf s a1 ∧ (((vX12_sortOf s a1) = (3 : Int32) → Q (0 : Int32) s) ∧ (¬ (vX12_sortOf s a1) = (3 : Int32) → rX12_isKnown s a1 (vX12_living s ) ∧ Q (if (vX12_isKnown s a1 (vX12_living s )) = 0 then (1 : Int32) else (0 : Int32)) s))))) : KI MX12_isLost 3 [.ref 248, .int a1] s Q := by
  show BI MX12_isLost 3 0 [(0, .ref 248), (1, .int a1)] s Q
  refine JT_aload_n (q := 0) dX12_isLost_0 rfl rfl ?_
  refine JT_iload_n (q := 1) dX12_isLost_1 rfl rfl ?_
  obtain ⟨o8, h⟩ := h
  refine JS_callVI (M' := MX12_isOpen) (d' := 2) (As := [.int a1]) (rest := []) (P := (fun zv9 wm9 => (vX12_isOpen s a1) = zv9 ∧ s = wm9)) dX12_isLost_2 cvX12_278 okX12_isOpen rfl (Nat.le_of_ble_eq_true rfl) BS_248 (Nat.le_of_ble_eq_true rfl) (Nat.le_of_ble_eq_true rfl) hci_12 (Nat.le_of_ble_eq_true rfl) (Nat.le_of_ble_eq_true rfl) (pX12_isOpen  (a1) o8 ⟨rfl, rfl⟩) (fun zv9 wm9 hq9 => ?_)
  obtain ⟨rfl, rfl⟩ := hq9
  refine JT_if_eq (tgt := 33) dX12_isLost_5 (by decide) (fun hc7 => ?_) (fun hc7 => ?_)
  · have h := h.1 hc7
    refine JT_iconst (v := 0) dX12_isLost_33 ic_0 ?_
    exact JS_iret dX12_isLost_34 rfl (n01 (Or.inl rfl)) h
  · have h := h.2 hc7
    refine JT_aload_n (q := 0) dX12_isLost_8 rfl rfl ?_
    refine JT_iload_n (q := 1) dX12_isLost_9 rfl rfl ?_
    obtain ⟨o6, h⟩ := h
    refine JS_callVI (M' := MX12_sortOf) (d' := 1) (As := [.int a1]) (rest := []) (P := (fun zv9 wm9 => (vX12_sortOf s a1) = zv9 ∧ s = wm9)) dX12_isLost_10 cvX12_272 okX12_sortOf rfl (Nat.le_of_ble_eq_true rfl) BS_248 (Nat.le_of_ble_eq_true rfl) (Nat.le_of_ble_eq_true rfl) hci_12 (Nat.le_of_ble_eq_true rfl) (Nat.le_of_ble_eq_true rfl) (pX12_sortOf  (a1) o6 ⟨rfl, rfl⟩) (fun zv9 wm9 hq9 => ?_)
    obtain ⟨rfl, rfl⟩ := hq9
    refine JT_iconst (v := 3) dX12_isLost_13 ic_3 ?_
    refine JT_icmp_eq (tgt := 33) dX12_isLost_14 (by decide) (fun hc5 => ?_) (fun hc5 => ?_)
    · have h := h.1 hc5
      refine JT_iconst (v := 0) dX12_isLost_33 ic_0 ?_
      exact JS_iret dX12_isLost_34 rfl (n01 (Or.inl rfl)) h
    · have h := h.2 hc5
      refine JT_aload_n (q := 0) dX12_isLost_17 rfl rfl ?_
      refine JT_iload_n (q := 1) dX12_isLost_18 rfl rfl ?_
      refine JT_aload_n (q := 0) dX12_isLost_19 rfl rfl ?_
      refine JS_callVI (M' := MX12_living) (d' := 0) (As := []) (rest := [.int a1, .ref 248]) (P := (fun zv9 wm9 => (vX12_living s ) = zv9 ∧ s = wm9)) dX12_isLost_20 cvX12_309 okX12_living rfl (Nat.le_of_ble_eq_true rfl) BS_248 (Nat.le_of_ble_eq_true rfl) (Nat.le_of_ble_eq_true rfl) hci_12 (Nat.le_of_ble_eq_true rfl) (Nat.le_of_ble_eq_true rfl) (pX12_living    ⟨rfl, rfl⟩) (fun zv9 wm9 hq9 => ?_)
      obtain ⟨rfl, rfl⟩ := hq9
      obtain ⟨o3, h⟩ := h
      refine JS_callVI (M' := MX12_isKnown) (d' := 2) (As := [.int a1, .int (vX12_living s )]) (rest := []) (P := (fun zv9 wm9 => (vX12_isKnown s a1 (vX12_living s )) = zv9 ∧ s = wm9)) dX12_isLost_23 cvX12_312 okX12_isKnown rfl (Nat.le_of_ble_eq_true rfl) BS_248 (Nat.le_of_ble_eq_true rfl) (Nat.le_of_ble_eq_true rfl) hci_12 (Nat.le_of_ble_eq_true rfl) (Nat.le_of_ble_eq_true rfl) (pX12_isKnown  (a1) ((vX12_living s )) o3 ⟨rfl, rfl⟩) (fun zv9 wm9 hq9 => ?_)
      obtain ⟨rfl, rfl⟩ := hq9
      have hj1 : ∀ v : Int32, v = (if (vX12_isKnown s a1 (vX12_living s )) = 0 then (1 : Int32) else (0 : Int32)) → JT MX12_isLost 3 0 0 34 [(0, .ref 248), (1, .int a1)] [.int v] (std s) (KQ Q) := by
        intro v hv
        subst hv
        exact JS_iret dX12_isLost_34 rfl (n01 (i01 (Or.inr rfl) (Or.inl rfl))) h
      refine JT_if_ne (tgt := 33) dX12_isLost_26 (by decide) (fun hc2 => ?_) (fun hc2 => ?_)
      · refine JT_iconst (v := 0) dX12_isLost_33 ic_0 ?_
        exact hj1 _ (by rw [if_neg hc2])
      · refine JT_iconst (v := 1) dX12_isLost_29 ic_1 ?_
        refine JT_goto (tgt := 34) dX12_isLost_30 (by decide) ?_
        exact hj1 _ (by rw [if_pos hc2])
set_option maxRecDepth 20000 in
def vX12_isLost (s : SM) (a1 : Int32) : Int32 := (if (vX12_isOpen s a1) = 0 then (0 : Int32) else (if (vX12_sortOf s a1) = (3 : Int32) then (0 : Int32) else (if (vX12_isKnown s a1 (vX12_living s )) = 0 then (1 : Int32) else (0 : Int32))))
set_option maxRecDepth 20000 in
def rX12_isLost (s : SM) (a1 : Int32) : Prop := rX12_isOpen s a1 ∧ (¬ (vX12_isOpen s a1) = 0 → rX12_sortOf s a1 ∧ (¬ (vX12_sortOf s a1) = (3 : Int32) → rX12_isKnown s a1 (vX12_living s )))
set_option maxRecDepth 20000 in
theorem zX12_isLost (s : SM) (a1 : Int32) : vX12_isLost s a1 = 0 ∨ vX12_isLost s a1 = 1 := (i01 (Or.inl rfl) (i01 (Or.inl rfl) (i01 (Or.inr rfl) (Or.inl rfl))))
set_option maxRecDepth 20000 in
theorem pX12_isLost (a1 : Int32) {s : SM} {Q : Int32 → SM → Prop} (hr : rX12_isLost s a1) (h : Q (vX12_isLost s a1) s) : KI MX12_isLost 3 [.ref 248, .int a1] s Q := by
  refine bX12_isLost a1 ?_
  unfold rX12_isLost at hr
  unfold vX12_isLost at h
  refine ⟨hr.1, ?_⟩
  replace hr := hr.2
  refine ⟨fun c => ?_, fun c => ?_⟩
  · try simp only [if_pos c] at h
    first | exact h | contradiction
  · replace hr := hr c
    try simp only [if_neg c] at h
    refine ⟨hr.1, ?_⟩
    replace hr := hr.2
    refine ⟨fun c => ?_, fun c => ?_⟩
    · try simp only [if_pos c] at h
      first | exact h | contradiction
    · replace hr := hr c
      try simp only [if_neg c] at h
      refine ⟨hr, ?_⟩
      first | exact h | contradiction
set_option maxRecDepth 20000 in
theorem bX12_isRingDeal (a1 : Int32) {s : SM} {Q : Int32 → SM → Prop} (h : rX12_isOpen s a1 ∧ (((vX12_isOpen s a1) = 0 → Q (0 : Int32) s) ∧ (¬ (vX12_isOpen s a1) = 0 → rX12_sortOf s a1 ∧ (((vX12_sortOf s a1) = 0 → Q (1 : Int32) s) ∧ (¬ (vX12_sortOf s a1) = 0 → rX12_sortOf s a1 ∧ Q (if (vX12_sortOf s a1) = (4 : Int32) then (1 : Int32) else (0 : Int32)) s))))) : KI MX12_isRingDeal 3 [.ref 248, .int a1] s Q := by
  show BI MX12_isRingDeal 3 0 [(0, .ref 248), (1, .int a1)] s Q
  refine JT_aload_n (q := 0) dX12_isRingDeal_0 rfl rfl ?_
  refine JT_iload_n (q := 1) dX12_isRingDeal_1 rfl rfl ?_
  obtain ⟨o7, h⟩ := h
  refine JS_callVI (M' := MX12_isOpen) (d' := 2) (As := [.int a1]) (rest := []) (P := (fun zv9 wm9 => (vX12_isOpen s a1) = zv9 ∧ s = wm9)) dX12_isRingDeal_2 cvX12_278 okX12_isOpen rfl (Nat.le_of_ble_eq_true rfl) BS_248 (Nat.le_of_ble_eq_true rfl) (Nat.le_of_ble_eq_true rfl) hci_12 (Nat.le_of_ble_eq_true rfl) (Nat.le_of_ble_eq_true rfl) (pX12_isOpen  (a1) o7 ⟨rfl, rfl⟩) (fun zv9 wm9 hq9 => ?_)
  obtain ⟨rfl, rfl⟩ := hq9
  refine JT_if_eq (tgt := 29) dX12_isRingDeal_5 (by decide) (fun hc6 => ?_) (fun hc6 => ?_)
  · have h := h.1 hc6
    refine JT_iconst (v := 0) dX12_isRingDeal_29 ic_0 ?_
    exact JS_iret dX12_isRingDeal_30 rfl (n01 (Or.inl rfl)) h
  · have h := h.2 hc6
    refine JT_aload_n (q := 0) dX12_isRingDeal_8 rfl rfl ?_
    refine JT_iload_n (q := 1) dX12_isRingDeal_9 rfl rfl ?_
    obtain ⟨o5, h⟩ := h
    refine JS_callVI (M' := MX12_sortOf) (d' := 1) (As := [.int a1]) (rest := []) (P := (fun zv9 wm9 => (vX12_sortOf s a1) = zv9 ∧ s = wm9)) dX12_isRingDeal_10 cvX12_272 okX12_sortOf rfl (Nat.le_of_ble_eq_true rfl) BS_248 (Nat.le_of_ble_eq_true rfl) (Nat.le_of_ble_eq_true rfl) hci_12 (Nat.le_of_ble_eq_true rfl) (Nat.le_of_ble_eq_true rfl) (pX12_sortOf  (a1) o5 ⟨rfl, rfl⟩) (fun zv9 wm9 hq9 => ?_)
    obtain ⟨rfl, rfl⟩ := hq9
    refine JT_if_eq (tgt := 25) dX12_isRingDeal_13 (by decide) (fun hc4 => ?_) (fun hc4 => ?_)
    · have h := h.1 hc4
      refine JT_iconst (v := 1) dX12_isRingDeal_25 ic_1 ?_
      refine JT_goto (tgt := 30) dX12_isRingDeal_26 (by decide) ?_
      exact JS_iret dX12_isRingDeal_30 rfl (n01 (Or.inr rfl)) h
    · have h := h.2 hc4
      refine JT_aload_n (q := 0) dX12_isRingDeal_16 rfl rfl ?_
      refine JT_iload_n (q := 1) dX12_isRingDeal_17 rfl rfl ?_
      obtain ⟨o3, h⟩ := h
      refine JS_callVI (M' := MX12_sortOf) (d' := 1) (As := [.int a1]) (rest := []) (P := (fun zv9 wm9 => (vX12_sortOf s a1) = zv9 ∧ s = wm9)) dX12_isRingDeal_18 cvX12_272 okX12_sortOf rfl (Nat.le_of_ble_eq_true rfl) BS_248 (Nat.le_of_ble_eq_true rfl) (Nat.le_of_ble_eq_true rfl) hci_12 (Nat.le_of_ble_eq_true rfl) (Nat.le_of_ble_eq_true rfl) (pX12_sortOf  (a1) o3 ⟨rfl, rfl⟩) (fun zv9 wm9 hq9 => ?_)
      obtain ⟨rfl, rfl⟩ := hq9
      refine JT_iconst (v := 4) dX12_isRingDeal_21 ic_4 ?_
      have hj1 : ∀ v : Int32, v = (if (vX12_sortOf s a1) = (4 : Int32) then (1 : Int32) else (0 : Int32)) → JT MX12_isRingDeal 3 0 0 30 [(0, .ref 248), (1, .int a1)] [.int v] (std s) (KQ Q) := by
        intro v hv
        subst hv
        exact JS_iret dX12_isRingDeal_30 rfl (n01 (i01 (Or.inr rfl) (Or.inl rfl))) h
      refine JT_icmp_ne (tgt := 29) dX12_isRingDeal_22 (by decide) (fun hc2 => ?_) (fun hc2 => ?_)
      · refine JT_iconst (v := 0) dX12_isRingDeal_29 ic_0 ?_
        exact hj1 _ (by rw [if_neg hc2])
      · refine JT_iconst (v := 1) dX12_isRingDeal_25 ic_1 ?_
        refine JT_goto (tgt := 30) dX12_isRingDeal_26 (by decide) ?_
        exact hj1 _ (by rw [if_pos hc2])
set_option maxRecDepth 20000 in
def vX12_isRingDeal (s : SM) (a1 : Int32) : Int32 := (if (vX12_isOpen s a1) = 0 then (0 : Int32) else (if (vX12_sortOf s a1) = 0 then (1 : Int32) else (if (vX12_sortOf s a1) = (4 : Int32) then (1 : Int32) else (0 : Int32))))
set_option maxRecDepth 20000 in
def rX12_isRingDeal (s : SM) (a1 : Int32) : Prop := rX12_isOpen s a1 ∧ (¬ (vX12_isOpen s a1) = 0 → rX12_sortOf s a1 ∧ (¬ (vX12_sortOf s a1) = 0 → rX12_sortOf s a1))
set_option maxRecDepth 20000 in
theorem zX12_isRingDeal (s : SM) (a1 : Int32) : vX12_isRingDeal s a1 = 0 ∨ vX12_isRingDeal s a1 = 1 := (i01 (Or.inl rfl) (i01 (Or.inr rfl) (i01 (Or.inr rfl) (Or.inl rfl))))
set_option maxRecDepth 20000 in
theorem pX12_isRingDeal (a1 : Int32) {s : SM} {Q : Int32 → SM → Prop} (hr : rX12_isRingDeal s a1) (h : Q (vX12_isRingDeal s a1) s) : KI MX12_isRingDeal 3 [.ref 248, .int a1] s Q := by
  refine bX12_isRingDeal a1 ?_
  unfold rX12_isRingDeal at hr
  unfold vX12_isRingDeal at h
  refine ⟨hr.1, ?_⟩
  replace hr := hr.2
  refine ⟨fun c => ?_, fun c => ?_⟩
  · try simp only [if_pos c] at h
    first | exact h | contradiction
  · replace hr := hr c
    try simp only [if_neg c] at h
    refine ⟨hr.1, ?_⟩
    replace hr := hr.2
    refine ⟨fun c => ?_, fun c => ?_⟩
    · try simp only [if_pos c] at h
      first | exact h | contradiction
    · replace hr := hr c
      try simp only [if_neg c] at h
      refine ⟨hr, ?_⟩
      first | exact h | contradiction
set_option maxRecDepth 20000 in
theorem bX12_latestFrom_4 (a1 : Int32) (a2 : Int32) (a3 : Int32) {s : SM} {Q : Int32 → SM → Prop} (h : (((gI s 250 ((34 : Int32)).toNatClampNeg) ≤ a3 → Q a2 s) ∧ (¬ (gI s 250 ((34 : Int32)).toNatClampNeg) ≤ a3 → rX12_isOpen s a3 ∧ BI MX12_latestFrom 3 4 [(0, .ref 248), (1, .int a1), (2, .int (if (vX12_isOpen s a3) = 0 then a2 else a3)), (3, .int (a3 + 1))] s Q))) : BI MX12_latestFrom 3 4 [(0, .ref 248), (1, .int a1), (2, .int a2), (3, .int a3)] s Q := by
  refine JT_iload_n (q := 3) dX12_latestFrom_4 rfl rfl ?_
  refine JT_aload_n (q := 0) dX12_latestFrom_5 rfl rfl ?_
  refine JS_getR (x := 250) dX12_latestFrom_6 flX12_33 BS_248 (Nat.le_of_ble_eq_true rfl) (Nat.le_of_ble_eq_true rfl) (Or.inr ⟨_, ct_12_6⟩) RF_248_6 ?_
  refine JT_bipush (v := 34) dX12_latestFrom_9 bp_34 ?_
  refine JS_iald dX12_latestFrom_11 BS_250 (Nat.le_of_ble_eq_true rfl) (Nat.le_of_ble_eq_true rfl) (by unfold vp_in; decide) ?_
  refine JT_icmp_ge (tgt := 35) dX12_latestFrom_12 (by decide) (fun hc4 => ?_) (fun hc4 => ?_)
  · have h := h.1 hc4
    refine JT_iload_n (q := 2) dX12_latestFrom_35 rfl rfl ?_
    exact JS_iret dX12_latestFrom_36 rfl rfl h
  · have h := h.2 hc4
    refine JT_aload_n (q := 0) dX12_latestFrom_15 rfl rfl ?_
    refine JT_iload_n (q := 3) dX12_latestFrom_16 rfl rfl ?_
    obtain ⟨o3, h⟩ := h
    refine JS_callVI (M' := MX12_isOpen) (d' := 2) (As := [.int a3]) (rest := []) (P := (fun zv9 wm9 => (vX12_isOpen s a3) = zv9 ∧ s = wm9)) dX12_latestFrom_17 cvX12_278 okX12_isOpen rfl (Nat.le_of_ble_eq_true rfl) BS_248 (Nat.le_of_ble_eq_true rfl) (Nat.le_of_ble_eq_true rfl) hci_12 (Nat.le_of_ble_eq_true rfl) (Nat.le_of_ble_eq_true rfl) (pX12_isOpen  (a3) o3 ⟨rfl, rfl⟩) (fun zv9 wm9 hq9 => ?_)
    obtain ⟨rfl, rfl⟩ := hq9
    have hj1 : ∀ v : Int32, v = (if (vX12_isOpen s a3) = 0 then a2 else a3) → JT MX12_latestFrom 3 0 0 28 [(0, .ref 248), (1, .int a1), (2, .int a2), (3, .int a3)] [.int v] (std s) (KQ Q) := by
      intro v hv
      subst hv
      refine JT_istore_n (lv' := [(2, .int (if (vX12_isOpen s a3) = 0 then a2 else a3)), (0, .ref 248), (1, .int a1), (3, .int a3)]) dX12_latestFrom_28 rfl (Nat.le_of_ble_eq_true rfl) rfl ?_
      refine JT_iinc (q := 3) (v := (a3 + 1)) (lv' := [(3, .int (a3 + 1)), (2, .int (if (vX12_isOpen s a3) = 0 then a2 else a3)), (0, .ref 248), (1, .int a1)]) dX12_latestFrom_29 rfl (by rfl) (Nat.le_of_ble_eq_true rfl) rfl ?_
      refine JT_goto (tgt := 4) dX12_latestFrom_32 (by decide) ?_
      exact JT_sub [2, 3, 1, 0] rfl h
    refine JT_if_eq (tgt := 27) dX12_latestFrom_20 (by decide) (fun hc2 => ?_) (fun hc2 => ?_)
    · refine JT_iload_n (q := 2) dX12_latestFrom_27 rfl rfl ?_
      exact hj1 _ (by rw [if_pos hc2])
    · refine JT_iload_n (q := 3) dX12_latestFrom_23 rfl rfl ?_
      refine JT_goto (tgt := 28) dX12_latestFrom_24 (by decide) ?_
      exact hj1 _ (by rw [if_neg hc2])
set_option maxRecDepth 20000 in
theorem bX12_latestFrom (a1 : Int32) {s : SM} {Q : Int32 → SM → Prop} (h : BI MX12_latestFrom 3 4 [(0, .ref 248), (1, .int a1), (2, .int (-1 : Int32)), (3, .int a1)] s Q) : KI MX12_latestFrom 3 [.ref 248, .int a1] s Q := by
  show BI MX12_latestFrom 3 0 [(0, .ref 248), (1, .int a1)] s Q
  refine JT_iconst (v := -1) dX12_latestFrom_0 ic_m1 ?_
  refine JT_istore_n (lv' := [(2, .int (-1 : Int32)), (0, .ref 248), (1, .int a1)]) dX12_latestFrom_1 rfl (Nat.le_of_ble_eq_true rfl) rfl ?_
  refine JT_iload_n (q := 2) dX12_latestFrom_2 rfl rfl ?_
  refine JT_istore_n (lv' := [(3, .int a1), (2, .int (-1 : Int32)), (0, .ref 248), (1, .int a1)]) dX12_latestFrom_3 rfl (Nat.le_of_ble_eq_true rfl) rfl ?_
  exact JT_sub [2, 3, 1, 0] rfl h
set_option maxRecDepth 20000 in
theorem bX12_netOf_4 (a1 : Int32) (a2 : Int32) (a3 : Int32) {s : SM} {Q : Int32 → SM → Prop} (h : (((gI s 250 ((34 : Int32)).toNatClampNeg) ≤ a3 → Q a2 s) ∧ (¬ (gI s 250 ((34 : Int32)).toNatClampNeg) ≤ a3 → rX12_isOpen s a3 ∧ ((¬ (vX12_isOpen s a3) = 0 → rX12_of s a3 (0 : Int32) ∧ ((¬ (vX12_of s a3 (0 : Int32)) = a1 → rX12_of s a3 (1 : Int32) ∧ ((¬ (vX12_of s a3 (1 : Int32)) = a1 → BI MX12_netOf 3 4 [(0, .ref 248), (1, .int a1), (2, .int ((a2 + (0 : Int32)) - (0 : Int32))), (3, .int (a3 + 1))] s Q) ∧ ((vX12_of s a3 (1 : Int32)) = a1 → rX12_valueOf s a3 ∧ BI MX12_netOf 3 4 [(0, .ref 248), (1, .int a1), (2, .int ((a2 + (0 : Int32)) - (vX12_valueOf s a3))), (3, .int (a3 + 1))] s Q))) ∧ ((vX12_of s a3 (0 : Int32)) = a1 → rX12_valueOf s a3 ∧ rX12_of s a3 (1 : Int32) ∧ ((¬ (vX12_of s a3 (1 : Int32)) = a1 → BI MX12_netOf 3 4 [(0, .ref 248), (1, .int a1), (2, .int ((a2 + (vX12_valueOf s a3)) - (0 : Int32))), (3, .int (a3 + 1))] s Q) ∧ ((vX12_of s a3 (1 : Int32)) = a1 → rX12_valueOf s a3 ∧ BI MX12_netOf 3 4 [(0, .ref 248), (1, .int a1), (2, .int ((a2 + (vX12_valueOf s a3)) - (vX12_valueOf s a3))), (3, .int (a3 + 1))] s Q))))) ∧ ((vX12_isOpen s a3) = 0 → BI MX12_netOf 3 4 [(0, .ref 248), (1, .int a1), (2, .int a2), (3, .int (a3 + 1))] s Q))))) : BI MX12_netOf 3 4 [(0, .ref 248), (1, .int a1), (2, .int a2), (3, .int a3)] s Q := by
  refine JT_iload_n (q := 3) dX12_netOf_4 rfl rfl ?_
  refine JT_aload_n (q := 0) dX12_netOf_5 rfl rfl ?_
  refine JS_getR (x := 250) dX12_netOf_6 flX12_33 BS_248 (Nat.le_of_ble_eq_true rfl) (Nat.le_of_ble_eq_true rfl) (Or.inr ⟨_, ct_12_6⟩) RF_248_6 ?_
  refine JT_bipush (v := 34) dX12_netOf_9 bp_34 ?_
  refine JS_iald dX12_netOf_11 BS_250 (Nat.le_of_ble_eq_true rfl) (Nat.le_of_ble_eq_true rfl) (by unfold vp_in; decide) ?_
  refine JT_icmp_ge (tgt := 76) dX12_netOf_12 (by decide) (fun hc12 => ?_) (fun hc12 => ?_)
  · have h := h.1 hc12
    refine JT_iload_n (q := 2) dX12_netOf_76 rfl rfl ?_
    exact JS_iret dX12_netOf_77 rfl rfl h
  · have h := h.2 hc12
    refine JT_aload_n (q := 0) dX12_netOf_15 rfl rfl ?_
    refine JT_iload_n (q := 3) dX12_netOf_16 rfl rfl ?_
    obtain ⟨o11, h⟩ := h
    refine JS_callVI (M' := MX12_isOpen) (d' := 2) (As := [.int a3]) (rest := []) (P := (fun zv9 wm9 => (vX12_isOpen s a3) = zv9 ∧ s = wm9)) dX12_netOf_17 cvX12_278 okX12_isOpen rfl (Nat.le_of_ble_eq_true rfl) BS_248 (Nat.le_of_ble_eq_true rfl) (Nat.le_of_ble_eq_true rfl) hci_12 (Nat.le_of_ble_eq_true rfl) (Nat.le_of_ble_eq_true rfl) (pX12_isOpen  (a3) o11 ⟨rfl, rfl⟩) (fun zv9 wm9 hq9 => ?_)
    obtain ⟨rfl, rfl⟩ := hq9
    refine JT_if_ne (tgt := 26) dX12_netOf_20 (by decide) (fun hc10 => ?_) (fun hc10 => ?_)
    · have h := h.1 hc10
      refine JT_iload_n (q := 2) dX12_netOf_26 rfl rfl ?_
      refine JT_aload_n (q := 0) dX12_netOf_27 rfl rfl ?_
      refine JT_iload_n (q := 3) dX12_netOf_28 rfl rfl ?_
      refine JT_iconst (v := 0) dX12_netOf_29 ic_0 ?_
      obtain ⟨o9, h⟩ := h
      refine JS_callVI (M' := MX12_of) (d' := 0) (As := [.int a3, .int (0 : Int32)]) (rest := [.int a2]) (P := (fun zv9 wm9 => (vX12_of s a3 (0 : Int32)) = zv9 ∧ s = wm9)) dX12_netOf_30 cvX12_265 okX12_of rfl (Nat.le_of_ble_eq_true rfl) BS_248 (Nat.le_of_ble_eq_true rfl) (Nat.le_of_ble_eq_true rfl) hci_12 (Nat.le_of_ble_eq_true rfl) (Nat.le_of_ble_eq_true rfl) (pX12_of  (a3) ((0 : Int32)) o9 ⟨rfl, rfl⟩) (fun zv9 wm9 hq9 => ?_)
      obtain ⟨rfl, rfl⟩ := hq9
      refine JT_iload_n (q := 1) dX12_netOf_33 rfl rfl ?_
      refine JT_icmp_ne (tgt := 45) dX12_netOf_34 (by decide) (fun hc8 => ?_) (fun hc8 => ?_)
      · have h := h.1 hc8
        refine JT_iconst (v := 0) dX12_netOf_45 ic_0 ?_
        refine JT_iadd dX12_netOf_46 ?_
        refine JT_istore_n (lv' := [(2, .int (a2 + (0 : Int32))), (0, .ref 248), (1, .int a1), (3, .int a3)]) dX12_netOf_47 rfl (Nat.le_of_ble_eq_true rfl) rfl ?_
        refine JT_iload_n (q := 0) dX12_netOf_48 rfl rfl ?_
        refine JT_aload_n (q := 1) dX12_netOf_49 rfl rfl ?_
        refine JT_iload_n (q := 3) dX12_netOf_50 rfl rfl ?_
        refine JT_iconst (v := 1) dX12_netOf_51 ic_1 ?_
        obtain ⟨o3, h⟩ := h
        refine JS_callVI (M' := MX12_of) (d' := 0) (As := [.int a3, .int (1 : Int32)]) (rest := [.int (a2 + (0 : Int32))]) (P := (fun zv9 wm9 => (vX12_of s a3 (1 : Int32)) = zv9 ∧ s = wm9)) dX12_netOf_52 cvX12_265 okX12_of rfl (Nat.le_of_ble_eq_true rfl) BS_248 (Nat.le_of_ble_eq_true rfl) (Nat.le_of_ble_eq_true rfl) hci_12 (Nat.le_of_ble_eq_true rfl) (Nat.le_of_ble_eq_true rfl) (pX12_of  (a3) ((1 : Int32)) o3 ⟨rfl, rfl⟩) (fun zv9 wm9 hq9 => ?_)
        obtain ⟨rfl, rfl⟩ := hq9
        refine JT_iload_n (q := 2) dX12_netOf_55 rfl rfl ?_
        refine JT_icmp_ne (tgt := 67) dX12_netOf_56 (by decide) (fun hc2 => ?_) (fun hc2 => ?_)
        · have h := h.1 hc2
          refine JT_iconst (v := 0) dX12_netOf_67 ic_0 ?_
          refine JT_isub dX12_netOf_68 ?_
          refine JT_istore_n (lv' := [(2, .int ((a2 + (0 : Int32)) - (0 : Int32))), (0, .ref 248), (1, .int a1), (3, .int a3)]) dX12_netOf_69 rfl (Nat.le_of_ble_eq_true rfl) rfl ?_
          refine JT_iinc (q := 3) (v := (a3 + 1)) (lv' := [(3, .int (a3 + 1)), (2, .int ((a2 + (0 : Int32)) - (0 : Int32))), (0, .ref 248), (1, .int a1)]) dX12_netOf_70 rfl (by rfl) (Nat.le_of_ble_eq_true rfl) rfl ?_
          refine JT_goto (tgt := 4) dX12_netOf_73 (by decide) ?_
          exact JT_sub [2, 3, 1, 0] rfl h
        · have h := h.2 hc2
          refine JT_aload_n (q := 1) dX12_netOf_59 rfl rfl ?_
          refine JT_iload_n (q := 3) dX12_netOf_60 rfl rfl ?_
          obtain ⟨o1, h⟩ := h
          refine JS_callVI (M' := MX12_valueOf) (d' := 2) (As := [.int a3]) (rest := [.int (a2 + (0 : Int32))]) (P := (fun zv9 wm9 => (vX12_valueOf s a3) = zv9 ∧ s = wm9)) dX12_netOf_61 cvX12_281 okX12_valueOf rfl (Nat.le_of_ble_eq_true rfl) BS_248 (Nat.le_of_ble_eq_true rfl) (Nat.le_of_ble_eq_true rfl) hci_12 (Nat.le_of_ble_eq_true rfl) (Nat.le_of_ble_eq_true rfl) (pX12_valueOf  (a3) o1 ⟨rfl, rfl⟩) (fun zv9 wm9 hq9 => ?_)
          obtain ⟨rfl, rfl⟩ := hq9
          refine JT_goto (tgt := 68) dX12_netOf_64 (by decide) ?_
          refine JT_isub dX12_netOf_68 ?_
          refine JT_istore_n (lv' := [(2, .int ((a2 + (0 : Int32)) - (vX12_valueOf s a3))), (0, .ref 248), (1, .int a1), (3, .int a3)]) dX12_netOf_69 rfl (Nat.le_of_ble_eq_true rfl) rfl ?_
          refine JT_iinc (q := 3) (v := (a3 + 1)) (lv' := [(3, .int (a3 + 1)), (2, .int ((a2 + (0 : Int32)) - (vX12_valueOf s a3))), (0, .ref 248), (1, .int a1)]) dX12_netOf_70 rfl (by rfl) (Nat.le_of_ble_eq_true rfl) rfl ?_
          refine JT_goto (tgt := 4) dX12_netOf_73 (by decide) ?_
          exact JT_sub [2, 3, 1, 0] rfl h
      · have h := h.2 hc8
        refine JT_aload_n (q := 0) dX12_netOf_37 rfl rfl ?_
        refine JT_iload_n (q := 3) dX12_netOf_38 rfl rfl ?_
        obtain ⟨o7, h⟩ := h
        refine JS_callVI (M' := MX12_valueOf) (d' := 2) (As := [.int a3]) (rest := [.int a2]) (P := (fun zv9 wm9 => (vX12_valueOf s a3) = zv9 ∧ s = wm9)) dX12_netOf_39 cvX12_281 okX12_valueOf rfl (Nat.le_of_ble_eq_true rfl) BS_248 (Nat.le_of_ble_eq_true rfl) (Nat.le_of_ble_eq_true rfl) hci_12 (Nat.le_of_ble_eq_true rfl) (Nat.le_of_ble_eq_true rfl) (pX12_valueOf  (a3) o7 ⟨rfl, rfl⟩) (fun zv9 wm9 hq9 => ?_)
        obtain ⟨rfl, rfl⟩ := hq9
        refine JT_goto (tgt := 46) dX12_netOf_42 (by decide) ?_
        refine JT_iadd dX12_netOf_46 ?_
        refine JT_istore_n (lv' := [(2, .int (a2 + (vX12_valueOf s a3))), (0, .ref 248), (1, .int a1), (3, .int a3)]) dX12_netOf_47 rfl (Nat.le_of_ble_eq_true rfl) rfl ?_
        refine JT_iload_n (q := 0) dX12_netOf_48 rfl rfl ?_
        refine JT_aload_n (q := 1) dX12_netOf_49 rfl rfl ?_
        refine JT_iload_n (q := 3) dX12_netOf_50 rfl rfl ?_
        refine JT_iconst (v := 1) dX12_netOf_51 ic_1 ?_
        obtain ⟨o6, h⟩ := h
        refine JS_callVI (M' := MX12_of) (d' := 0) (As := [.int a3, .int (1 : Int32)]) (rest := [.int (a2 + (vX12_valueOf s a3))]) (P := (fun zv9 wm9 => (vX12_of s a3 (1 : Int32)) = zv9 ∧ s = wm9)) dX12_netOf_52 cvX12_265 okX12_of rfl (Nat.le_of_ble_eq_true rfl) BS_248 (Nat.le_of_ble_eq_true rfl) (Nat.le_of_ble_eq_true rfl) hci_12 (Nat.le_of_ble_eq_true rfl) (Nat.le_of_ble_eq_true rfl) (pX12_of  (a3) ((1 : Int32)) o6 ⟨rfl, rfl⟩) (fun zv9 wm9 hq9 => ?_)
        obtain ⟨rfl, rfl⟩ := hq9
        refine JT_iload_n (q := 2) dX12_netOf_55 rfl rfl ?_
        refine JT_icmp_ne (tgt := 67) dX12_netOf_56 (by decide) (fun hc5 => ?_) (fun hc5 => ?_)
        · have h := h.1 hc5
          refine JT_iconst (v := 0) dX12_netOf_67 ic_0 ?_
          refine JT_isub dX12_netOf_68 ?_
          refine JT_istore_n (lv' := [(2, .int ((a2 + (vX12_valueOf s a3)) - (0 : Int32))), (0, .ref 248), (1, .int a1), (3, .int a3)]) dX12_netOf_69 rfl (Nat.le_of_ble_eq_true rfl) rfl ?_
          refine JT_iinc (q := 3) (v := (a3 + 1)) (lv' := [(3, .int (a3 + 1)), (2, .int ((a2 + (vX12_valueOf s a3)) - (0 : Int32))), (0, .ref 248), (1, .int a1)]) dX12_netOf_70 rfl (by rfl) (Nat.le_of_ble_eq_true rfl) rfl ?_
          refine JT_goto (tgt := 4) dX12_netOf_73 (by decide) ?_
          exact JT_sub [2, 3, 1, 0] rfl h
        · have h := h.2 hc5
          refine JT_aload_n (q := 1) dX12_netOf_59 rfl rfl ?_
          refine JT_iload_n (q := 3) dX12_netOf_60 rfl rfl ?_
          obtain ⟨o4, h⟩ := h
          refine JS_callVI (M' := MX12_valueOf) (d' := 2) (As := [.int a3]) (rest := [.int (a2 + (vX12_valueOf s a3))]) (P := (fun zv9 wm9 => (vX12_valueOf s a3) = zv9 ∧ s = wm9)) dX12_netOf_61 cvX12_281 okX12_valueOf rfl (Nat.le_of_ble_eq_true rfl) BS_248 (Nat.le_of_ble_eq_true rfl) (Nat.le_of_ble_eq_true rfl) hci_12 (Nat.le_of_ble_eq_true rfl) (Nat.le_of_ble_eq_true rfl) (pX12_valueOf  (a3) o4 ⟨rfl, rfl⟩) (fun zv9 wm9 hq9 => ?_)
          obtain ⟨rfl, rfl⟩ := hq9
          refine JT_goto (tgt := 68) dX12_netOf_64 (by decide) ?_
          refine JT_isub dX12_netOf_68 ?_
          refine JT_istore_n (lv' := [(2, .int ((a2 + (vX12_valueOf s a3)) - (vX12_valueOf s a3))), (0, .ref 248), (1, .int a1), (3, .int a3)]) dX12_netOf_69 rfl (Nat.le_of_ble_eq_true rfl) rfl ?_
          refine JT_iinc (q := 3) (v := (a3 + 1)) (lv' := [(3, .int (a3 + 1)), (2, .int ((a2 + (vX12_valueOf s a3)) - (vX12_valueOf s a3))), (0, .ref 248), (1, .int a1)]) dX12_netOf_70 rfl (by rfl) (Nat.le_of_ble_eq_true rfl) rfl ?_
          refine JT_goto (tgt := 4) dX12_netOf_73 (by decide) ?_
          exact JT_sub [2, 3, 1, 0] rfl h
    · have h := h.2 hc10
      refine JT_goto (tgt := 70) dX12_netOf_23 (by decide) ?_
      refine JT_iinc (q := 3) (v := (a3 + 1)) (lv' := [(3, .int (a3 + 1)), (0, .ref 248), (1, .int a1), (2, .int a2)]) dX12_netOf_70 rfl (by rfl) (Nat.le_of_ble_eq_true rfl) rfl ?_
      refine JT_goto (tgt := 4) dX12_netOf_73 (by decide) ?_
      exact JT_sub [1, 2, 3, 0] rfl h
set_option maxRecDepth 20000 in
theorem bX12_netOf (a1 : Int32) {s : SM} {Q : Int32 → SM → Prop} (h : BI MX12_netOf 3 4 [(0, .ref 248), (1, .int a1), (2, .int (0 : Int32)), (3, .int (0 : Int32))] s Q) : KI MX12_netOf 3 [.ref 248, .int a1] s Q := by
  show BI MX12_netOf 3 0 [(0, .ref 248), (1, .int a1)] s Q
  refine JT_iconst (v := 0) dX12_netOf_0 ic_0 ?_
  refine JT_istore_n (lv' := [(2, .int (0 : Int32)), (0, .ref 248), (1, .int a1)]) dX12_netOf_1 rfl (Nat.le_of_ble_eq_true rfl) rfl ?_
  refine JT_iconst (v := 0) dX12_netOf_2 ic_0 ?_
  refine JT_istore_n (lv' := [(3, .int (0 : Int32)), (2, .int (0 : Int32)), (0, .ref 248), (1, .int a1)]) dX12_netOf_3 rfl (Nat.le_of_ble_eq_true rfl) rfl ?_
  exact JT_sub [2, 3, 1, 0] rfl h
set_option maxRecDepth 20000 in
theorem bX12_openMany_4 (a1 : Int32) (a2 : Int32) {s : SM} {Q : Int32 → SM → Prop} (h : (((gI s 250 ((34 : Int32)).toNatClampNeg) ≤ a2 → Q a1 s) ∧ (¬ (gI s 250 ((34 : Int32)).toNatClampNeg) ≤ a2 → rX12_isOpen s a2 ∧ BI MX12_openMany 3 4 [(0, .ref 248), (1, .int (a1 + (if (vX12_isOpen s a2) = 0 then (0 : Int32) else (1 : Int32)))), (2, .int (a2 + 1))] s Q))) : BI MX12_openMany 3 4 [(0, .ref 248), (1, .int a1), (2, .int a2)] s Q := by
  refine JT_iload_n (q := 2) dX12_openMany_4 rfl rfl ?_
  refine JT_aload_n (q := 0) dX12_openMany_5 rfl rfl ?_
  refine JS_getR (x := 250) dX12_openMany_6 flX12_33 BS_248 (Nat.le_of_ble_eq_true rfl) (Nat.le_of_ble_eq_true rfl) (Or.inr ⟨_, ct_12_6⟩) RF_248_6 ?_
  refine JT_bipush (v := 34) dX12_openMany_9 bp_34 ?_
  refine JS_iald dX12_openMany_11 BS_250 (Nat.le_of_ble_eq_true rfl) (Nat.le_of_ble_eq_true rfl) (by unfold vp_in; decide) ?_
  refine JT_icmp_ge (tgt := 37) dX12_openMany_12 (by decide) (fun hc4 => ?_) (fun hc4 => ?_)
  · have h := h.1 hc4
    refine JT_iload_n (q := 1) dX12_openMany_37 rfl rfl ?_
    exact JS_iret dX12_openMany_38 rfl rfl h
  · have h := h.2 hc4
    refine JT_iload_n (q := 1) dX12_openMany_15 rfl rfl ?_
    refine JT_aload_n (q := 0) dX12_openMany_16 rfl rfl ?_
    refine JT_iload_n (q := 2) dX12_openMany_17 rfl rfl ?_
    obtain ⟨o3, h⟩ := h
    refine JS_callVI (M' := MX12_isOpen) (d' := 2) (As := [.int a2]) (rest := [.int a1]) (P := (fun zv9 wm9 => (vX12_isOpen s a2) = zv9 ∧ s = wm9)) dX12_openMany_18 cvX12_278 okX12_isOpen rfl (Nat.le_of_ble_eq_true rfl) BS_248 (Nat.le_of_ble_eq_true rfl) (Nat.le_of_ble_eq_true rfl) hci_12 (Nat.le_of_ble_eq_true rfl) (Nat.le_of_ble_eq_true rfl) (pX12_isOpen  (a2) o3 ⟨rfl, rfl⟩) (fun zv9 wm9 hq9 => ?_)
    obtain ⟨rfl, rfl⟩ := hq9
    have hj1 : ∀ v : Int32, v = (if (vX12_isOpen s a2) = 0 then (0 : Int32) else (1 : Int32)) → JT MX12_openMany 3 0 0 29 [(0, .ref 248), (1, .int a1), (2, .int a2)] [.int v, .int a1] (std s) (KQ Q) := by
      intro v hv
      subst hv
      refine JT_iadd dX12_openMany_29 ?_
      refine JT_istore_n (lv' := [(1, .int (a1 + (if (vX12_isOpen s a2) = 0 then (0 : Int32) else (1 : Int32)))), (0, .ref 248), (2, .int a2)]) dX12_openMany_30 rfl (Nat.le_of_ble_eq_true rfl) rfl ?_
      refine JT_iinc (q := 2) (v := (a2 + 1)) (lv' := [(2, .int (a2 + 1)), (1, .int (a1 + (if (vX12_isOpen s a2) = 0 then (0 : Int32) else (1 : Int32)))), (0, .ref 248)]) dX12_openMany_31 rfl (by rfl) (Nat.le_of_ble_eq_true rfl) rfl ?_
      refine JT_goto (tgt := 4) dX12_openMany_34 (by decide) ?_
      exact JT_sub [2, 1, 0] rfl h
    refine JT_if_eq (tgt := 28) dX12_openMany_21 (by decide) (fun hc2 => ?_) (fun hc2 => ?_)
    · refine JT_iconst (v := 0) dX12_openMany_28 ic_0 ?_
      exact hj1 _ (by rw [if_pos hc2])
    · refine JT_iconst (v := 1) dX12_openMany_24 ic_1 ?_
      refine JT_goto (tgt := 29) dX12_openMany_25 (by decide) ?_
      exact hj1 _ (by rw [if_neg hc2])
set_option maxRecDepth 20000 in
theorem bX12_openMany  {s : SM} {Q : Int32 → SM → Prop} (h : BI MX12_openMany 3 4 [(0, .ref 248), (1, .int (0 : Int32)), (2, .int (0 : Int32))] s Q) : KI MX12_openMany 3 [.ref 248] s Q := by
  show BI MX12_openMany 3 0 [(0, .ref 248)] s Q
  refine JT_iconst (v := 0) dX12_openMany_0 ic_0 ?_
  refine JT_istore_n (lv' := [(1, .int (0 : Int32)), (0, .ref 248)]) dX12_openMany_1 rfl (Nat.le_of_ble_eq_true rfl) rfl ?_
  refine JT_iconst (v := 0) dX12_openMany_2 ic_0 ?_
  refine JT_istore_n (lv' := [(2, .int (0 : Int32)), (1, .int (0 : Int32)), (0, .ref 248)]) dX12_openMany_3 rfl (Nat.le_of_ble_eq_true rfl) rfl ?_
  exact JT_sub [2, 1, 0] rfl h
