set_option maxRecDepth 20000 in
theorem bX12_of (a1 : Int32) (a2 : Int32) {s : SM} {Q : Int32 → SM → Prop} (h : vp_in (((46 : Int32) + ((9 : Int32) * a1)) + a2) 787 ∧ Q (gI s 250 ((((46 : Int32) + ((9 : Int32) * a1)) + a2)).toNatClampNeg) s) : KI MX12_of 0 [.ref 248, .int a1, .int a2] s Q := by
  show BI MX12_of 0 0 [(0, .ref 248), (1, .int a1), (2, .int a2)] s Q
  refine JT_aload_n (q := 0) dX12_of_0 rfl rfl ?_
  refine JS_getR (x := 250) dX12_of_1 flX12_33 BS_248 (Nat.le_of_ble_eq_true rfl) (Nat.le_of_ble_eq_true rfl) (Or.inr ⟨_, ct_12_6⟩) RF_248_6 ?_
  refine JT_bipush (v := 46) dX12_of_4 bp_46 ?_
  refine JT_bipush (v := 9) dX12_of_6 bp_9 ?_
  refine JT_iload_n (q := 1) dX12_of_8 rfl rfl ?_
  refine JT_imul dX12_of_9 ?_
  refine JT_iadd dX12_of_10 ?_
  refine JT_iload_n (q := 2) dX12_of_11 rfl rfl ?_
  refine JT_iadd dX12_of_12 ?_
  obtain ⟨o1, h⟩ := h
  refine JS_iald dX12_of_13 BS_250 (Nat.le_of_ble_eq_true rfl) (Nat.le_of_ble_eq_true rfl) o1 ?_
  exact JS_iret dX12_of_14 rfl rfl h
set_option maxRecDepth 20000 in
def vX12_of (s : SM) (a1 : Int32) (a2 : Int32) : Int32 := (gI s 250 ((((46 : Int32) + ((9 : Int32) * a1)) + a2)).toNatClampNeg)
set_option maxRecDepth 20000 in
def rX12_of (s : SM) (a1 : Int32) (a2 : Int32) : Prop := vp_in (((46 : Int32) + ((9 : Int32) * a1)) + a2) 787
set_option maxRecDepth 20000 in
theorem pX12_of (a1 : Int32) (a2 : Int32) {s : SM} {Q : Int32 → SM → Prop} (hr : rX12_of s a1 a2) (h : Q (vX12_of s a1 a2) s) : KI MX12_of 0 [.ref 248, .int a1, .int a2] s Q := by
  refine bX12_of a1 a2 ?_
  unfold rX12_of at hr
  unfold vX12_of at h
  refine ⟨hr, ?_⟩
  exact h
set_option maxRecDepth 20000 in
theorem bX12_set (a1 : Int32) (a2 : Int32) (a3 : Int32) {s : SM} {Q : SM → Prop} (h : vp_in (((46 : Int32) + ((9 : Int32) * a1)) + a2) 787 ∧ Q (pI s 250 ((((46 : Int32) + ((9 : Int32) * a1)) + a2)).toNatClampNeg a3)) : KV MX12_set 0 [.ref 248, .int a1, .int a2, .int a3] s Q := by
  show BV MX12_set 0 0 [(0, .ref 248), (1, .int a1), (2, .int a2), (3, .int a3)] s Q
  refine JT_aload_n (q := 0) dX12_set_0 rfl rfl ?_
  refine JS_getR (x := 250) dX12_set_1 flX12_33 BS_248 (Nat.le_of_ble_eq_true rfl) (Nat.le_of_ble_eq_true rfl) (Or.inr ⟨_, ct_12_6⟩) RF_248_6 ?_
  refine JT_bipush (v := 46) dX12_set_4 bp_46 ?_
  refine JT_bipush (v := 9) dX12_set_6 bp_9 ?_
  refine JT_iload_n (q := 1) dX12_set_8 rfl rfl ?_
  refine JT_imul dX12_set_9 ?_
  refine JT_iadd dX12_set_10 ?_
  refine JT_iload_n (q := 2) dX12_set_11 rfl rfl ?_
  refine JT_iadd dX12_set_12 ?_
  refine JT_iload_n (q := 3) dX12_set_13 rfl rfl ?_
  obtain ⟨o1, h⟩ := h
  refine JS_iast dX12_set_14 BS_250 (Nat.le_of_ble_eq_true rfl) (Nat.le_of_ble_eq_true rfl) o1 ?_
  exact JS_vret dX12_set_15 rfl h
set_option maxRecDepth 20000 in
def mX12_set (s : SM) (a1 : Int32) (a2 : Int32) (a3 : Int32) : SM := (pI s 250 ((((46 : Int32) + ((9 : Int32) * a1)) + a2)).toNatClampNeg a3)
set_option maxRecDepth 20000 in
def rX12_set (s : SM) (a1 : Int32) (a2 : Int32) (a3 : Int32) : Prop := vp_in (((46 : Int32) + ((9 : Int32) * a1)) + a2) 787
set_option maxRecDepth 20000 in
theorem pX12_set (a1 : Int32) (a2 : Int32) (a3 : Int32) {s : SM} {Q : SM → Prop} (hr : rX12_set s a1 a2 a3) (h : Q (mX12_set s a1 a2 a3)) : KV MX12_set 0 [.ref 248, .int a1, .int a2, .int a3] s Q := by
  refine bX12_set a1 a2 a3 ?_
  unfold rX12_set at hr
  unfold mX12_set at h
  refine ⟨hr, ?_⟩
  exact h
set_option maxRecDepth 20000 in
theorem bX4_begin {L0 P0 : Nat} (hL0 : (L0, P0) ∈ LX) {s : SM} {Q : SM → Prop} (h : BV MX4_begin 0 17 [(0, .ref L0), (1, .int (0 : Int32))] (pI (pI (pI s L0 9 (0 : Int32)) L0 10 (0 : Int32)) L0 14 (0 : Int32)) Q) : KV MX4_begin 0 [.ref L0] s Q := by
  show BV MX4_begin 0 0 [(0, .ref L0)] s Q
  refine JT_aload_n (q := 0) dX4_begin_0 rfl rfl ?_
  refine JT_iconst (v := 0) dX4_begin_1 ic_0 ?_
  refine JS_putI dX4_begin_2 flX4_49 (lxB hL0) (lx2 hL0) (lxN hL0) ct_4_9 ?_
  refine JT_aload_n (q := 0) dX4_begin_5 rfl rfl ?_
  refine JT_iconst (v := 0) dX4_begin_6 ic_0 ?_
  refine JS_putI dX4_begin_7 flX4_53 (lxB hL0) (lx2 hL0) (lxN hL0) ct_4_10 ?_
  refine JT_aload_n (q := 0) dX4_begin_10 rfl rfl ?_
  refine JT_iconst (v := 0) dX4_begin_11 ic_0 ?_
  refine JS_putI dX4_begin_12 flX4_56 (lxB hL0) (lx2 hL0) (lxN hL0) ct_4_14 ?_
  refine JT_iconst (v := 0) dX4_begin_15 ic_0 ?_
  refine JT_istore_n (lv' := [(1, .int (0 : Int32)), (0, .ref L0)]) dX4_begin_16 rfl (Nat.le_of_ble_eq_true rfl) rfl ?_
  exact JT_sub [1, 0] rfl h
set_option maxRecDepth 20000 in
theorem bX4_hasDeal {L0 P0 : Nat} (hL0 : (L0, P0) ∈ LX) (a1 : Int32) {s : SM} {Q : Int32 → SM → Prop} (h : Q (if a1 < 0 then (0 : Int32) else (if (gI s L0 9) ≤ a1 then (0 : Int32) else (if (60 : Int32) ≤ a1 then (0 : Int32) else (1 : Int32)))) s) : KI MX4_hasDeal 0 [.ref L0, .int a1] s Q := by
  show BI MX4_hasDeal 0 0 [(0, .ref L0), (1, .int a1)] s Q
  refine JT_iload_n (q := 1) dX4_hasDeal_0 rfl rfl ?_
  have hj1 : ∀ v : Int32, v = (if a1 < 0 then (0 : Int32) else (if (gI s L0 9) ≤ a1 then (0 : Int32) else (if (60 : Int32) ≤ a1 then (0 : Int32) else (1 : Int32)))) → JT MX4_hasDeal 0 0 0 23 [(0, .ref L0), (1, .int a1)] [.int v] (std s) (KQ Q) := by
    intro v hv
    subst hv
    exact JS_iret dX4_hasDeal_23 rfl (n01 (i01 (Or.inl rfl) (i01 (Or.inl rfl) (i01 (Or.inl rfl) (Or.inr rfl))))) h
  refine JT_if_lt (tgt := 22) dX4_hasDeal_1 (by decide) (fun hc2 => ?_) (fun hc2 => ?_)
  · refine JT_iconst (v := 0) dX4_hasDeal_22 ic_0 ?_
    exact hj1 _ (by rw [if_pos hc2])
  · refine JT_iload_n (q := 1) dX4_hasDeal_4 rfl rfl ?_
    refine JT_aload_n (q := 0) dX4_hasDeal_5 rfl rfl ?_
    refine JS_getI dX4_hasDeal_6 flX4_49 (lxB hL0) (lx2 hL0) (lxN hL0) (Or.inl ct_4_9) ?_
    refine JT_icmp_ge (tgt := 22) dX4_hasDeal_9 (by decide) (fun hc3 => ?_) (fun hc3 => ?_)
    · refine JT_iconst (v := 0) dX4_hasDeal_22 ic_0 ?_
      exact hj1 _ (by rw [if_neg hc2, if_pos hc3])
    · refine JT_iload_n (q := 1) dX4_hasDeal_12 rfl rfl ?_
      refine JT_bipush (v := 60) dX4_hasDeal_13 bp_60 ?_
      refine JT_icmp_ge (tgt := 22) dX4_hasDeal_15 (by decide) (fun hc4 => ?_) (fun hc4 => ?_)
      · refine JT_iconst (v := 0) dX4_hasDeal_22 ic_0 ?_
        exact hj1 _ (by rw [if_neg hc2, if_neg hc3, if_pos hc4])
      · refine JT_iconst (v := 1) dX4_hasDeal_18 ic_1 ?_
        refine JT_goto (tgt := 23) dX4_hasDeal_19 (by decide) ?_
        exact hj1 _ (by rw [if_neg hc2, if_neg hc3, if_neg hc4])
set_option maxRecDepth 20000 in
def vX4_hasDeal (s : SM) (L0 P0 : Nat) (a1 : Int32) : Int32 := (if a1 < 0 then (0 : Int32) else (if (gI s L0 9) ≤ a1 then (0 : Int32) else (if (60 : Int32) ≤ a1 then (0 : Int32) else (1 : Int32))))
set_option maxRecDepth 20000 in
theorem zX4_hasDeal (s : SM) (L0 P0 : Nat) (a1 : Int32) : vX4_hasDeal s L0 P0 a1 = 0 ∨ vX4_hasDeal s L0 P0 a1 = 1 := (i01 (Or.inl rfl) (i01 (Or.inl rfl) (i01 (Or.inl rfl) (Or.inr rfl))))
set_option maxRecDepth 20000 in
theorem pX4_hasDeal {L0 P0 : Nat} (hL0 : (L0, P0) ∈ LX) (a1 : Int32) {s : SM} {Q : Int32 → SM → Prop} (h : Q (vX4_hasDeal s L0 P0 a1) s) : KI MX4_hasDeal 0 [.ref L0, .int a1] s Q := by
  refine bX4_hasDeal hL0 a1 ?_
  unfold vX4_hasDeal at h
  exact h
set_option maxRecDepth 20000 in
theorem bX4_lives {L0 P0 : Nat} (hL0 : (L0, P0) ∈ LX) (a1 : Int32) {s : SM} {Q : Int32 → SM → Prop} (h : Q (if (((gI s L0 14) >>> (a1 &&& 31)) &&& (1 : Int32)) = 0 then (1 : Int32) else (0 : Int32)) s) : KI MX4_lives 0 [.ref L0, .int a1] s Q := by
  show BI MX4_lives 0 0 [(0, .ref L0), (1, .int a1)] s Q
  refine JT_aload_n (q := 0) dX4_lives_0 rfl rfl ?_
  refine JS_getI dX4_lives_1 flX4_56 (lxB hL0) (lx2 hL0) (lxN hL0) (Or.inl ct_4_14) ?_
  refine JT_iload_n (q := 1) dX4_lives_4 rfl rfl ?_
  refine JT_ishr dX4_lives_5 ?_
  refine JT_iconst (v := 1) dX4_lives_6 ic_1 ?_
  refine JT_iand dX4_lives_7 ?_
  have hj1 : ∀ v : Int32, v = (if (((gI s L0 14) >>> (a1 &&& 31)) &&& (1 : Int32)) = 0 then (1 : Int32) else (0 : Int32)) → JT MX4_lives 0 0 0 16 [(0, .ref L0), (1, .int a1)] [.int v] (std s) (KQ Q) := by
    intro v hv
    subst hv
    exact JS_iret dX4_lives_16 rfl (n01 (i01 (Or.inr rfl) (Or.inl rfl))) h
  refine JT_if_ne (tgt := 15) dX4_lives_8 (by decide) (fun hc2 => ?_) (fun hc2 => ?_)
  · refine JT_iconst (v := 0) dX4_lives_15 ic_0 ?_
    exact hj1 _ (by rw [if_neg hc2])
  · refine JT_iconst (v := 1) dX4_lives_11 ic_1 ?_
    refine JT_goto (tgt := 16) dX4_lives_12 (by decide) ?_
    exact hj1 _ (by rw [if_pos hc2])
set_option maxRecDepth 20000 in
def vX4_lives (s : SM) (L0 P0 : Nat) (a1 : Int32) : Int32 := (if (((gI s L0 14) >>> (a1 &&& 31)) &&& (1 : Int32)) = 0 then (1 : Int32) else (0 : Int32))
set_option maxRecDepth 20000 in
theorem zX4_lives (s : SM) (L0 P0 : Nat) (a1 : Int32) : vX4_lives s L0 P0 a1 = 0 ∨ vX4_lives s L0 P0 a1 = 1 := (i01 (Or.inr rfl) (Or.inl rfl))
set_option maxRecDepth 20000 in
theorem pX4_lives {L0 P0 : Nat} (hL0 : (L0, P0) ∈ LX) (a1 : Int32) {s : SM} {Q : Int32 → SM → Prop} (h : Q (vX4_lives s L0 P0 a1) s) : KI MX4_lives 0 [.ref L0, .int a1] s Q := by
  refine bX4_lives hL0 a1 ?_
  unfold vX4_lives at h
  exact h
set_option maxRecDepth 20000 in
theorem bX4_marksOn_5 {L0 P0 : Nat} (hL0 : (L0, P0) ∈ LX) (a1 : Int32) (a2 : Int32) (a3 : Int32) (a4 : Int32) {s : SM} {Q : Int32 → SM → Prop} (h : (((gI s L0 9) ≤ a4 → Q a3 s) ∧ (¬ (gI s L0 9) ≤ a4 → vp_in a4 60 ∧ ((a2 < (gI s (L0 + 5) (a4).toNatClampNeg) → BI MX4_marksOn 0 5 [(0, .ref L0), (1, .int a1), (2, .int a2), (3, .int a3), (4, .int (a4 + 1))] s Q) ∧ (¬ a2 < (gI s (L0 + 5) (a4).toNatClampNeg) → vp_in a4 60 ∧ vp_in a4 60 ∧ BI MX4_marksOn 0 5 [(0, .ref L0), (1, .int a1), (2, .int a2), (3, .int ((a3 + (if (gI s (L0 + 9) (a4).toNatClampNeg) = a1 then (1 : Int32) else (0 : Int32))) + (if (gI s (L0 + 10) (a4).toNatClampNeg) = a1 then (1 : Int32) else (0 : Int32)))), (4, .int (a4 + 1))] s Q))))) : BI MX4_marksOn 0 5 [(0, .ref L0), (1, .int a1), (2, .int a2), (3, .int a3), (4, .int a4)] s Q := by
  refine JT_iload (q := 4) dX4_marksOn_5 rfl ?_
  refine JT_aload_n (q := 0) dX4_marksOn_7 rfl rfl ?_
  refine JS_getI dX4_marksOn_8 flX4_49 (lxB hL0) (lx2 hL0) (lxN hL0) (Or.inl ct_4_9) ?_
  refine JT_icmp_ge (tgt := 69) dX4_marksOn_11 (by decide) (fun hc9 => ?_) (fun hc9 => ?_)
  · have h := h.1 hc9
    refine JT_iload_n (q := 3) dX4_marksOn_69 rfl rfl ?_
    exact JS_iret dX4_marksOn_70 rfl rfl h
  · have h := h.2 hc9
    refine JT_aload_n (q := 0) dX4_marksOn_14 rfl rfl ?_
    refine JS_getR (x := (L0 + 5)) dX4_marksOn_15 flX4_24 (lxB hL0) (lx2 hL0) (lxN hL0) (Or.inr ⟨_, ct_4_4⟩) (lxR4 hL0) ?_
    refine JT_iload (q := 4) dX4_marksOn_18 rfl ?_
    obtain ⟨o1, h⟩ := h
    refine JS_iald dX4_marksOn_20 (lxB5 hL0) (lx2k hL0 _) (lxNk hL0 (Nat.le_of_ble_eq_true rfl)) o1 ?_
    refine JT_iload_n (q := 2) dX4_marksOn_21 rfl rfl ?_
    refine JT_icmp_gt (tgt := 63) dX4_marksOn_22 (by decide) (fun hc8 => ?_) (fun hc8 => ?_)
    · have h := h.1 hc8
      refine JT_iinc (q := 4) (v := (a4 + 1)) (lv' := [(4, .int (a4 + 1)), (0, .ref L0), (1, .int a1), (2, .int a2), (3, .int a3)]) dX4_marksOn_63 rfl (by rfl) (Nat.le_of_ble_eq_true rfl) rfl ?_
      refine JT_goto (tgt := 5) dX4_marksOn_66 (by decide) ?_
      exact JT_sub [1, 2, 3, 4, 0] rfl h
    · have h := h.2 hc8
      refine JT_iload_n (q := 3) dX4_marksOn_25 rfl rfl ?_
      refine JT_aload_n (q := 0) dX4_marksOn_26 rfl rfl ?_
      refine JS_getR (x := (L0 + 9)) dX4_marksOn_27 flX4_36 (lxB hL0) (lx2 hL0) (lxN hL0) (Or.inr ⟨_, ct_4_11⟩) (lxR11 hL0) ?_
      refine JT_iload (q := 4) dX4_marksOn_30 rfl ?_
      obtain ⟨o2, h⟩ := h
      refine JS_iald dX4_marksOn_32 (lxB9 hL0) (lx2k hL0 _) (lxNk hL0 (Nat.le_of_ble_eq_true rfl)) o2 ?_
      refine JT_iload_n (q := 1) dX4_marksOn_33 rfl rfl ?_
      have hj6 : ∀ v : Int32, v = (if (gI s (L0 + 9) (a4).toNatClampNeg) = a1 then (1 : Int32) else (0 : Int32)) → JT MX4_marksOn 0 0 0 42 [(0, .ref L0), (1, .int a1), (2, .int a2), (3, .int a3), (4, .int a4)] [.int v, .int a3] (std s) (KQ Q) := by
        intro v hv
        subst hv
        refine JT_iadd dX4_marksOn_42 ?_
        refine JT_istore_n (lv' := [(3, .int (a3 + (if (gI s (L0 + 9) (a4).toNatClampNeg) = a1 then (1 : Int32) else (0 : Int32)))), (0, .ref L0), (1, .int a1), (2, .int a2), (4, .int a4)]) dX4_marksOn_43 rfl (Nat.le_of_ble_eq_true rfl) rfl ?_
        refine JT_iload_n (q := 0) dX4_marksOn_44 rfl rfl ?_
        refine JT_aload_n (q := 1) dX4_marksOn_45 rfl rfl ?_
        refine JS_getR (x := (L0 + 10)) dX4_marksOn_46 flX4_39 (lxB hL0) (lx2 hL0) (lxN hL0) (Or.inr ⟨_, ct_4_12⟩) (lxR12 hL0) ?_
        refine JT_iload (q := 4) dX4_marksOn_49 rfl ?_
        obtain ⟨o3, h⟩ := h
        refine JS_iald dX4_marksOn_51 (lxB10 hL0) (lx2k hL0 _) (lxNk hL0 (Nat.le_of_ble_eq_true rfl)) o3 ?_
        refine JT_iload_n (q := 2) dX4_marksOn_52 rfl rfl ?_
        have hj4 : ∀ v : Int32, v = (if (gI s (L0 + 10) (a4).toNatClampNeg) = a1 then (1 : Int32) else (0 : Int32)) → JT MX4_marksOn 0 0 0 61 [(3, .int (a3 + (if (gI s (L0 + 9) (a4).toNatClampNeg) = a1 then (1 : Int32) else (0 : Int32)))), (0, .ref L0), (1, .int a1), (2, .int a2), (4, .int a4)] [.int v, .int (a3 + (if (gI s (L0 + 9) (a4).toNatClampNeg) = a1 then (1 : Int32) else (0 : Int32)))] (std s) (KQ Q) := by
          intro v hv
          subst hv
          refine JT_iadd dX4_marksOn_61 ?_
          refine JT_istore_n (lv' := [(3, .int ((a3 + (if (gI s (L0 + 9) (a4).toNatClampNeg) = a1 then (1 : Int32) else (0 : Int32))) + (if (gI s (L0 + 10) (a4).toNatClampNeg) = a1 then (1 : Int32) else (0 : Int32)))), (0, .ref L0), (1, .int a1), (2, .int a2), (4, .int a4)]) dX4_marksOn_62 rfl (Nat.le_of_ble_eq_true rfl) rfl ?_
          refine JT_iinc (q := 4) (v := (a4 + 1)) (lv' := [(4, .int (a4 + 1)), (3, .int ((a3 + (if (gI s (L0 + 9) (a4).toNatClampNeg) = a1 then (1 : Int32) else (0 : Int32))) + (if (gI s (L0 + 10) (a4).toNatClampNeg) = a1 then (1 : Int32) else (0 : Int32)))), (0, .ref L0), (1, .int a1), (2, .int a2)]) dX4_marksOn_63 rfl (by rfl) (Nat.le_of_ble_eq_true rfl) rfl ?_
          refine JT_goto (tgt := 5) dX4_marksOn_66 (by decide) ?_
          exact JT_sub [2, 3, 4, 1, 0] rfl h
        refine JT_icmp_ne (tgt := 60) dX4_marksOn_53 (by decide) (fun hc5 => ?_) (fun hc5 => ?_)
        · refine JT_iconst (v := 0) dX4_marksOn_60 ic_0 ?_
          exact hj4 _ (by rw [if_neg hc5])
        · refine JT_iconst (v := 1) dX4_marksOn_56 ic_1 ?_
          refine JT_goto (tgt := 61) dX4_marksOn_57 (by decide) ?_
          exact hj4 _ (by rw [if_pos hc5])
      refine JT_icmp_ne (tgt := 41) dX4_marksOn_34 (by decide) (fun hc7 => ?_) (fun hc7 => ?_)
      · refine JT_iconst (v := 0) dX4_marksOn_41 ic_0 ?_
        exact hj6 _ (by rw [if_neg hc7])
      · refine JT_iconst (v := 1) dX4_marksOn_37 ic_1 ?_
        refine JT_goto (tgt := 42) dX4_marksOn_38 (by decide) ?_
        exact hj6 _ (by rw [if_pos hc7])
set_option maxRecDepth 20000 in
theorem bX6_hasBody {p0 : Nat} (hp0 : p0 ∈ PX) (a1 : Int32) {s : SM} {Q : Int32 → SM → Prop} (h : Q (if a1 < 0 then (0 : Int32) else (if (gI s p0 6) ≤ a1 then (0 : Int32) else (if (9 : Int32) ≤ a1 then (0 : Int32) else (1 : Int32)))) s) : KI MX6_hasBody 0 [.ref p0, .int a1] s Q := by
  show BI MX6_hasBody 0 0 [(0, .ref p0), (1, .int a1)] s Q
  refine JT_iload_n (q := 1) dX6_hasBody_0 rfl rfl ?_
  have hj1 : ∀ v : Int32, v = (if a1 < 0 then (0 : Int32) else (if (gI s p0 6) ≤ a1 then (0 : Int32) else (if (9 : Int32) ≤ a1 then (0 : Int32) else (1 : Int32)))) → JT MX6_hasBody 0 0 0 23 [(0, .ref p0), (1, .int a1)] [.int v] (std s) (KQ Q) := by
    intro v hv
    subst hv
    exact JS_iret dX6_hasBody_23 rfl (n01 (i01 (Or.inl rfl) (i01 (Or.inl rfl) (i01 (Or.inl rfl) (Or.inr rfl))))) h
  refine JT_if_lt (tgt := 22) dX6_hasBody_1 (by decide) (fun hc2 => ?_) (fun hc2 => ?_)
  · refine JT_iconst (v := 0) dX6_hasBody_22 ic_0 ?_
    exact hj1 _ (by rw [if_pos hc2])
  · refine JT_iload_n (q := 1) dX6_hasBody_4 rfl rfl ?_
    refine JT_aload_n (q := 0) dX6_hasBody_5 rfl rfl ?_
    refine JS_getI dX6_hasBody_6 flX6_35 (pxB hp0) (px2 hp0) (pxN hp0) (Or.inl ct_6_6) ?_
    refine JT_icmp_ge (tgt := 22) dX6_hasBody_9 (by decide) (fun hc3 => ?_) (fun hc3 => ?_)
    · refine JT_iconst (v := 0) dX6_hasBody_22 ic_0 ?_
      exact hj1 _ (by rw [if_neg hc2, if_pos hc3])
    · refine JT_iload_n (q := 1) dX6_hasBody_12 rfl rfl ?_
      refine JT_bipush (v := 9) dX6_hasBody_13 bp_9 ?_
      refine JT_icmp_ge (tgt := 22) dX6_hasBody_15 (by decide) (fun hc4 => ?_) (fun hc4 => ?_)
      · refine JT_iconst (v := 0) dX6_hasBody_22 ic_0 ?_
        exact hj1 _ (by rw [if_neg hc2, if_neg hc3, if_pos hc4])
      · refine JT_iconst (v := 1) dX6_hasBody_18 ic_1 ?_
        refine JT_goto (tgt := 23) dX6_hasBody_19 (by decide) ?_
        exact hj1 _ (by rw [if_neg hc2, if_neg hc3, if_neg hc4])
set_option maxRecDepth 20000 in
def vX6_hasBody (s : SM) (p0 : Nat) (a1 : Int32) : Int32 := (if a1 < 0 then (0 : Int32) else (if (gI s p0 6) ≤ a1 then (0 : Int32) else (if (9 : Int32) ≤ a1 then (0 : Int32) else (1 : Int32))))
set_option maxRecDepth 20000 in
theorem zX6_hasBody (s : SM) (p0 : Nat) (a1 : Int32) : vX6_hasBody s p0 a1 = 0 ∨ vX6_hasBody s p0 a1 = 1 := (i01 (Or.inl rfl) (i01 (Or.inl rfl) (i01 (Or.inl rfl) (Or.inr rfl))))
set_option maxRecDepth 20000 in
theorem pX6_hasBody {p0 : Nat} (hp0 : p0 ∈ PX) (a1 : Int32) {s : SM} {Q : Int32 → SM → Prop} (h : Q (vX6_hasBody s p0 a1) s) : KI MX6_hasBody 0 [.ref p0, .int a1] s Q := by
  refine bX6_hasBody hp0 a1 ?_
  unfold vX6_hasBody at h
  exact h
