abbrev OpT : Type := Nat × Nat × Nat × Int
def op1 (m : JMem) (o : OpT) : JMem := match o.1 with
  | 0 => wN m
  | 1 => wR m o.2.1 o.2.2.1 o.2.2.2.toNat
  | 2 => wI m o.2.1 o.2.2.1 (Int32.ofInt o.2.2.2)
  | _ => wL m o.2.1 o.2.2.1 (Int64.ofInt o.2.2.2)
theorem mR_wR (m : JMem) (c i v a j : Nat) : mR (wR m c i v) a j = if a = c ∧ j = i then some v else mR m a j := by
  show rw1 (mR m) c (va_up (mR m c) i (some v)) a j = _
  unfold rw1 va_up
  by_cases h : a = c
  · subst h
    by_cases h2 : j = i <;> simp [h2]
  · simp [h]
def opN (o : OpT) : Nat := if o.1 = 0 then 1 else 0
theorem mN_op1 (m : JMem) (o : OpT) : mN (op1 m o) = mN m + opN o := by
  unfold op1 opN
  split <;> rename_i h
  · simp only [h]; rfl
  · simp only [h]; rfl
  · simp only [h]; rfl
  · rename_i _ h0 _; rw [if_neg h0]; rfl
theorem mN_fold (m : JMem) (ops : List OpT) : mN (List.foldl op1 m ops) = mN m + (ops.map opN).sum := by
  induction ops generalizing m with
  | nil => rfl
  | cons o t ih => rw [List.foldl_cons, ih, mN_op1, List.map_cons, List.sum_cons]; omega
theorem mR_fold (m : JMem) (ops : List OpT) (a : Nat) (hq : ops.all (fun o => o.1 != 1 || o.2.1 != a) = true) (j : Nat) : mR (List.foldl op1 m ops) a j = mR m a j := by
  induction ops generalizing m with
  | nil => rfl
  | cons o t ih =>
    rw [List.all_cons, Bool.and_eq_true] at hq
    rw [List.foldl_cons, ih _ hq.2]
    have h1 := hq.1
    unfold op1
    split
    · rfl
    · rename_i h; rw [mR_wR, if_neg]; rintro ⟨rfl, -⟩; simp [h] at h1
    · rfl
    · rfl
set_option maxRecDepth 1000000 in
def kX9_init_3o : List OpT := [(0, 0, 0, 0), (1, 3, 0, 4)]
set_option maxRecDepth 1000000 in
theorem kX9_init_3 (m : JMem) (hN : mN m = 4) : JC MX9_init 1 1 640 [.ref 3] m (fun v m1 => v = none ∧ m1 = List.foldl op1 m kX9_init_3o) := by
  show JT MX9_init 1 1 640 0 [(0, .ref 3)] [] m _
  refine JT_aload_n (q := 0) dX9_init_0 rfl rfl ?_
  refine JT_obj (d2 := 0) dX9_init_1 mlX9_3 (Nat.le_of_ble_eq_true rfl) rfl ?_
  refine JT_aload_n (q := 0) dX9_init_4 rfl rfl ?_
  refine JT_sipush (v := 640) dX9_init_5 (by decide) ?_
  refine JT_newa_int (mc := 0) (ms := 0) (N := 640) dX9_init_8 aw_int (by rw [hN]; exact BS_4) (by decide) (by decide) (by decide) ?_
  rw [hN]
  rw [show wN m = op1 m (0, 0, 0, 0) from rfl]
  obtain ⟨m1, e1⟩ : ∃ z, z = op1 m (0, 0, 0, 0) := ⟨_, rfl⟩
  rw [← e1]
  have hN1 : mN m1 = 5 := by rw [e1]; show mN m + 1 = _; rw [hN]
  refine JT_putF dX9_init_10 flX9_9 BS_3 (Nat.le_of_ble_eq_true rfl) (by rw [hN1]; decide) (Or.inr ⟨_, ct_9_0⟩) rfl (fun _ h => by cases h; rfl) ?_
  rw [show wR m1 3 0 4 = op1 m1 (1, 3, 0, 4) from rfl]
  obtain ⟨m2, e2⟩ : ∃ z, z = op1 m1 (1, 3, 0, 4) := ⟨_, rfl⟩
  rw [← e2]
  have hN2 : mN m2 = 5 := by rw [e2]; exact hN1
  refine JT_vret (st := []) dX9_init_13 rfl ⟨trivial, rfl, ?_⟩
  rw [e2, e1]
  simp only [kX9_init_3o, List.foldl_append, List.foldl_cons, List.foldl_nil]
set_option maxRecDepth 1000000 in
def kX6_init_5o : List OpT := [(0, 0, 0, 0), (1, 5, 0, 6), (0, 0, 0, 0), (1, 5, 1, 7), (0, 0, 0, 0), (1, 5, 2, 8), (0, 0, 0, 0), (1, 5, 3, 9), (0, 0, 0, 0), (1, 5, 4, 10), (0, 0, 0, 0), (1, 5, 5, 11), (2, 5, 8, 1)]
set_option maxRecDepth 1000000 in
theorem kX6_init_5 (m : JMem) (hN : mN m = 6) : JC MX6_init 1 6 45 [.ref 5] m (fun v m1 => v = none ∧ m1 = List.foldl op1 m kX6_init_5o) := by
  show JT MX6_init 1 6 45 0 [(0, .ref 5)] [] m _
  refine JT_aload_n (q := 0) dX6_init_0 rfl rfl ?_
  refine JT_obj (d2 := 0) dX6_init_1 mlX6_3 (Nat.le_of_ble_eq_true rfl) rfl ?_
  refine JT_aload_n (q := 0) dX6_init_4 rfl rfl ?_
  refine JT_bipush (v := 9) dX6_init_5 (by decide) ?_
  refine JT_newa_long (mc := 5) (ms := 36) (N := 9) dX6_init_7 aw_long (by rw [hN]; exact BS_6) (by decide) (by decide) (by decide) ?_
  rw [hN]
  rw [show wN m = op1 m (0, 0, 0, 0) from rfl]
  obtain ⟨m1, e1⟩ : ∃ z, z = op1 m (0, 0, 0, 0) := ⟨_, rfl⟩
  rw [← e1]
  have hN1 : mN m1 = 7 := by rw [e1]; show mN m + 1 = _; rw [hN]
  refine JT_putF dX6_init_9 flX6_9 BS_5 (Nat.le_of_ble_eq_true rfl) (by rw [hN1]; decide) (Or.inr ⟨_, ct_6_0⟩) rfl (fun _ h => by cases h; rfl) ?_
  rw [show wR m1 5 0 6 = op1 m1 (1, 5, 0, 6) from rfl]
  obtain ⟨m2, e2⟩ : ∃ z, z = op1 m1 (1, 5, 0, 6) := ⟨_, rfl⟩
  rw [← e2]
  have hN2 : mN m2 = 7 := by rw [e2]; exact hN1
  refine JT_aload_n (q := 0) dX6_init_12 rfl rfl ?_
  refine JT_bipush (v := 9) dX6_init_13 (by decide) ?_
  refine JT_newa_int (mc := 4) (ms := 27) (N := 9) dX6_init_15 aw_int (by rw [hN2]; exact BS_7) (by decide) (by decide) (by decide) ?_
  rw [hN2]
  rw [show wN m2 = op1 m2 (0, 0, 0, 0) from rfl]
  obtain ⟨m3, e3⟩ : ∃ z, z = op1 m2 (0, 0, 0, 0) := ⟨_, rfl⟩
  rw [← e3]
  have hN3 : mN m3 = 8 := by rw [e3]; show mN m2 + 1 = _; rw [hN2]
  refine JT_putF dX6_init_17 flX6_15 BS_5 (Nat.le_of_ble_eq_true rfl) (by rw [hN3]; decide) (Or.inr ⟨_, ct_6_1⟩) rfl (fun _ h => by cases h; rfl) ?_
  rw [show wR m3 5 1 7 = op1 m3 (1, 5, 1, 7) from rfl]
  obtain ⟨m4, e4⟩ : ∃ z, z = op1 m3 (1, 5, 1, 7) := ⟨_, rfl⟩
  rw [← e4]
  have hN4 : mN m4 = 8 := by rw [e4]; exact hN3
  refine JT_aload_n (q := 0) dX6_init_20 rfl rfl ?_
  refine JT_bipush (v := 9) dX6_init_21 (by decide) ?_
  refine JT_newa_int (mc := 3) (ms := 18) (N := 9) dX6_init_23 aw_int (by rw [hN4]; exact BS_8) (by decide) (by decide) (by decide) ?_
  rw [hN4]
  rw [show wN m4 = op1 m4 (0, 0, 0, 0) from rfl]
  obtain ⟨m5, e5⟩ : ∃ z, z = op1 m4 (0, 0, 0, 0) := ⟨_, rfl⟩
  rw [← e5]
  have hN5 : mN m5 = 9 := by rw [e5]; show mN m4 + 1 = _; rw [hN4]
  refine JT_putF dX6_init_25 flX6_19 BS_5 (Nat.le_of_ble_eq_true rfl) (by rw [hN5]; decide) (Or.inr ⟨_, ct_6_2⟩) rfl (fun _ h => by cases h; rfl) ?_
  rw [show wR m5 5 2 8 = op1 m5 (1, 5, 2, 8) from rfl]
  obtain ⟨m6, e6⟩ : ∃ z, z = op1 m5 (1, 5, 2, 8) := ⟨_, rfl⟩
  rw [← e6]
  have hN6 : mN m6 = 9 := by rw [e6]; exact hN5
  refine JT_aload_n (q := 0) dX6_init_28 rfl rfl ?_
  refine JT_bipush (v := 6) dX6_init_29 (by decide) ?_
  refine JT_newa_long (mc := 2) (ms := 12) (N := 6) dX6_init_31 aw_long (by rw [hN6]; exact BS_9) (by decide) (by decide) (by decide) ?_
  rw [hN6]
  rw [show wN m6 = op1 m6 (0, 0, 0, 0) from rfl]
  obtain ⟨m7, e7⟩ : ∃ z, z = op1 m6 (0, 0, 0, 0) := ⟨_, rfl⟩
  rw [← e7]
  have hN7 : mN m7 = 10 := by rw [e7]; show mN m6 + 1 = _; rw [hN6]
  refine JT_putF dX6_init_33 flX6_22 BS_5 (Nat.le_of_ble_eq_true rfl) (by rw [hN7]; decide) (Or.inr ⟨_, ct_6_3⟩) rfl (fun _ h => by cases h; rfl) ?_
  rw [show wR m7 5 3 9 = op1 m7 (1, 5, 3, 9) from rfl]
  obtain ⟨m8, e8⟩ : ∃ z, z = op1 m7 (1, 5, 3, 9) := ⟨_, rfl⟩
  rw [← e8]
  have hN8 : mN m8 = 10 := by rw [e8]; exact hN7
  refine JT_aload_n (q := 0) dX6_init_36 rfl rfl ?_
  refine JT_bipush (v := 6) dX6_init_37 (by decide) ?_
  refine JT_newa_int (mc := 1) (ms := 6) (N := 6) dX6_init_39 aw_int (by rw [hN8]; exact BS_10) (by decide) (by decide) (by decide) ?_
  rw [hN8]
  rw [show wN m8 = op1 m8 (0, 0, 0, 0) from rfl]
  obtain ⟨m9, e9⟩ : ∃ z, z = op1 m8 (0, 0, 0, 0) := ⟨_, rfl⟩
  rw [← e9]
  have hN9 : mN m9 = 11 := by rw [e9]; show mN m8 + 1 = _; rw [hN8]
  refine JT_putF dX6_init_41 flX6_25 BS_5 (Nat.le_of_ble_eq_true rfl) (by rw [hN9]; decide) (Or.inr ⟨_, ct_6_4⟩) rfl (fun _ h => by cases h; rfl) ?_
  rw [show wR m9 5 4 10 = op1 m9 (1, 5, 4, 10) from rfl]
  obtain ⟨m10, e10⟩ : ∃ z, z = op1 m9 (1, 5, 4, 10) := ⟨_, rfl⟩
  rw [← e10]
  have hN10 : mN m10 = 11 := by rw [e10]; exact hN9
  refine JT_aload_n (q := 0) dX6_init_44 rfl rfl ?_
  refine JT_bipush (v := 6) dX6_init_45 (by decide) ?_
  refine JT_newa_int (mc := 0) (ms := 0) (N := 6) dX6_init_47 aw_int (by rw [hN10]; exact BS_11) (by decide) (by decide) (by decide) ?_
  rw [hN10]
  rw [show wN m10 = op1 m10 (0, 0, 0, 0) from rfl]
  obtain ⟨m11, e11⟩ : ∃ z, z = op1 m10 (0, 0, 0, 0) := ⟨_, rfl⟩
  rw [← e11]
  have hN11 : mN m11 = 12 := by rw [e11]; show mN m10 + 1 = _; rw [hN10]
  refine JT_putF dX6_init_49 flX6_28 BS_5 (Nat.le_of_ble_eq_true rfl) (by rw [hN11]; decide) (Or.inr ⟨_, ct_6_5⟩) rfl (fun _ h => by cases h; rfl) ?_
  rw [show wR m11 5 5 11 = op1 m11 (1, 5, 5, 11) from rfl]
  obtain ⟨m12, e12⟩ : ∃ z, z = op1 m11 (1, 5, 5, 11) := ⟨_, rfl⟩
  rw [← e12]
  have hN12 : mN m12 = 12 := by rw [e12]; exact hN11
  refine JT_aload_n (q := 0) dX6_init_52 rfl rfl ?_
  refine JT_iconst (v := 1) dX6_init_53 (by decide) ?_
  refine JT_putI dX6_init_54 flX6_31 BS_5 (Nat.le_of_ble_eq_true rfl) (by rw [hN12]; decide) ct_6_8 ?_
  rw [show wI m12 5 8 (1) = op1 m12 (2, 5, 8, 1) from rfl]
  obtain ⟨m13, e13⟩ : ∃ z, z = op1 m12 (2, 5, 8, 1) := ⟨_, rfl⟩
  rw [← e13]
  have hN13 : mN m13 = 12 := by rw [e13]; exact hN12
  refine JT_vret (st := []) dX6_init_57 rfl ⟨trivial, rfl, ?_⟩
  rw [e13, e12, e11, e10, e9, e8, e7, e6, e5, e4, e3, e2, e1]
  simp only [kX6_init_5o, List.foldl_append, List.foldl_cons, List.foldl_nil]
set_option maxRecDepth 1000000 in
def kX6_init_12o : List OpT := [(0, 0, 0, 0), (1, 12, 0, 13), (0, 0, 0, 0), (1, 12, 1, 14), (0, 0, 0, 0), (1, 12, 2, 15), (0, 0, 0, 0), (1, 12, 3, 16), (0, 0, 0, 0), (1, 12, 4, 17), (0, 0, 0, 0), (1, 12, 5, 18), (2, 12, 8, 1)]
set_option maxRecDepth 1000000 in
theorem kX6_init_12 (m : JMem) (hN : mN m = 13) : JC MX6_init 1 6 45 [.ref 12] m (fun v m1 => v = none ∧ m1 = List.foldl op1 m kX6_init_12o) := by
  show JT MX6_init 1 6 45 0 [(0, .ref 12)] [] m _
  refine JT_aload_n (q := 0) dX6_init_0 rfl rfl ?_
  refine JT_obj (d2 := 0) dX6_init_1 mlX6_3 (Nat.le_of_ble_eq_true rfl) rfl ?_
  refine JT_aload_n (q := 0) dX6_init_4 rfl rfl ?_
  refine JT_bipush (v := 9) dX6_init_5 (by decide) ?_
  refine JT_newa_long (mc := 5) (ms := 36) (N := 9) dX6_init_7 aw_long (by rw [hN]; exact BS_13) (by decide) (by decide) (by decide) ?_
  rw [hN]
  rw [show wN m = op1 m (0, 0, 0, 0) from rfl]
  obtain ⟨m1, e1⟩ : ∃ z, z = op1 m (0, 0, 0, 0) := ⟨_, rfl⟩
  rw [← e1]
  have hN1 : mN m1 = 14 := by rw [e1]; show mN m + 1 = _; rw [hN]
  refine JT_putF dX6_init_9 flX6_9 BS_12 (Nat.le_of_ble_eq_true rfl) (by rw [hN1]; decide) (Or.inr ⟨_, ct_6_0⟩) rfl (fun _ h => by cases h; rfl) ?_
  rw [show wR m1 12 0 13 = op1 m1 (1, 12, 0, 13) from rfl]
  obtain ⟨m2, e2⟩ : ∃ z, z = op1 m1 (1, 12, 0, 13) := ⟨_, rfl⟩
  rw [← e2]
  have hN2 : mN m2 = 14 := by rw [e2]; exact hN1
  refine JT_aload_n (q := 0) dX6_init_12 rfl rfl ?_
  refine JT_bipush (v := 9) dX6_init_13 (by decide) ?_
  refine JT_newa_int (mc := 4) (ms := 27) (N := 9) dX6_init_15 aw_int (by rw [hN2]; exact BS_14) (by decide) (by decide) (by decide) ?_
  rw [hN2]
  rw [show wN m2 = op1 m2 (0, 0, 0, 0) from rfl]
  obtain ⟨m3, e3⟩ : ∃ z, z = op1 m2 (0, 0, 0, 0) := ⟨_, rfl⟩
  rw [← e3]
  have hN3 : mN m3 = 15 := by rw [e3]; show mN m2 + 1 = _; rw [hN2]
  refine JT_putF dX6_init_17 flX6_15 BS_12 (Nat.le_of_ble_eq_true rfl) (by rw [hN3]; decide) (Or.inr ⟨_, ct_6_1⟩) rfl (fun _ h => by cases h; rfl) ?_
  rw [show wR m3 12 1 14 = op1 m3 (1, 12, 1, 14) from rfl]
  obtain ⟨m4, e4⟩ : ∃ z, z = op1 m3 (1, 12, 1, 14) := ⟨_, rfl⟩
  rw [← e4]
  have hN4 : mN m4 = 15 := by rw [e4]; exact hN3
  refine JT_aload_n (q := 0) dX6_init_20 rfl rfl ?_
  refine JT_bipush (v := 9) dX6_init_21 (by decide) ?_
  refine JT_newa_int (mc := 3) (ms := 18) (N := 9) dX6_init_23 aw_int (by rw [hN4]; exact BS_15) (by decide) (by decide) (by decide) ?_
  rw [hN4]
  rw [show wN m4 = op1 m4 (0, 0, 0, 0) from rfl]
  obtain ⟨m5, e5⟩ : ∃ z, z = op1 m4 (0, 0, 0, 0) := ⟨_, rfl⟩
  rw [← e5]
  have hN5 : mN m5 = 16 := by rw [e5]; show mN m4 + 1 = _; rw [hN4]
  refine JT_putF dX6_init_25 flX6_19 BS_12 (Nat.le_of_ble_eq_true rfl) (by rw [hN5]; decide) (Or.inr ⟨_, ct_6_2⟩) rfl (fun _ h => by cases h; rfl) ?_
  rw [show wR m5 12 2 15 = op1 m5 (1, 12, 2, 15) from rfl]
  obtain ⟨m6, e6⟩ : ∃ z, z = op1 m5 (1, 12, 2, 15) := ⟨_, rfl⟩
  rw [← e6]
  have hN6 : mN m6 = 16 := by rw [e6]; exact hN5
  refine JT_aload_n (q := 0) dX6_init_28 rfl rfl ?_
  refine JT_bipush (v := 6) dX6_init_29 (by decide) ?_
  refine JT_newa_long (mc := 2) (ms := 12) (N := 6) dX6_init_31 aw_long (by rw [hN6]; exact BS_16) (by decide) (by decide) (by decide) ?_
  rw [hN6]
  rw [show wN m6 = op1 m6 (0, 0, 0, 0) from rfl]
  obtain ⟨m7, e7⟩ : ∃ z, z = op1 m6 (0, 0, 0, 0) := ⟨_, rfl⟩
  rw [← e7]
  have hN7 : mN m7 = 17 := by rw [e7]; show mN m6 + 1 = _; rw [hN6]
  refine JT_putF dX6_init_33 flX6_22 BS_12 (Nat.le_of_ble_eq_true rfl) (by rw [hN7]; decide) (Or.inr ⟨_, ct_6_3⟩) rfl (fun _ h => by cases h; rfl) ?_
  rw [show wR m7 12 3 16 = op1 m7 (1, 12, 3, 16) from rfl]
  obtain ⟨m8, e8⟩ : ∃ z, z = op1 m7 (1, 12, 3, 16) := ⟨_, rfl⟩
  rw [← e8]
  have hN8 : mN m8 = 17 := by rw [e8]; exact hN7
  refine JT_aload_n (q := 0) dX6_init_36 rfl rfl ?_
  refine JT_bipush (v := 6) dX6_init_37 (by decide) ?_
  refine JT_newa_int (mc := 1) (ms := 6) (N := 6) dX6_init_39 aw_int (by rw [hN8]; exact BS_17) (by decide) (by decide) (by decide) ?_
  rw [hN8]
  rw [show wN m8 = op1 m8 (0, 0, 0, 0) from rfl]
  obtain ⟨m9, e9⟩ : ∃ z, z = op1 m8 (0, 0, 0, 0) := ⟨_, rfl⟩
  rw [← e9]
  have hN9 : mN m9 = 18 := by rw [e9]; show mN m8 + 1 = _; rw [hN8]
  refine JT_putF dX6_init_41 flX6_25 BS_12 (Nat.le_of_ble_eq_true rfl) (by rw [hN9]; decide) (Or.inr ⟨_, ct_6_4⟩) rfl (fun _ h => by cases h; rfl) ?_
  rw [show wR m9 12 4 17 = op1 m9 (1, 12, 4, 17) from rfl]
  obtain ⟨m10, e10⟩ : ∃ z, z = op1 m9 (1, 12, 4, 17) := ⟨_, rfl⟩
  rw [← e10]
  have hN10 : mN m10 = 18 := by rw [e10]; exact hN9
  refine JT_aload_n (q := 0) dX6_init_44 rfl rfl ?_
  refine JT_bipush (v := 6) dX6_init_45 (by decide) ?_
  refine JT_newa_int (mc := 0) (ms := 0) (N := 6) dX6_init_47 aw_int (by rw [hN10]; exact BS_18) (by decide) (by decide) (by decide) ?_
  rw [hN10]
  rw [show wN m10 = op1 m10 (0, 0, 0, 0) from rfl]
  obtain ⟨m11, e11⟩ : ∃ z, z = op1 m10 (0, 0, 0, 0) := ⟨_, rfl⟩
  rw [← e11]
  have hN11 : mN m11 = 19 := by rw [e11]; show mN m10 + 1 = _; rw [hN10]
  refine JT_putF dX6_init_49 flX6_28 BS_12 (Nat.le_of_ble_eq_true rfl) (by rw [hN11]; decide) (Or.inr ⟨_, ct_6_5⟩) rfl (fun _ h => by cases h; rfl) ?_
  rw [show wR m11 12 5 18 = op1 m11 (1, 12, 5, 18) from rfl]
  obtain ⟨m12, e12⟩ : ∃ z, z = op1 m11 (1, 12, 5, 18) := ⟨_, rfl⟩
  rw [← e12]
  have hN12 : mN m12 = 19 := by rw [e12]; exact hN11
  refine JT_aload_n (q := 0) dX6_init_52 rfl rfl ?_
  refine JT_iconst (v := 1) dX6_init_53 (by decide) ?_
  refine JT_putI dX6_init_54 flX6_31 BS_12 (Nat.le_of_ble_eq_true rfl) (by rw [hN12]; decide) ct_6_8 ?_
  rw [show wI m12 12 8 (1) = op1 m12 (2, 12, 8, 1) from rfl]
  obtain ⟨m13, e13⟩ : ∃ z, z = op1 m12 (2, 12, 8, 1) := ⟨_, rfl⟩
  rw [← e13]
  have hN13 : mN m13 = 19 := by rw [e13]; exact hN12
  refine JT_vret (st := []) dX6_init_57 rfl ⟨trivial, rfl, ?_⟩
  rw [e13, e12, e11, e10, e9, e8, e7, e6, e5, e4, e3, e2, e1]
  simp only [kX6_init_12o, List.foldl_append, List.foldl_cons, List.foldl_nil]
set_option maxRecDepth 1000000 in
def kX0_init_19o : List OpT := [(0, 0, 0, 0), (1, 19, 1, 20), (0, 0, 0, 0), (1, 19, 2, 21), (0, 0, 0, 0), (1, 19, 3, 22), (0, 0, 0, 0), (1, 19, 4, 23), (0, 0, 0, 0), (1, 19, 5, 24)]
set_option maxRecDepth 1000000 in
theorem kX0_init_19 (m : JMem) (hN : mN m = 20) : JC MX0_init 1 5 200 [.ref 19] m (fun v m1 => v = none ∧ m1 = List.foldl op1 m kX0_init_19o) := by
  show JT MX0_init 1 5 200 0 [(0, .ref 19)] [] m _
  refine JT_aload_n (q := 0) dX0_init_0 rfl rfl ?_
  refine JT_obj (d2 := 0) dX0_init_1 mlX0_3 (Nat.le_of_ble_eq_true rfl) rfl ?_
  refine JT_aload_n (q := 0) dX0_init_4 rfl rfl ?_
  refine JT_bipush (v := 40) dX0_init_5 (by decide) ?_
  refine JT_newa_int (mc := 4) (ms := 160) (N := 40) dX0_init_7 aw_int (by rw [hN]; exact BS_20) (by decide) (by decide) (by decide) ?_
  rw [hN]
  rw [show wN m = op1 m (0, 0, 0, 0) from rfl]
  obtain ⟨m1, e1⟩ : ∃ z, z = op1 m (0, 0, 0, 0) := ⟨_, rfl⟩
  rw [← e1]
  have hN1 : mN m1 = 21 := by rw [e1]; show mN m + 1 = _; rw [hN]
  refine JT_putF dX0_init_9 flX0_9 BS_19 (Nat.le_of_ble_eq_true rfl) (by rw [hN1]; decide) (Or.inr ⟨_, ct_0_1⟩) rfl (fun _ h => by cases h; rfl) ?_
  rw [show wR m1 19 1 20 = op1 m1 (1, 19, 1, 20) from rfl]
  obtain ⟨m2, e2⟩ : ∃ z, z = op1 m1 (1, 19, 1, 20) := ⟨_, rfl⟩
  rw [← e2]
  have hN2 : mN m2 = 21 := by rw [e2]; exact hN1
  refine JT_aload_n (q := 0) dX0_init_12 rfl rfl ?_
  refine JT_bipush (v := 40) dX0_init_13 (by decide) ?_
  refine JT_newa_int (mc := 3) (ms := 120) (N := 40) dX0_init_15 aw_int (by rw [hN2]; exact BS_21) (by decide) (by decide) (by decide) ?_
  rw [hN2]
  rw [show wN m2 = op1 m2 (0, 0, 0, 0) from rfl]
  obtain ⟨m3, e3⟩ : ∃ z, z = op1 m2 (0, 0, 0, 0) := ⟨_, rfl⟩
  rw [← e3]
  have hN3 : mN m3 = 22 := by rw [e3]; show mN m2 + 1 = _; rw [hN2]
  refine JT_putF dX0_init_17 flX0_15 BS_19 (Nat.le_of_ble_eq_true rfl) (by rw [hN3]; decide) (Or.inr ⟨_, ct_0_2⟩) rfl (fun _ h => by cases h; rfl) ?_
  rw [show wR m3 19 2 21 = op1 m3 (1, 19, 2, 21) from rfl]
  obtain ⟨m4, e4⟩ : ∃ z, z = op1 m3 (1, 19, 2, 21) := ⟨_, rfl⟩
  rw [← e4]
  have hN4 : mN m4 = 22 := by rw [e4]; exact hN3
  refine JT_aload_n (q := 0) dX0_init_20 rfl rfl ?_
  refine JT_bipush (v := 40) dX0_init_21 (by decide) ?_
  refine JT_newa_int (mc := 2) (ms := 80) (N := 40) dX0_init_23 aw_int (by rw [hN4]; exact BS_22) (by decide) (by decide) (by decide) ?_
  rw [hN4]
  rw [show wN m4 = op1 m4 (0, 0, 0, 0) from rfl]
  obtain ⟨m5, e5⟩ : ∃ z, z = op1 m4 (0, 0, 0, 0) := ⟨_, rfl⟩
  rw [← e5]
  have hN5 : mN m5 = 23 := by rw [e5]; show mN m4 + 1 = _; rw [hN4]
  refine JT_putF dX0_init_25 flX0_18 BS_19 (Nat.le_of_ble_eq_true rfl) (by rw [hN5]; decide) (Or.inr ⟨_, ct_0_3⟩) rfl (fun _ h => by cases h; rfl) ?_
  rw [show wR m5 19 3 22 = op1 m5 (1, 19, 3, 22) from rfl]
  obtain ⟨m6, e6⟩ : ∃ z, z = op1 m5 (1, 19, 3, 22) := ⟨_, rfl⟩
  rw [← e6]
  have hN6 : mN m6 = 23 := by rw [e6]; exact hN5
  refine JT_aload_n (q := 0) dX0_init_28 rfl rfl ?_
  refine JT_bipush (v := 40) dX0_init_29 (by decide) ?_
  refine JT_newa_int (mc := 1) (ms := 40) (N := 40) dX0_init_31 aw_int (by rw [hN6]; exact BS_23) (by decide) (by decide) (by decide) ?_
  rw [hN6]
  rw [show wN m6 = op1 m6 (0, 0, 0, 0) from rfl]
  obtain ⟨m7, e7⟩ : ∃ z, z = op1 m6 (0, 0, 0, 0) := ⟨_, rfl⟩
  rw [← e7]
  have hN7 : mN m7 = 24 := by rw [e7]; show mN m6 + 1 = _; rw [hN6]
  refine JT_putF dX0_init_33 flX0_21 BS_19 (Nat.le_of_ble_eq_true rfl) (by rw [hN7]; decide) (Or.inr ⟨_, ct_0_4⟩) rfl (fun _ h => by cases h; rfl) ?_
  rw [show wR m7 19 4 23 = op1 m7 (1, 19, 4, 23) from rfl]
  obtain ⟨m8, e8⟩ : ∃ z, z = op1 m7 (1, 19, 4, 23) := ⟨_, rfl⟩
  rw [← e8]
  have hN8 : mN m8 = 24 := by rw [e8]; exact hN7
  refine JT_aload_n (q := 0) dX0_init_36 rfl rfl ?_
  refine JT_bipush (v := 40) dX0_init_37 (by decide) ?_
  refine JT_newa_int (mc := 0) (ms := 0) (N := 40) dX0_init_39 aw_int (by rw [hN8]; exact BS_24) (by decide) (by decide) (by decide) ?_
  rw [hN8]
  rw [show wN m8 = op1 m8 (0, 0, 0, 0) from rfl]
  obtain ⟨m9, e9⟩ : ∃ z, z = op1 m8 (0, 0, 0, 0) := ⟨_, rfl⟩
  rw [← e9]
  have hN9 : mN m9 = 25 := by rw [e9]; show mN m8 + 1 = _; rw [hN8]
  refine JT_putF dX0_init_41 flX0_24 BS_19 (Nat.le_of_ble_eq_true rfl) (by rw [hN9]; decide) (Or.inr ⟨_, ct_0_5⟩) rfl (fun _ h => by cases h; rfl) ?_
  rw [show wR m9 19 5 24 = op1 m9 (1, 19, 5, 24) from rfl]
  obtain ⟨m10, e10⟩ : ∃ z, z = op1 m9 (1, 19, 5, 24) := ⟨_, rfl⟩
  rw [← e10]
  have hN10 : mN m10 = 25 := by rw [e10]; exact hN9
  refine JT_vret (st := []) dX0_init_44 rfl ⟨trivial, rfl, ?_⟩
  rw [e10, e9, e8, e7, e6, e5, e4, e3, e2, e1]
  simp only [kX0_init_19o, List.foldl_append, List.foldl_cons, List.foldl_nil]
set_option maxRecDepth 1000000 in
def kX0_init_25o : List OpT := [(0, 0, 0, 0), (1, 25, 1, 26), (0, 0, 0, 0), (1, 25, 2, 27), (0, 0, 0, 0), (1, 25, 3, 28), (0, 0, 0, 0), (1, 25, 4, 29), (0, 0, 0, 0), (1, 25, 5, 30)]
set_option maxRecDepth 1000000 in
theorem kX0_init_25 (m : JMem) (hN : mN m = 26) : JC MX0_init 1 5 200 [.ref 25] m (fun v m1 => v = none ∧ m1 = List.foldl op1 m kX0_init_25o) := by
  show JT MX0_init 1 5 200 0 [(0, .ref 25)] [] m _
  refine JT_aload_n (q := 0) dX0_init_0 rfl rfl ?_
  refine JT_obj (d2 := 0) dX0_init_1 mlX0_3 (Nat.le_of_ble_eq_true rfl) rfl ?_
  refine JT_aload_n (q := 0) dX0_init_4 rfl rfl ?_
  refine JT_bipush (v := 40) dX0_init_5 (by decide) ?_
  refine JT_newa_int (mc := 4) (ms := 160) (N := 40) dX0_init_7 aw_int (by rw [hN]; exact BS_26) (by decide) (by decide) (by decide) ?_
  rw [hN]
  rw [show wN m = op1 m (0, 0, 0, 0) from rfl]
  obtain ⟨m1, e1⟩ : ∃ z, z = op1 m (0, 0, 0, 0) := ⟨_, rfl⟩
  rw [← e1]
  have hN1 : mN m1 = 27 := by rw [e1]; show mN m + 1 = _; rw [hN]
  refine JT_putF dX0_init_9 flX0_9 BS_25 (Nat.le_of_ble_eq_true rfl) (by rw [hN1]; decide) (Or.inr ⟨_, ct_0_1⟩) rfl (fun _ h => by cases h; rfl) ?_
  rw [show wR m1 25 1 26 = op1 m1 (1, 25, 1, 26) from rfl]
  obtain ⟨m2, e2⟩ : ∃ z, z = op1 m1 (1, 25, 1, 26) := ⟨_, rfl⟩
  rw [← e2]
  have hN2 : mN m2 = 27 := by rw [e2]; exact hN1
  refine JT_aload_n (q := 0) dX0_init_12 rfl rfl ?_
  refine JT_bipush (v := 40) dX0_init_13 (by decide) ?_
  refine JT_newa_int (mc := 3) (ms := 120) (N := 40) dX0_init_15 aw_int (by rw [hN2]; exact BS_27) (by decide) (by decide) (by decide) ?_
  rw [hN2]
  rw [show wN m2 = op1 m2 (0, 0, 0, 0) from rfl]
  obtain ⟨m3, e3⟩ : ∃ z, z = op1 m2 (0, 0, 0, 0) := ⟨_, rfl⟩
  rw [← e3]
  have hN3 : mN m3 = 28 := by rw [e3]; show mN m2 + 1 = _; rw [hN2]
  refine JT_putF dX0_init_17 flX0_15 BS_25 (Nat.le_of_ble_eq_true rfl) (by rw [hN3]; decide) (Or.inr ⟨_, ct_0_2⟩) rfl (fun _ h => by cases h; rfl) ?_
  rw [show wR m3 25 2 27 = op1 m3 (1, 25, 2, 27) from rfl]
  obtain ⟨m4, e4⟩ : ∃ z, z = op1 m3 (1, 25, 2, 27) := ⟨_, rfl⟩
  rw [← e4]
  have hN4 : mN m4 = 28 := by rw [e4]; exact hN3
  refine JT_aload_n (q := 0) dX0_init_20 rfl rfl ?_
  refine JT_bipush (v := 40) dX0_init_21 (by decide) ?_
  refine JT_newa_int (mc := 2) (ms := 80) (N := 40) dX0_init_23 aw_int (by rw [hN4]; exact BS_28) (by decide) (by decide) (by decide) ?_
  rw [hN4]
  rw [show wN m4 = op1 m4 (0, 0, 0, 0) from rfl]
  obtain ⟨m5, e5⟩ : ∃ z, z = op1 m4 (0, 0, 0, 0) := ⟨_, rfl⟩
  rw [← e5]
  have hN5 : mN m5 = 29 := by rw [e5]; show mN m4 + 1 = _; rw [hN4]
  refine JT_putF dX0_init_25 flX0_18 BS_25 (Nat.le_of_ble_eq_true rfl) (by rw [hN5]; decide) (Or.inr ⟨_, ct_0_3⟩) rfl (fun _ h => by cases h; rfl) ?_
  rw [show wR m5 25 3 28 = op1 m5 (1, 25, 3, 28) from rfl]
  obtain ⟨m6, e6⟩ : ∃ z, z = op1 m5 (1, 25, 3, 28) := ⟨_, rfl⟩
  rw [← e6]
  have hN6 : mN m6 = 29 := by rw [e6]; exact hN5
  refine JT_aload_n (q := 0) dX0_init_28 rfl rfl ?_
  refine JT_bipush (v := 40) dX0_init_29 (by decide) ?_
  refine JT_newa_int (mc := 1) (ms := 40) (N := 40) dX0_init_31 aw_int (by rw [hN6]; exact BS_29) (by decide) (by decide) (by decide) ?_
  rw [hN6]
  rw [show wN m6 = op1 m6 (0, 0, 0, 0) from rfl]
  obtain ⟨m7, e7⟩ : ∃ z, z = op1 m6 (0, 0, 0, 0) := ⟨_, rfl⟩
  rw [← e7]
  have hN7 : mN m7 = 30 := by rw [e7]; show mN m6 + 1 = _; rw [hN6]
  refine JT_putF dX0_init_33 flX0_21 BS_25 (Nat.le_of_ble_eq_true rfl) (by rw [hN7]; decide) (Or.inr ⟨_, ct_0_4⟩) rfl (fun _ h => by cases h; rfl) ?_
  rw [show wR m7 25 4 29 = op1 m7 (1, 25, 4, 29) from rfl]
  obtain ⟨m8, e8⟩ : ∃ z, z = op1 m7 (1, 25, 4, 29) := ⟨_, rfl⟩
  rw [← e8]
  have hN8 : mN m8 = 30 := by rw [e8]; exact hN7
  refine JT_aload_n (q := 0) dX0_init_36 rfl rfl ?_
  refine JT_bipush (v := 40) dX0_init_37 (by decide) ?_
  refine JT_newa_int (mc := 0) (ms := 0) (N := 40) dX0_init_39 aw_int (by rw [hN8]; exact BS_30) (by decide) (by decide) (by decide) ?_
  rw [hN8]
  rw [show wN m8 = op1 m8 (0, 0, 0, 0) from rfl]
  obtain ⟨m9, e9⟩ : ∃ z, z = op1 m8 (0, 0, 0, 0) := ⟨_, rfl⟩
  rw [← e9]
  have hN9 : mN m9 = 31 := by rw [e9]; show mN m8 + 1 = _; rw [hN8]
  refine JT_putF dX0_init_41 flX0_24 BS_25 (Nat.le_of_ble_eq_true rfl) (by rw [hN9]; decide) (Or.inr ⟨_, ct_0_5⟩) rfl (fun _ h => by cases h; rfl) ?_
  rw [show wR m9 25 5 30 = op1 m9 (1, 25, 5, 30) from rfl]
  obtain ⟨m10, e10⟩ : ∃ z, z = op1 m9 (1, 25, 5, 30) := ⟨_, rfl⟩
  rw [← e10]
  have hN10 : mN m10 = 31 := by rw [e10]; exact hN9
  refine JT_vret (st := []) dX0_init_44 rfl ⟨trivial, rfl, ?_⟩
  rw [e10, e9, e8, e7, e6, e5, e4, e3, e2, e1]
  simp only [kX0_init_25o, List.foldl_append, List.foldl_cons, List.foldl_nil]
set_option maxRecDepth 1000000 in
def kX4_init_31o : List OpT := [(0, 0, 0, 0), (1, 31, 0, 32), (0, 0, 0, 0), (1, 31, 1, 33), (0, 0, 0, 0), (1, 31, 2, 34), (0, 0, 0, 0), (1, 31, 3, 35), (0, 0, 0, 0), (1, 31, 4, 36), (0, 0, 0, 0), (1, 31, 5, 37), (0, 0, 0, 0), (1, 31, 6, 38), (0, 0, 0, 0), (1, 31, 7, 39), (0, 0, 0, 0), (1, 31, 11, 40), (0, 0, 0, 0), (1, 31, 12, 41), (0, 0, 0, 0), (1, 31, 13, 42), (1, 31, 8, 5)]
set_option maxRecDepth 1000000 in
theorem kX4_init_31 (m : JMem) (hN : mN m = 32) : JC MX4_init 1 11 558 [.ref 31, .ref 5] m (fun v m1 => v = none ∧ m1 = List.foldl op1 m kX4_init_31o) := by
  show JT MX4_init 1 11 558 0 [(0, .ref 31), (1, .ref 5)] [] m _
  refine JT_aload_n (q := 0) dX4_init_0 rfl rfl ?_
  refine JT_obj (d2 := 0) dX4_init_1 mlX4_3 (Nat.le_of_ble_eq_true rfl) rfl ?_
  refine JT_aload_n (q := 0) dX4_init_4 rfl rfl ?_
  refine JT_bipush (v := 60) dX4_init_5 (by decide) ?_
  refine JT_newa_int (mc := 10) (ms := 498) (N := 60) dX4_init_7 aw_int (by rw [hN]; exact BS_32) (by decide) (by decide) (by decide) ?_
  rw [hN]
  rw [show wN m = op1 m (0, 0, 0, 0) from rfl]
  obtain ⟨m1, e1⟩ : ∃ z, z = op1 m (0, 0, 0, 0) := ⟨_, rfl⟩
  rw [← e1]
  have hN1 : mN m1 = 33 := by rw [e1]; show mN m + 1 = _; rw [hN]
  refine JT_putF dX4_init_9 flX4_9 BS_31 (Nat.le_of_ble_eq_true rfl) (by rw [hN1]; decide) (Or.inr ⟨_, ct_4_0⟩) rfl (fun _ h => by cases h; rfl) ?_
  rw [show wR m1 31 0 32 = op1 m1 (1, 31, 0, 32) from rfl]
  obtain ⟨m2, e2⟩ : ∃ z, z = op1 m1 (1, 31, 0, 32) := ⟨_, rfl⟩
  rw [← e2]
  have hN2 : mN m2 = 33 := by rw [e2]; exact hN1
  refine JT_aload_n (q := 0) dX4_init_12 rfl rfl ?_
  refine JT_bipush (v := 60) dX4_init_13 (by decide) ?_
  refine JT_newa_int (mc := 9) (ms := 438) (N := 60) dX4_init_15 aw_int (by rw [hN2]; exact BS_33) (by decide) (by decide) (by decide) ?_
  rw [hN2]
  rw [show wN m2 = op1 m2 (0, 0, 0, 0) from rfl]
  obtain ⟨m3, e3⟩ : ∃ z, z = op1 m2 (0, 0, 0, 0) := ⟨_, rfl⟩
  rw [← e3]
  have hN3 : mN m3 = 34 := by rw [e3]; show mN m2 + 1 = _; rw [hN2]
  refine JT_putF dX4_init_17 flX4_15 BS_31 (Nat.le_of_ble_eq_true rfl) (by rw [hN3]; decide) (Or.inr ⟨_, ct_4_1⟩) rfl (fun _ h => by cases h; rfl) ?_
  rw [show wR m3 31 1 33 = op1 m3 (1, 31, 1, 33) from rfl]
  obtain ⟨m4, e4⟩ : ∃ z, z = op1 m3 (1, 31, 1, 33) := ⟨_, rfl⟩
  rw [← e4]
  have hN4 : mN m4 = 34 := by rw [e4]; exact hN3
  refine JT_aload_n (q := 0) dX4_init_20 rfl rfl ?_
  refine JT_bipush (v := 60) dX4_init_21 (by decide) ?_
  refine JT_newa_int (mc := 8) (ms := 378) (N := 60) dX4_init_23 aw_int (by rw [hN4]; exact BS_34) (by decide) (by decide) (by decide) ?_
  rw [hN4]
  rw [show wN m4 = op1 m4 (0, 0, 0, 0) from rfl]
  obtain ⟨m5, e5⟩ : ∃ z, z = op1 m4 (0, 0, 0, 0) := ⟨_, rfl⟩
  rw [← e5]
  have hN5 : mN m5 = 35 := by rw [e5]; show mN m4 + 1 = _; rw [hN4]
  refine JT_putF dX4_init_25 flX4_18 BS_31 (Nat.le_of_ble_eq_true rfl) (by rw [hN5]; decide) (Or.inr ⟨_, ct_4_2⟩) rfl (fun _ h => by cases h; rfl) ?_
  rw [show wR m5 31 2 34 = op1 m5 (1, 31, 2, 34) from rfl]
  obtain ⟨m6, e6⟩ : ∃ z, z = op1 m5 (1, 31, 2, 34) := ⟨_, rfl⟩
  rw [← e6]
  have hN6 : mN m6 = 35 := by rw [e6]; exact hN5
  refine JT_aload_n (q := 0) dX4_init_28 rfl rfl ?_
  refine JT_bipush (v := 60) dX4_init_29 (by decide) ?_
  refine JT_newa_int (mc := 7) (ms := 318) (N := 60) dX4_init_31 aw_int (by rw [hN6]; exact BS_35) (by decide) (by decide) (by decide) ?_
  rw [hN6]
  rw [show wN m6 = op1 m6 (0, 0, 0, 0) from rfl]
  obtain ⟨m7, e7⟩ : ∃ z, z = op1 m6 (0, 0, 0, 0) := ⟨_, rfl⟩
  rw [← e7]
  have hN7 : mN m7 = 36 := by rw [e7]; show mN m6 + 1 = _; rw [hN6]
  refine JT_putF dX4_init_33 flX4_21 BS_31 (Nat.le_of_ble_eq_true rfl) (by rw [hN7]; decide) (Or.inr ⟨_, ct_4_3⟩) rfl (fun _ h => by cases h; rfl) ?_
  rw [show wR m7 31 3 35 = op1 m7 (1, 31, 3, 35) from rfl]
  obtain ⟨m8, e8⟩ : ∃ z, z = op1 m7 (1, 31, 3, 35) := ⟨_, rfl⟩
  rw [← e8]
  have hN8 : mN m8 = 36 := by rw [e8]; exact hN7
  refine JT_aload_n (q := 0) dX4_init_36 rfl rfl ?_
  refine JT_bipush (v := 60) dX4_init_37 (by decide) ?_
  refine JT_newa_int (mc := 6) (ms := 258) (N := 60) dX4_init_39 aw_int (by rw [hN8]; exact BS_36) (by decide) (by decide) (by decide) ?_
  rw [hN8]
  rw [show wN m8 = op1 m8 (0, 0, 0, 0) from rfl]
  obtain ⟨m9, e9⟩ : ∃ z, z = op1 m8 (0, 0, 0, 0) := ⟨_, rfl⟩
  rw [← e9]
  have hN9 : mN m9 = 37 := by rw [e9]; show mN m8 + 1 = _; rw [hN8]
  refine JT_putF dX4_init_41 flX4_24 BS_31 (Nat.le_of_ble_eq_true rfl) (by rw [hN9]; decide) (Or.inr ⟨_, ct_4_4⟩) rfl (fun _ h => by cases h; rfl) ?_
  rw [show wR m9 31 4 36 = op1 m9 (1, 31, 4, 36) from rfl]
  obtain ⟨m10, e10⟩ : ∃ z, z = op1 m9 (1, 31, 4, 36) := ⟨_, rfl⟩
  rw [← e10]
  have hN10 : mN m10 = 37 := by rw [e10]; exact hN9
  refine JT_aload_n (q := 0) dX4_init_44 rfl rfl ?_
  refine JT_bipush (v := 60) dX4_init_45 (by decide) ?_
  refine JT_newa_int (mc := 5) (ms := 198) (N := 60) dX4_init_47 aw_int (by rw [hN10]; exact BS_37) (by decide) (by decide) (by decide) ?_
  rw [hN10]
  rw [show wN m10 = op1 m10 (0, 0, 0, 0) from rfl]
  obtain ⟨m11, e11⟩ : ∃ z, z = op1 m10 (0, 0, 0, 0) := ⟨_, rfl⟩
  rw [← e11]
  have hN11 : mN m11 = 38 := by rw [e11]; show mN m10 + 1 = _; rw [hN10]
  refine JT_putF dX4_init_49 flX4_27 BS_31 (Nat.le_of_ble_eq_true rfl) (by rw [hN11]; decide) (Or.inr ⟨_, ct_4_5⟩) rfl (fun _ h => by cases h; rfl) ?_
  rw [show wR m11 31 5 37 = op1 m11 (1, 31, 5, 37) from rfl]
  obtain ⟨m12, e12⟩ : ∃ z, z = op1 m11 (1, 31, 5, 37) := ⟨_, rfl⟩
  rw [← e12]
  have hN12 : mN m12 = 38 := by rw [e12]; exact hN11
  refine JT_aload_n (q := 0) dX4_init_52 rfl rfl ?_
  refine JT_bipush (v := 9) dX4_init_53 (by decide) ?_
  refine JT_newa_int (mc := 4) (ms := 189) (N := 9) dX4_init_55 aw_int (by rw [hN12]; exact BS_38) (by decide) (by decide) (by decide) ?_
  rw [hN12]
  rw [show wN m12 = op1 m12 (0, 0, 0, 0) from rfl]
  obtain ⟨m13, e13⟩ : ∃ z, z = op1 m12 (0, 0, 0, 0) := ⟨_, rfl⟩
  rw [← e13]
  have hN13 : mN m13 = 39 := by rw [e13]; show mN m12 + 1 = _; rw [hN12]
  refine JT_putF dX4_init_57 flX4_30 BS_31 (Nat.le_of_ble_eq_true rfl) (by rw [hN13]; decide) (Or.inr ⟨_, ct_4_6⟩) rfl (fun _ h => by cases h; rfl) ?_
  rw [show wR m13 31 6 38 = op1 m13 (1, 31, 6, 38) from rfl]
  obtain ⟨m14, e14⟩ : ∃ z, z = op1 m13 (1, 31, 6, 38) := ⟨_, rfl⟩
  rw [← e14]
  have hN14 : mN m14 = 39 := by rw [e14]; exact hN13
  refine JT_aload_n (q := 0) dX4_init_60 rfl rfl ?_
  refine JT_bipush (v := 9) dX4_init_61 (by decide) ?_
  refine JT_newa_int (mc := 3) (ms := 180) (N := 9) dX4_init_63 aw_int (by rw [hN14]; exact BS_39) (by decide) (by decide) (by decide) ?_
  rw [hN14]
  rw [show wN m14 = op1 m14 (0, 0, 0, 0) from rfl]
  obtain ⟨m15, e15⟩ : ∃ z, z = op1 m14 (0, 0, 0, 0) := ⟨_, rfl⟩
  rw [← e15]
  have hN15 : mN m15 = 40 := by rw [e15]; show mN m14 + 1 = _; rw [hN14]
  refine JT_putF dX4_init_65 flX4_33 BS_31 (Nat.le_of_ble_eq_true rfl) (by rw [hN15]; decide) (Or.inr ⟨_, ct_4_7⟩) rfl (fun _ h => by cases h; rfl) ?_
  rw [show wR m15 31 7 39 = op1 m15 (1, 31, 7, 39) from rfl]
  obtain ⟨m16, e16⟩ : ∃ z, z = op1 m15 (1, 31, 7, 39) := ⟨_, rfl⟩
  rw [← e16]
  have hN16 : mN m16 = 40 := by rw [e16]; exact hN15
  refine JT_aload_n (q := 0) dX4_init_68 rfl rfl ?_
  refine JT_bipush (v := 60) dX4_init_69 (by decide) ?_
  refine JT_newa_int (mc := 2) (ms := 120) (N := 60) dX4_init_71 aw_int (by rw [hN16]; exact BS_40) (by decide) (by decide) (by decide) ?_
  rw [hN16]
  rw [show wN m16 = op1 m16 (0, 0, 0, 0) from rfl]
  obtain ⟨m17, e17⟩ : ∃ z, z = op1 m16 (0, 0, 0, 0) := ⟨_, rfl⟩
  rw [← e17]
  have hN17 : mN m17 = 41 := by rw [e17]; show mN m16 + 1 = _; rw [hN16]
  refine JT_putF dX4_init_73 flX4_36 BS_31 (Nat.le_of_ble_eq_true rfl) (by rw [hN17]; decide) (Or.inr ⟨_, ct_4_11⟩) rfl (fun _ h => by cases h; rfl) ?_
  rw [show wR m17 31 11 40 = op1 m17 (1, 31, 11, 40) from rfl]
  obtain ⟨m18, e18⟩ : ∃ z, z = op1 m17 (1, 31, 11, 40) := ⟨_, rfl⟩
  rw [← e18]
  have hN18 : mN m18 = 41 := by rw [e18]; exact hN17
  refine JT_aload_n (q := 0) dX4_init_76 rfl rfl ?_
  refine JT_bipush (v := 60) dX4_init_77 (by decide) ?_
  refine JT_newa_int (mc := 1) (ms := 60) (N := 60) dX4_init_79 aw_int (by rw [hN18]; exact BS_41) (by decide) (by decide) (by decide) ?_
  rw [hN18]
  rw [show wN m18 = op1 m18 (0, 0, 0, 0) from rfl]
  obtain ⟨m19, e19⟩ : ∃ z, z = op1 m18 (0, 0, 0, 0) := ⟨_, rfl⟩
  rw [← e19]
  have hN19 : mN m19 = 42 := by rw [e19]; show mN m18 + 1 = _; rw [hN18]
  refine JT_putF dX4_init_81 flX4_39 BS_31 (Nat.le_of_ble_eq_true rfl) (by rw [hN19]; decide) (Or.inr ⟨_, ct_4_12⟩) rfl (fun _ h => by cases h; rfl) ?_
  rw [show wR m19 31 12 41 = op1 m19 (1, 31, 12, 41) from rfl]
  obtain ⟨m20, e20⟩ : ∃ z, z = op1 m19 (1, 31, 12, 41) := ⟨_, rfl⟩
  rw [← e20]
  have hN20 : mN m20 = 42 := by rw [e20]; exact hN19
  refine JT_aload_n (q := 0) dX4_init_84 rfl rfl ?_
  refine JT_bipush (v := 60) dX4_init_85 (by decide) ?_
  refine JT_newa_int (mc := 0) (ms := 0) (N := 60) dX4_init_87 aw_int (by rw [hN20]; exact BS_42) (by decide) (by decide) (by decide) ?_
  rw [hN20]
  rw [show wN m20 = op1 m20 (0, 0, 0, 0) from rfl]
  obtain ⟨m21, e21⟩ : ∃ z, z = op1 m20 (0, 0, 0, 0) := ⟨_, rfl⟩
  rw [← e21]
  have hN21 : mN m21 = 43 := by rw [e21]; show mN m20 + 1 = _; rw [hN20]
  refine JT_putF dX4_init_89 flX4_42 BS_31 (Nat.le_of_ble_eq_true rfl) (by rw [hN21]; decide) (Or.inr ⟨_, ct_4_13⟩) rfl (fun _ h => by cases h; rfl) ?_
  rw [show wR m21 31 13 42 = op1 m21 (1, 31, 13, 42) from rfl]
  obtain ⟨m22, e22⟩ : ∃ z, z = op1 m21 (1, 31, 13, 42) := ⟨_, rfl⟩
  rw [← e22]
  have hN22 : mN m22 = 43 := by rw [e22]; exact hN21
  refine JT_aload_n (q := 0) dX4_init_92 rfl rfl ?_
  refine JT_aload_n (q := 1) dX4_init_93 rfl rfl ?_
  refine JT_putF dX4_init_94 flX4_45 BS_31 (Nat.le_of_ble_eq_true rfl) (by rw [hN22]; decide) (Or.inl ⟨_, ct_4_8⟩) rfl (fun _ h => by cases h; rfl) ?_
  rw [show wR m22 31 8 5 = op1 m22 (1, 31, 8, 5) from rfl]
  obtain ⟨m23, e23⟩ : ∃ z, z = op1 m22 (1, 31, 8, 5) := ⟨_, rfl⟩
  rw [← e23]
  have hN23 : mN m23 = 43 := by rw [e23]; exact hN22
  refine JT_vret (st := []) dX4_init_97 rfl ⟨trivial, rfl, ?_⟩
  rw [e23, e22, e21, e20, e19, e18, e17, e16, e15, e14, e13, e12, e11, e10, e9, e8, e7, e6, e5, e4, e3, e2, e1]
  simp only [kX4_init_31o, List.foldl_append, List.foldl_cons, List.foldl_nil]
set_option maxRecDepth 1000000 in
def kX4_init_43o : List OpT := [(0, 0, 0, 0), (1, 43, 0, 44), (0, 0, 0, 0), (1, 43, 1, 45), (0, 0, 0, 0), (1, 43, 2, 46), (0, 0, 0, 0), (1, 43, 3, 47), (0, 0, 0, 0), (1, 43, 4, 48), (0, 0, 0, 0), (1, 43, 5, 49), (0, 0, 0, 0), (1, 43, 6, 50), (0, 0, 0, 0), (1, 43, 7, 51), (0, 0, 0, 0), (1, 43, 11, 52), (0, 0, 0, 0), (1, 43, 12, 53), (0, 0, 0, 0), (1, 43, 13, 54), (1, 43, 8, 5)]
set_option maxRecDepth 1000000 in
theorem kX4_init_43 (m : JMem) (hN : mN m = 44) : JC MX4_init 1 11 558 [.ref 43, .ref 5] m (fun v m1 => v = none ∧ m1 = List.foldl op1 m kX4_init_43o) := by
  show JT MX4_init 1 11 558 0 [(0, .ref 43), (1, .ref 5)] [] m _
  refine JT_aload_n (q := 0) dX4_init_0 rfl rfl ?_
  refine JT_obj (d2 := 0) dX4_init_1 mlX4_3 (Nat.le_of_ble_eq_true rfl) rfl ?_
  refine JT_aload_n (q := 0) dX4_init_4 rfl rfl ?_
  refine JT_bipush (v := 60) dX4_init_5 (by decide) ?_
  refine JT_newa_int (mc := 10) (ms := 498) (N := 60) dX4_init_7 aw_int (by rw [hN]; exact BS_44) (by decide) (by decide) (by decide) ?_
  rw [hN]
  rw [show wN m = op1 m (0, 0, 0, 0) from rfl]
  obtain ⟨m1, e1⟩ : ∃ z, z = op1 m (0, 0, 0, 0) := ⟨_, rfl⟩
  rw [← e1]
  have hN1 : mN m1 = 45 := by rw [e1]; show mN m + 1 = _; rw [hN]
  refine JT_putF dX4_init_9 flX4_9 BS_43 (Nat.le_of_ble_eq_true rfl) (by rw [hN1]; decide) (Or.inr ⟨_, ct_4_0⟩) rfl (fun _ h => by cases h; rfl) ?_
  rw [show wR m1 43 0 44 = op1 m1 (1, 43, 0, 44) from rfl]
  obtain ⟨m2, e2⟩ : ∃ z, z = op1 m1 (1, 43, 0, 44) := ⟨_, rfl⟩
  rw [← e2]
  have hN2 : mN m2 = 45 := by rw [e2]; exact hN1
  refine JT_aload_n (q := 0) dX4_init_12 rfl rfl ?_
  refine JT_bipush (v := 60) dX4_init_13 (by decide) ?_
  refine JT_newa_int (mc := 9) (ms := 438) (N := 60) dX4_init_15 aw_int (by rw [hN2]; exact BS_45) (by decide) (by decide) (by decide) ?_
  rw [hN2]
  rw [show wN m2 = op1 m2 (0, 0, 0, 0) from rfl]
  obtain ⟨m3, e3⟩ : ∃ z, z = op1 m2 (0, 0, 0, 0) := ⟨_, rfl⟩
  rw [← e3]
  have hN3 : mN m3 = 46 := by rw [e3]; show mN m2 + 1 = _; rw [hN2]
  refine JT_putF dX4_init_17 flX4_15 BS_43 (Nat.le_of_ble_eq_true rfl) (by rw [hN3]; decide) (Or.inr ⟨_, ct_4_1⟩) rfl (fun _ h => by cases h; rfl) ?_
  rw [show wR m3 43 1 45 = op1 m3 (1, 43, 1, 45) from rfl]
  obtain ⟨m4, e4⟩ : ∃ z, z = op1 m3 (1, 43, 1, 45) := ⟨_, rfl⟩
  rw [← e4]
  have hN4 : mN m4 = 46 := by rw [e4]; exact hN3
  refine JT_aload_n (q := 0) dX4_init_20 rfl rfl ?_
  refine JT_bipush (v := 60) dX4_init_21 (by decide) ?_
  refine JT_newa_int (mc := 8) (ms := 378) (N := 60) dX4_init_23 aw_int (by rw [hN4]; exact BS_46) (by decide) (by decide) (by decide) ?_
  rw [hN4]
  rw [show wN m4 = op1 m4 (0, 0, 0, 0) from rfl]
  obtain ⟨m5, e5⟩ : ∃ z, z = op1 m4 (0, 0, 0, 0) := ⟨_, rfl⟩
  rw [← e5]
  have hN5 : mN m5 = 47 := by rw [e5]; show mN m4 + 1 = _; rw [hN4]
  refine JT_putF dX4_init_25 flX4_18 BS_43 (Nat.le_of_ble_eq_true rfl) (by rw [hN5]; decide) (Or.inr ⟨_, ct_4_2⟩) rfl (fun _ h => by cases h; rfl) ?_
  rw [show wR m5 43 2 46 = op1 m5 (1, 43, 2, 46) from rfl]
  obtain ⟨m6, e6⟩ : ∃ z, z = op1 m5 (1, 43, 2, 46) := ⟨_, rfl⟩
  rw [← e6]
  have hN6 : mN m6 = 47 := by rw [e6]; exact hN5
  refine JT_aload_n (q := 0) dX4_init_28 rfl rfl ?_
  refine JT_bipush (v := 60) dX4_init_29 (by decide) ?_
  refine JT_newa_int (mc := 7) (ms := 318) (N := 60) dX4_init_31 aw_int (by rw [hN6]; exact BS_47) (by decide) (by decide) (by decide) ?_
  rw [hN6]
  rw [show wN m6 = op1 m6 (0, 0, 0, 0) from rfl]
  obtain ⟨m7, e7⟩ : ∃ z, z = op1 m6 (0, 0, 0, 0) := ⟨_, rfl⟩
  rw [← e7]
  have hN7 : mN m7 = 48 := by rw [e7]; show mN m6 + 1 = _; rw [hN6]
  refine JT_putF dX4_init_33 flX4_21 BS_43 (Nat.le_of_ble_eq_true rfl) (by rw [hN7]; decide) (Or.inr ⟨_, ct_4_3⟩) rfl (fun _ h => by cases h; rfl) ?_
  rw [show wR m7 43 3 47 = op1 m7 (1, 43, 3, 47) from rfl]
  obtain ⟨m8, e8⟩ : ∃ z, z = op1 m7 (1, 43, 3, 47) := ⟨_, rfl⟩
  rw [← e8]
  have hN8 : mN m8 = 48 := by rw [e8]; exact hN7
  refine JT_aload_n (q := 0) dX4_init_36 rfl rfl ?_
  refine JT_bipush (v := 60) dX4_init_37 (by decide) ?_
  refine JT_newa_int (mc := 6) (ms := 258) (N := 60) dX4_init_39 aw_int (by rw [hN8]; exact BS_48) (by decide) (by decide) (by decide) ?_
  rw [hN8]
  rw [show wN m8 = op1 m8 (0, 0, 0, 0) from rfl]
  obtain ⟨m9, e9⟩ : ∃ z, z = op1 m8 (0, 0, 0, 0) := ⟨_, rfl⟩
  rw [← e9]
  have hN9 : mN m9 = 49 := by rw [e9]; show mN m8 + 1 = _; rw [hN8]
  refine JT_putF dX4_init_41 flX4_24 BS_43 (Nat.le_of_ble_eq_true rfl) (by rw [hN9]; decide) (Or.inr ⟨_, ct_4_4⟩) rfl (fun _ h => by cases h; rfl) ?_
  rw [show wR m9 43 4 48 = op1 m9 (1, 43, 4, 48) from rfl]
  obtain ⟨m10, e10⟩ : ∃ z, z = op1 m9 (1, 43, 4, 48) := ⟨_, rfl⟩
  rw [← e10]
  have hN10 : mN m10 = 49 := by rw [e10]; exact hN9
  refine JT_aload_n (q := 0) dX4_init_44 rfl rfl ?_
  refine JT_bipush (v := 60) dX4_init_45 (by decide) ?_
  refine JT_newa_int (mc := 5) (ms := 198) (N := 60) dX4_init_47 aw_int (by rw [hN10]; exact BS_49) (by decide) (by decide) (by decide) ?_
  rw [hN10]
  rw [show wN m10 = op1 m10 (0, 0, 0, 0) from rfl]
  obtain ⟨m11, e11⟩ : ∃ z, z = op1 m10 (0, 0, 0, 0) := ⟨_, rfl⟩
  rw [← e11]
  have hN11 : mN m11 = 50 := by rw [e11]; show mN m10 + 1 = _; rw [hN10]
  refine JT_putF dX4_init_49 flX4_27 BS_43 (Nat.le_of_ble_eq_true rfl) (by rw [hN11]; decide) (Or.inr ⟨_, ct_4_5⟩) rfl (fun _ h => by cases h; rfl) ?_
  rw [show wR m11 43 5 49 = op1 m11 (1, 43, 5, 49) from rfl]
  obtain ⟨m12, e12⟩ : ∃ z, z = op1 m11 (1, 43, 5, 49) := ⟨_, rfl⟩
  rw [← e12]
  have hN12 : mN m12 = 50 := by rw [e12]; exact hN11
  refine JT_aload_n (q := 0) dX4_init_52 rfl rfl ?_
  refine JT_bipush (v := 9) dX4_init_53 (by decide) ?_
  refine JT_newa_int (mc := 4) (ms := 189) (N := 9) dX4_init_55 aw_int (by rw [hN12]; exact BS_50) (by decide) (by decide) (by decide) ?_
  rw [hN12]
  rw [show wN m12 = op1 m12 (0, 0, 0, 0) from rfl]
  obtain ⟨m13, e13⟩ : ∃ z, z = op1 m12 (0, 0, 0, 0) := ⟨_, rfl⟩
  rw [← e13]
  have hN13 : mN m13 = 51 := by rw [e13]; show mN m12 + 1 = _; rw [hN12]
  refine JT_putF dX4_init_57 flX4_30 BS_43 (Nat.le_of_ble_eq_true rfl) (by rw [hN13]; decide) (Or.inr ⟨_, ct_4_6⟩) rfl (fun _ h => by cases h; rfl) ?_
  rw [show wR m13 43 6 50 = op1 m13 (1, 43, 6, 50) from rfl]
  obtain ⟨m14, e14⟩ : ∃ z, z = op1 m13 (1, 43, 6, 50) := ⟨_, rfl⟩
  rw [← e14]
  have hN14 : mN m14 = 51 := by rw [e14]; exact hN13
  refine JT_aload_n (q := 0) dX4_init_60 rfl rfl ?_
  refine JT_bipush (v := 9) dX4_init_61 (by decide) ?_
  refine JT_newa_int (mc := 3) (ms := 180) (N := 9) dX4_init_63 aw_int (by rw [hN14]; exact BS_51) (by decide) (by decide) (by decide) ?_
  rw [hN14]
  rw [show wN m14 = op1 m14 (0, 0, 0, 0) from rfl]
  obtain ⟨m15, e15⟩ : ∃ z, z = op1 m14 (0, 0, 0, 0) := ⟨_, rfl⟩
  rw [← e15]
  have hN15 : mN m15 = 52 := by rw [e15]; show mN m14 + 1 = _; rw [hN14]
  refine JT_putF dX4_init_65 flX4_33 BS_43 (Nat.le_of_ble_eq_true rfl) (by rw [hN15]; decide) (Or.inr ⟨_, ct_4_7⟩) rfl (fun _ h => by cases h; rfl) ?_
  rw [show wR m15 43 7 51 = op1 m15 (1, 43, 7, 51) from rfl]
  obtain ⟨m16, e16⟩ : ∃ z, z = op1 m15 (1, 43, 7, 51) := ⟨_, rfl⟩
  rw [← e16]
  have hN16 : mN m16 = 52 := by rw [e16]; exact hN15
  refine JT_aload_n (q := 0) dX4_init_68 rfl rfl ?_
  refine JT_bipush (v := 60) dX4_init_69 (by decide) ?_
  refine JT_newa_int (mc := 2) (ms := 120) (N := 60) dX4_init_71 aw_int (by rw [hN16]; exact BS_52) (by decide) (by decide) (by decide) ?_
  rw [hN16]
  rw [show wN m16 = op1 m16 (0, 0, 0, 0) from rfl]
  obtain ⟨m17, e17⟩ : ∃ z, z = op1 m16 (0, 0, 0, 0) := ⟨_, rfl⟩
  rw [← e17]
  have hN17 : mN m17 = 53 := by rw [e17]; show mN m16 + 1 = _; rw [hN16]
  refine JT_putF dX4_init_73 flX4_36 BS_43 (Nat.le_of_ble_eq_true rfl) (by rw [hN17]; decide) (Or.inr ⟨_, ct_4_11⟩) rfl (fun _ h => by cases h; rfl) ?_
  rw [show wR m17 43 11 52 = op1 m17 (1, 43, 11, 52) from rfl]
  obtain ⟨m18, e18⟩ : ∃ z, z = op1 m17 (1, 43, 11, 52) := ⟨_, rfl⟩
  rw [← e18]
  have hN18 : mN m18 = 53 := by rw [e18]; exact hN17
  refine JT_aload_n (q := 0) dX4_init_76 rfl rfl ?_
  refine JT_bipush (v := 60) dX4_init_77 (by decide) ?_
  refine JT_newa_int (mc := 1) (ms := 60) (N := 60) dX4_init_79 aw_int (by rw [hN18]; exact BS_53) (by decide) (by decide) (by decide) ?_
  rw [hN18]
  rw [show wN m18 = op1 m18 (0, 0, 0, 0) from rfl]
  obtain ⟨m19, e19⟩ : ∃ z, z = op1 m18 (0, 0, 0, 0) := ⟨_, rfl⟩
  rw [← e19]
  have hN19 : mN m19 = 54 := by rw [e19]; show mN m18 + 1 = _; rw [hN18]
  refine JT_putF dX4_init_81 flX4_39 BS_43 (Nat.le_of_ble_eq_true rfl) (by rw [hN19]; decide) (Or.inr ⟨_, ct_4_12⟩) rfl (fun _ h => by cases h; rfl) ?_
  rw [show wR m19 43 12 53 = op1 m19 (1, 43, 12, 53) from rfl]
  obtain ⟨m20, e20⟩ : ∃ z, z = op1 m19 (1, 43, 12, 53) := ⟨_, rfl⟩
  rw [← e20]
  have hN20 : mN m20 = 54 := by rw [e20]; exact hN19
  refine JT_aload_n (q := 0) dX4_init_84 rfl rfl ?_
  refine JT_bipush (v := 60) dX4_init_85 (by decide) ?_
  refine JT_newa_int (mc := 0) (ms := 0) (N := 60) dX4_init_87 aw_int (by rw [hN20]; exact BS_54) (by decide) (by decide) (by decide) ?_
  rw [hN20]
  rw [show wN m20 = op1 m20 (0, 0, 0, 0) from rfl]
  obtain ⟨m21, e21⟩ : ∃ z, z = op1 m20 (0, 0, 0, 0) := ⟨_, rfl⟩
  rw [← e21]
  have hN21 : mN m21 = 55 := by rw [e21]; show mN m20 + 1 = _; rw [hN20]
  refine JT_putF dX4_init_89 flX4_42 BS_43 (Nat.le_of_ble_eq_true rfl) (by rw [hN21]; decide) (Or.inr ⟨_, ct_4_13⟩) rfl (fun _ h => by cases h; rfl) ?_
  rw [show wR m21 43 13 54 = op1 m21 (1, 43, 13, 54) from rfl]
  obtain ⟨m22, e22⟩ : ∃ z, z = op1 m21 (1, 43, 13, 54) := ⟨_, rfl⟩
  rw [← e22]
  have hN22 : mN m22 = 55 := by rw [e22]; exact hN21
  refine JT_aload_n (q := 0) dX4_init_92 rfl rfl ?_
  refine JT_aload_n (q := 1) dX4_init_93 rfl rfl ?_
  refine JT_putF dX4_init_94 flX4_45 BS_43 (Nat.le_of_ble_eq_true rfl) (by rw [hN22]; decide) (Or.inl ⟨_, ct_4_8⟩) rfl (fun _ h => by cases h; rfl) ?_
  rw [show wR m22 43 8 5 = op1 m22 (1, 43, 8, 5) from rfl]
  obtain ⟨m23, e23⟩ : ∃ z, z = op1 m22 (1, 43, 8, 5) := ⟨_, rfl⟩
  rw [← e23]
  have hN23 : mN m23 = 55 := by rw [e23]; exact hN22
  refine JT_vret (st := []) dX4_init_97 rfl ⟨trivial, rfl, ?_⟩
  rw [e23, e22, e21, e20, e19, e18, e17, e16, e15, e14, e13, e12, e11, e10, e9, e8, e7, e6, e5, e4, e3, e2, e1]
  simp only [kX4_init_43o, List.foldl_append, List.foldl_cons, List.foldl_nil]
set_option maxRecDepth 1000000 in
def kX4_init_57o : List OpT := [(0, 0, 0, 0), (1, 57, 0, 58), (0, 0, 0, 0), (1, 57, 1, 59), (0, 0, 0, 0), (1, 57, 2, 60), (0, 0, 0, 0), (1, 57, 3, 61), (0, 0, 0, 0), (1, 57, 4, 62), (0, 0, 0, 0), (1, 57, 5, 63), (0, 0, 0, 0), (1, 57, 6, 64), (0, 0, 0, 0), (1, 57, 7, 65), (0, 0, 0, 0), (1, 57, 11, 66), (0, 0, 0, 0), (1, 57, 12, 67), (0, 0, 0, 0), (1, 57, 13, 68), (1, 57, 8, 5)]
set_option maxRecDepth 1000000 in
theorem kX4_init_57 (m : JMem) (hN : mN m = 58) : JC MX4_init 1 11 558 [.ref 57, .ref 5] m (fun v m1 => v = none ∧ m1 = List.foldl op1 m kX4_init_57o) := by
  show JT MX4_init 1 11 558 0 [(0, .ref 57), (1, .ref 5)] [] m _
  refine JT_aload_n (q := 0) dX4_init_0 rfl rfl ?_
  refine JT_obj (d2 := 0) dX4_init_1 mlX4_3 (Nat.le_of_ble_eq_true rfl) rfl ?_
  refine JT_aload_n (q := 0) dX4_init_4 rfl rfl ?_
  refine JT_bipush (v := 60) dX4_init_5 (by decide) ?_
  refine JT_newa_int (mc := 10) (ms := 498) (N := 60) dX4_init_7 aw_int (by rw [hN]; exact BS_58) (by decide) (by decide) (by decide) ?_
  rw [hN]
  rw [show wN m = op1 m (0, 0, 0, 0) from rfl]
  obtain ⟨m1, e1⟩ : ∃ z, z = op1 m (0, 0, 0, 0) := ⟨_, rfl⟩
  rw [← e1]
  have hN1 : mN m1 = 59 := by rw [e1]; show mN m + 1 = _; rw [hN]
  refine JT_putF dX4_init_9 flX4_9 BS_57 (Nat.le_of_ble_eq_true rfl) (by rw [hN1]; decide) (Or.inr ⟨_, ct_4_0⟩) rfl (fun _ h => by cases h; rfl) ?_
  rw [show wR m1 57 0 58 = op1 m1 (1, 57, 0, 58) from rfl]
  obtain ⟨m2, e2⟩ : ∃ z, z = op1 m1 (1, 57, 0, 58) := ⟨_, rfl⟩
  rw [← e2]
  have hN2 : mN m2 = 59 := by rw [e2]; exact hN1
  refine JT_aload_n (q := 0) dX4_init_12 rfl rfl ?_
  refine JT_bipush (v := 60) dX4_init_13 (by decide) ?_
  refine JT_newa_int (mc := 9) (ms := 438) (N := 60) dX4_init_15 aw_int (by rw [hN2]; exact BS_59) (by decide) (by decide) (by decide) ?_
  rw [hN2]
  rw [show wN m2 = op1 m2 (0, 0, 0, 0) from rfl]
  obtain ⟨m3, e3⟩ : ∃ z, z = op1 m2 (0, 0, 0, 0) := ⟨_, rfl⟩
  rw [← e3]
  have hN3 : mN m3 = 60 := by rw [e3]; show mN m2 + 1 = _; rw [hN2]
  refine JT_putF dX4_init_17 flX4_15 BS_57 (Nat.le_of_ble_eq_true rfl) (by rw [hN3]; decide) (Or.inr ⟨_, ct_4_1⟩) rfl (fun _ h => by cases h; rfl) ?_
  rw [show wR m3 57 1 59 = op1 m3 (1, 57, 1, 59) from rfl]
  obtain ⟨m4, e4⟩ : ∃ z, z = op1 m3 (1, 57, 1, 59) := ⟨_, rfl⟩
  rw [← e4]
  have hN4 : mN m4 = 60 := by rw [e4]; exact hN3
  refine JT_aload_n (q := 0) dX4_init_20 rfl rfl ?_
  refine JT_bipush (v := 60) dX4_init_21 (by decide) ?_
  refine JT_newa_int (mc := 8) (ms := 378) (N := 60) dX4_init_23 aw_int (by rw [hN4]; exact BS_60) (by decide) (by decide) (by decide) ?_
  rw [hN4]
  rw [show wN m4 = op1 m4 (0, 0, 0, 0) from rfl]
  obtain ⟨m5, e5⟩ : ∃ z, z = op1 m4 (0, 0, 0, 0) := ⟨_, rfl⟩
  rw [← e5]
  have hN5 : mN m5 = 61 := by rw [e5]; show mN m4 + 1 = _; rw [hN4]
  refine JT_putF dX4_init_25 flX4_18 BS_57 (Nat.le_of_ble_eq_true rfl) (by rw [hN5]; decide) (Or.inr ⟨_, ct_4_2⟩) rfl (fun _ h => by cases h; rfl) ?_
  rw [show wR m5 57 2 60 = op1 m5 (1, 57, 2, 60) from rfl]
  obtain ⟨m6, e6⟩ : ∃ z, z = op1 m5 (1, 57, 2, 60) := ⟨_, rfl⟩
  rw [← e6]
  have hN6 : mN m6 = 61 := by rw [e6]; exact hN5
  refine JT_aload_n (q := 0) dX4_init_28 rfl rfl ?_
  refine JT_bipush (v := 60) dX4_init_29 (by decide) ?_
  refine JT_newa_int (mc := 7) (ms := 318) (N := 60) dX4_init_31 aw_int (by rw [hN6]; exact BS_61) (by decide) (by decide) (by decide) ?_
  rw [hN6]
  rw [show wN m6 = op1 m6 (0, 0, 0, 0) from rfl]
  obtain ⟨m7, e7⟩ : ∃ z, z = op1 m6 (0, 0, 0, 0) := ⟨_, rfl⟩
  rw [← e7]
  have hN7 : mN m7 = 62 := by rw [e7]; show mN m6 + 1 = _; rw [hN6]
  refine JT_putF dX4_init_33 flX4_21 BS_57 (Nat.le_of_ble_eq_true rfl) (by rw [hN7]; decide) (Or.inr ⟨_, ct_4_3⟩) rfl (fun _ h => by cases h; rfl) ?_
  rw [show wR m7 57 3 61 = op1 m7 (1, 57, 3, 61) from rfl]
  obtain ⟨m8, e8⟩ : ∃ z, z = op1 m7 (1, 57, 3, 61) := ⟨_, rfl⟩
  rw [← e8]
  have hN8 : mN m8 = 62 := by rw [e8]; exact hN7
  refine JT_aload_n (q := 0) dX4_init_36 rfl rfl ?_
  refine JT_bipush (v := 60) dX4_init_37 (by decide) ?_
  refine JT_newa_int (mc := 6) (ms := 258) (N := 60) dX4_init_39 aw_int (by rw [hN8]; exact BS_62) (by decide) (by decide) (by decide) ?_
  rw [hN8]
  rw [show wN m8 = op1 m8 (0, 0, 0, 0) from rfl]
  obtain ⟨m9, e9⟩ : ∃ z, z = op1 m8 (0, 0, 0, 0) := ⟨_, rfl⟩
  rw [← e9]
  have hN9 : mN m9 = 63 := by rw [e9]; show mN m8 + 1 = _; rw [hN8]
  refine JT_putF dX4_init_41 flX4_24 BS_57 (Nat.le_of_ble_eq_true rfl) (by rw [hN9]; decide) (Or.inr ⟨_, ct_4_4⟩) rfl (fun _ h => by cases h; rfl) ?_
  rw [show wR m9 57 4 62 = op1 m9 (1, 57, 4, 62) from rfl]
  obtain ⟨m10, e10⟩ : ∃ z, z = op1 m9 (1, 57, 4, 62) := ⟨_, rfl⟩
  rw [← e10]
  have hN10 : mN m10 = 63 := by rw [e10]; exact hN9
  refine JT_aload_n (q := 0) dX4_init_44 rfl rfl ?_
  refine JT_bipush (v := 60) dX4_init_45 (by decide) ?_
  refine JT_newa_int (mc := 5) (ms := 198) (N := 60) dX4_init_47 aw_int (by rw [hN10]; exact BS_63) (by decide) (by decide) (by decide) ?_
  rw [hN10]
  rw [show wN m10 = op1 m10 (0, 0, 0, 0) from rfl]
  obtain ⟨m11, e11⟩ : ∃ z, z = op1 m10 (0, 0, 0, 0) := ⟨_, rfl⟩
  rw [← e11]
  have hN11 : mN m11 = 64 := by rw [e11]; show mN m10 + 1 = _; rw [hN10]
  refine JT_putF dX4_init_49 flX4_27 BS_57 (Nat.le_of_ble_eq_true rfl) (by rw [hN11]; decide) (Or.inr ⟨_, ct_4_5⟩) rfl (fun _ h => by cases h; rfl) ?_
  rw [show wR m11 57 5 63 = op1 m11 (1, 57, 5, 63) from rfl]
  obtain ⟨m12, e12⟩ : ∃ z, z = op1 m11 (1, 57, 5, 63) := ⟨_, rfl⟩
  rw [← e12]
  have hN12 : mN m12 = 64 := by rw [e12]; exact hN11
  refine JT_aload_n (q := 0) dX4_init_52 rfl rfl ?_
  refine JT_bipush (v := 9) dX4_init_53 (by decide) ?_
  refine JT_newa_int (mc := 4) (ms := 189) (N := 9) dX4_init_55 aw_int (by rw [hN12]; exact BS_64) (by decide) (by decide) (by decide) ?_
  rw [hN12]
  rw [show wN m12 = op1 m12 (0, 0, 0, 0) from rfl]
  obtain ⟨m13, e13⟩ : ∃ z, z = op1 m12 (0, 0, 0, 0) := ⟨_, rfl⟩
  rw [← e13]
  have hN13 : mN m13 = 65 := by rw [e13]; show mN m12 + 1 = _; rw [hN12]
  refine JT_putF dX4_init_57 flX4_30 BS_57 (Nat.le_of_ble_eq_true rfl) (by rw [hN13]; decide) (Or.inr ⟨_, ct_4_6⟩) rfl (fun _ h => by cases h; rfl) ?_
  rw [show wR m13 57 6 64 = op1 m13 (1, 57, 6, 64) from rfl]
  obtain ⟨m14, e14⟩ : ∃ z, z = op1 m13 (1, 57, 6, 64) := ⟨_, rfl⟩
  rw [← e14]
  have hN14 : mN m14 = 65 := by rw [e14]; exact hN13
  refine JT_aload_n (q := 0) dX4_init_60 rfl rfl ?_
  refine JT_bipush (v := 9) dX4_init_61 (by decide) ?_
  refine JT_newa_int (mc := 3) (ms := 180) (N := 9) dX4_init_63 aw_int (by rw [hN14]; exact BS_65) (by decide) (by decide) (by decide) ?_
  rw [hN14]
  rw [show wN m14 = op1 m14 (0, 0, 0, 0) from rfl]
  obtain ⟨m15, e15⟩ : ∃ z, z = op1 m14 (0, 0, 0, 0) := ⟨_, rfl⟩
  rw [← e15]
  have hN15 : mN m15 = 66 := by rw [e15]; show mN m14 + 1 = _; rw [hN14]
  refine JT_putF dX4_init_65 flX4_33 BS_57 (Nat.le_of_ble_eq_true rfl) (by rw [hN15]; decide) (Or.inr ⟨_, ct_4_7⟩) rfl (fun _ h => by cases h; rfl) ?_
  rw [show wR m15 57 7 65 = op1 m15 (1, 57, 7, 65) from rfl]
  obtain ⟨m16, e16⟩ : ∃ z, z = op1 m15 (1, 57, 7, 65) := ⟨_, rfl⟩
  rw [← e16]
  have hN16 : mN m16 = 66 := by rw [e16]; exact hN15
  refine JT_aload_n (q := 0) dX4_init_68 rfl rfl ?_
  refine JT_bipush (v := 60) dX4_init_69 (by decide) ?_
  refine JT_newa_int (mc := 2) (ms := 120) (N := 60) dX4_init_71 aw_int (by rw [hN16]; exact BS_66) (by decide) (by decide) (by decide) ?_
  rw [hN16]
  rw [show wN m16 = op1 m16 (0, 0, 0, 0) from rfl]
  obtain ⟨m17, e17⟩ : ∃ z, z = op1 m16 (0, 0, 0, 0) := ⟨_, rfl⟩
  rw [← e17]
  have hN17 : mN m17 = 67 := by rw [e17]; show mN m16 + 1 = _; rw [hN16]
  refine JT_putF dX4_init_73 flX4_36 BS_57 (Nat.le_of_ble_eq_true rfl) (by rw [hN17]; decide) (Or.inr ⟨_, ct_4_11⟩) rfl (fun _ h => by cases h; rfl) ?_
  rw [show wR m17 57 11 66 = op1 m17 (1, 57, 11, 66) from rfl]
  obtain ⟨m18, e18⟩ : ∃ z, z = op1 m17 (1, 57, 11, 66) := ⟨_, rfl⟩
  rw [← e18]
  have hN18 : mN m18 = 67 := by rw [e18]; exact hN17
  refine JT_aload_n (q := 0) dX4_init_76 rfl rfl ?_
  refine JT_bipush (v := 60) dX4_init_77 (by decide) ?_
  refine JT_newa_int (mc := 1) (ms := 60) (N := 60) dX4_init_79 aw_int (by rw [hN18]; exact BS_67) (by decide) (by decide) (by decide) ?_
  rw [hN18]
  rw [show wN m18 = op1 m18 (0, 0, 0, 0) from rfl]
  obtain ⟨m19, e19⟩ : ∃ z, z = op1 m18 (0, 0, 0, 0) := ⟨_, rfl⟩
  rw [← e19]
  have hN19 : mN m19 = 68 := by rw [e19]; show mN m18 + 1 = _; rw [hN18]
  refine JT_putF dX4_init_81 flX4_39 BS_57 (Nat.le_of_ble_eq_true rfl) (by rw [hN19]; decide) (Or.inr ⟨_, ct_4_12⟩) rfl (fun _ h => by cases h; rfl) ?_
  rw [show wR m19 57 12 67 = op1 m19 (1, 57, 12, 67) from rfl]
  obtain ⟨m20, e20⟩ : ∃ z, z = op1 m19 (1, 57, 12, 67) := ⟨_, rfl⟩
  rw [← e20]
  have hN20 : mN m20 = 68 := by rw [e20]; exact hN19
  refine JT_aload_n (q := 0) dX4_init_84 rfl rfl ?_
  refine JT_bipush (v := 60) dX4_init_85 (by decide) ?_
  refine JT_newa_int (mc := 0) (ms := 0) (N := 60) dX4_init_87 aw_int (by rw [hN20]; exact BS_68) (by decide) (by decide) (by decide) ?_
  rw [hN20]
  rw [show wN m20 = op1 m20 (0, 0, 0, 0) from rfl]
  obtain ⟨m21, e21⟩ : ∃ z, z = op1 m20 (0, 0, 0, 0) := ⟨_, rfl⟩
  rw [← e21]
  have hN21 : mN m21 = 69 := by rw [e21]; show mN m20 + 1 = _; rw [hN20]
  refine JT_putF dX4_init_89 flX4_42 BS_57 (Nat.le_of_ble_eq_true rfl) (by rw [hN21]; decide) (Or.inr ⟨_, ct_4_13⟩) rfl (fun _ h => by cases h; rfl) ?_
  rw [show wR m21 57 13 68 = op1 m21 (1, 57, 13, 68) from rfl]
  obtain ⟨m22, e22⟩ : ∃ z, z = op1 m21 (1, 57, 13, 68) := ⟨_, rfl⟩
  rw [← e22]
  have hN22 : mN m22 = 69 := by rw [e22]; exact hN21
  refine JT_aload_n (q := 0) dX4_init_92 rfl rfl ?_
  refine JT_aload_n (q := 1) dX4_init_93 rfl rfl ?_
  refine JT_putF dX4_init_94 flX4_45 BS_57 (Nat.le_of_ble_eq_true rfl) (by rw [hN22]; decide) (Or.inl ⟨_, ct_4_8⟩) rfl (fun _ h => by cases h; rfl) ?_
  rw [show wR m22 57 8 5 = op1 m22 (1, 57, 8, 5) from rfl]
  obtain ⟨m23, e23⟩ : ∃ z, z = op1 m22 (1, 57, 8, 5) := ⟨_, rfl⟩
  rw [← e23]
  have hN23 : mN m23 = 69 := by rw [e23]; exact hN22
  refine JT_vret (st := []) dX4_init_97 rfl ⟨trivial, rfl, ?_⟩
  rw [e23, e22, e21, e20, e19, e18, e17, e16, e15, e14, e13, e12, e11, e10, e9, e8, e7, e6, e5, e4, e3, e2, e1]
  simp only [kX4_init_57o, List.foldl_append, List.foldl_cons, List.foldl_nil]
set_option maxRecDepth 1000000 in
def kX4_init_69o : List OpT := [(0, 0, 0, 0), (1, 69, 0, 70), (0, 0, 0, 0), (1, 69, 1, 71), (0, 0, 0, 0), (1, 69, 2, 72), (0, 0, 0, 0), (1, 69, 3, 73), (0, 0, 0, 0), (1, 69, 4, 74), (0, 0, 0, 0), (1, 69, 5, 75), (0, 0, 0, 0), (1, 69, 6, 76), (0, 0, 0, 0), (1, 69, 7, 77), (0, 0, 0, 0), (1, 69, 11, 78), (0, 0, 0, 0), (1, 69, 12, 79), (0, 0, 0, 0), (1, 69, 13, 80), (1, 69, 8, 5)]
set_option maxRecDepth 1000000 in
theorem kX4_init_69 (m : JMem) (hN : mN m = 70) : JC MX4_init 1 11 558 [.ref 69, .ref 5] m (fun v m1 => v = none ∧ m1 = List.foldl op1 m kX4_init_69o) := by
  show JT MX4_init 1 11 558 0 [(0, .ref 69), (1, .ref 5)] [] m _
  refine JT_aload_n (q := 0) dX4_init_0 rfl rfl ?_
  refine JT_obj (d2 := 0) dX4_init_1 mlX4_3 (Nat.le_of_ble_eq_true rfl) rfl ?_
  refine JT_aload_n (q := 0) dX4_init_4 rfl rfl ?_
  refine JT_bipush (v := 60) dX4_init_5 (by decide) ?_
  refine JT_newa_int (mc := 10) (ms := 498) (N := 60) dX4_init_7 aw_int (by rw [hN]; exact BS_70) (by decide) (by decide) (by decide) ?_
  rw [hN]
  rw [show wN m = op1 m (0, 0, 0, 0) from rfl]
  obtain ⟨m1, e1⟩ : ∃ z, z = op1 m (0, 0, 0, 0) := ⟨_, rfl⟩
  rw [← e1]
  have hN1 : mN m1 = 71 := by rw [e1]; show mN m + 1 = _; rw [hN]
  refine JT_putF dX4_init_9 flX4_9 BS_69 (Nat.le_of_ble_eq_true rfl) (by rw [hN1]; decide) (Or.inr ⟨_, ct_4_0⟩) rfl (fun _ h => by cases h; rfl) ?_
  rw [show wR m1 69 0 70 = op1 m1 (1, 69, 0, 70) from rfl]
  obtain ⟨m2, e2⟩ : ∃ z, z = op1 m1 (1, 69, 0, 70) := ⟨_, rfl⟩
  rw [← e2]
  have hN2 : mN m2 = 71 := by rw [e2]; exact hN1
  refine JT_aload_n (q := 0) dX4_init_12 rfl rfl ?_
  refine JT_bipush (v := 60) dX4_init_13 (by decide) ?_
  refine JT_newa_int (mc := 9) (ms := 438) (N := 60) dX4_init_15 aw_int (by rw [hN2]; exact BS_71) (by decide) (by decide) (by decide) ?_
  rw [hN2]
  rw [show wN m2 = op1 m2 (0, 0, 0, 0) from rfl]
  obtain ⟨m3, e3⟩ : ∃ z, z = op1 m2 (0, 0, 0, 0) := ⟨_, rfl⟩
  rw [← e3]
  have hN3 : mN m3 = 72 := by rw [e3]; show mN m2 + 1 = _; rw [hN2]
  refine JT_putF dX4_init_17 flX4_15 BS_69 (Nat.le_of_ble_eq_true rfl) (by rw [hN3]; decide) (Or.inr ⟨_, ct_4_1⟩) rfl (fun _ h => by cases h; rfl) ?_
  rw [show wR m3 69 1 71 = op1 m3 (1, 69, 1, 71) from rfl]
  obtain ⟨m4, e4⟩ : ∃ z, z = op1 m3 (1, 69, 1, 71) := ⟨_, rfl⟩
  rw [← e4]
  have hN4 : mN m4 = 72 := by rw [e4]; exact hN3
  refine JT_aload_n (q := 0) dX4_init_20 rfl rfl ?_
  refine JT_bipush (v := 60) dX4_init_21 (by decide) ?_
  refine JT_newa_int (mc := 8) (ms := 378) (N := 60) dX4_init_23 aw_int (by rw [hN4]; exact BS_72) (by decide) (by decide) (by decide) ?_
  rw [hN4]
  rw [show wN m4 = op1 m4 (0, 0, 0, 0) from rfl]
  obtain ⟨m5, e5⟩ : ∃ z, z = op1 m4 (0, 0, 0, 0) := ⟨_, rfl⟩
  rw [← e5]
  have hN5 : mN m5 = 73 := by rw [e5]; show mN m4 + 1 = _; rw [hN4]
  refine JT_putF dX4_init_25 flX4_18 BS_69 (Nat.le_of_ble_eq_true rfl) (by rw [hN5]; decide) (Or.inr ⟨_, ct_4_2⟩) rfl (fun _ h => by cases h; rfl) ?_
  rw [show wR m5 69 2 72 = op1 m5 (1, 69, 2, 72) from rfl]
  obtain ⟨m6, e6⟩ : ∃ z, z = op1 m5 (1, 69, 2, 72) := ⟨_, rfl⟩
  rw [← e6]
  have hN6 : mN m6 = 73 := by rw [e6]; exact hN5
  refine JT_aload_n (q := 0) dX4_init_28 rfl rfl ?_
  refine JT_bipush (v := 60) dX4_init_29 (by decide) ?_
  refine JT_newa_int (mc := 7) (ms := 318) (N := 60) dX4_init_31 aw_int (by rw [hN6]; exact BS_73) (by decide) (by decide) (by decide) ?_
  rw [hN6]
  rw [show wN m6 = op1 m6 (0, 0, 0, 0) from rfl]
  obtain ⟨m7, e7⟩ : ∃ z, z = op1 m6 (0, 0, 0, 0) := ⟨_, rfl⟩
  rw [← e7]
  have hN7 : mN m7 = 74 := by rw [e7]; show mN m6 + 1 = _; rw [hN6]
  refine JT_putF dX4_init_33 flX4_21 BS_69 (Nat.le_of_ble_eq_true rfl) (by rw [hN7]; decide) (Or.inr ⟨_, ct_4_3⟩) rfl (fun _ h => by cases h; rfl) ?_
  rw [show wR m7 69 3 73 = op1 m7 (1, 69, 3, 73) from rfl]
  obtain ⟨m8, e8⟩ : ∃ z, z = op1 m7 (1, 69, 3, 73) := ⟨_, rfl⟩
  rw [← e8]
  have hN8 : mN m8 = 74 := by rw [e8]; exact hN7
  refine JT_aload_n (q := 0) dX4_init_36 rfl rfl ?_
  refine JT_bipush (v := 60) dX4_init_37 (by decide) ?_
  refine JT_newa_int (mc := 6) (ms := 258) (N := 60) dX4_init_39 aw_int (by rw [hN8]; exact BS_74) (by decide) (by decide) (by decide) ?_
  rw [hN8]
  rw [show wN m8 = op1 m8 (0, 0, 0, 0) from rfl]
  obtain ⟨m9, e9⟩ : ∃ z, z = op1 m8 (0, 0, 0, 0) := ⟨_, rfl⟩
  rw [← e9]
  have hN9 : mN m9 = 75 := by rw [e9]; show mN m8 + 1 = _; rw [hN8]
  refine JT_putF dX4_init_41 flX4_24 BS_69 (Nat.le_of_ble_eq_true rfl) (by rw [hN9]; decide) (Or.inr ⟨_, ct_4_4⟩) rfl (fun _ h => by cases h; rfl) ?_
  rw [show wR m9 69 4 74 = op1 m9 (1, 69, 4, 74) from rfl]
  obtain ⟨m10, e10⟩ : ∃ z, z = op1 m9 (1, 69, 4, 74) := ⟨_, rfl⟩
  rw [← e10]
  have hN10 : mN m10 = 75 := by rw [e10]; exact hN9
  refine JT_aload_n (q := 0) dX4_init_44 rfl rfl ?_
  refine JT_bipush (v := 60) dX4_init_45 (by decide) ?_
  refine JT_newa_int (mc := 5) (ms := 198) (N := 60) dX4_init_47 aw_int (by rw [hN10]; exact BS_75) (by decide) (by decide) (by decide) ?_
  rw [hN10]
  rw [show wN m10 = op1 m10 (0, 0, 0, 0) from rfl]
  obtain ⟨m11, e11⟩ : ∃ z, z = op1 m10 (0, 0, 0, 0) := ⟨_, rfl⟩
  rw [← e11]
  have hN11 : mN m11 = 76 := by rw [e11]; show mN m10 + 1 = _; rw [hN10]
  refine JT_putF dX4_init_49 flX4_27 BS_69 (Nat.le_of_ble_eq_true rfl) (by rw [hN11]; decide) (Or.inr ⟨_, ct_4_5⟩) rfl (fun _ h => by cases h; rfl) ?_
  rw [show wR m11 69 5 75 = op1 m11 (1, 69, 5, 75) from rfl]
  obtain ⟨m12, e12⟩ : ∃ z, z = op1 m11 (1, 69, 5, 75) := ⟨_, rfl⟩
  rw [← e12]
  have hN12 : mN m12 = 76 := by rw [e12]; exact hN11
  refine JT_aload_n (q := 0) dX4_init_52 rfl rfl ?_
  refine JT_bipush (v := 9) dX4_init_53 (by decide) ?_
  refine JT_newa_int (mc := 4) (ms := 189) (N := 9) dX4_init_55 aw_int (by rw [hN12]; exact BS_76) (by decide) (by decide) (by decide) ?_
  rw [hN12]
  rw [show wN m12 = op1 m12 (0, 0, 0, 0) from rfl]
  obtain ⟨m13, e13⟩ : ∃ z, z = op1 m12 (0, 0, 0, 0) := ⟨_, rfl⟩
  rw [← e13]
  have hN13 : mN m13 = 77 := by rw [e13]; show mN m12 + 1 = _; rw [hN12]
  refine JT_putF dX4_init_57 flX4_30 BS_69 (Nat.le_of_ble_eq_true rfl) (by rw [hN13]; decide) (Or.inr ⟨_, ct_4_6⟩) rfl (fun _ h => by cases h; rfl) ?_
  rw [show wR m13 69 6 76 = op1 m13 (1, 69, 6, 76) from rfl]
  obtain ⟨m14, e14⟩ : ∃ z, z = op1 m13 (1, 69, 6, 76) := ⟨_, rfl⟩
  rw [← e14]
  have hN14 : mN m14 = 77 := by rw [e14]; exact hN13
  refine JT_aload_n (q := 0) dX4_init_60 rfl rfl ?_
  refine JT_bipush (v := 9) dX4_init_61 (by decide) ?_
  refine JT_newa_int (mc := 3) (ms := 180) (N := 9) dX4_init_63 aw_int (by rw [hN14]; exact BS_77) (by decide) (by decide) (by decide) ?_
  rw [hN14]
  rw [show wN m14 = op1 m14 (0, 0, 0, 0) from rfl]
  obtain ⟨m15, e15⟩ : ∃ z, z = op1 m14 (0, 0, 0, 0) := ⟨_, rfl⟩
  rw [← e15]
  have hN15 : mN m15 = 78 := by rw [e15]; show mN m14 + 1 = _; rw [hN14]
  refine JT_putF dX4_init_65 flX4_33 BS_69 (Nat.le_of_ble_eq_true rfl) (by rw [hN15]; decide) (Or.inr ⟨_, ct_4_7⟩) rfl (fun _ h => by cases h; rfl) ?_
  rw [show wR m15 69 7 77 = op1 m15 (1, 69, 7, 77) from rfl]
  obtain ⟨m16, e16⟩ : ∃ z, z = op1 m15 (1, 69, 7, 77) := ⟨_, rfl⟩
  rw [← e16]
  have hN16 : mN m16 = 78 := by rw [e16]; exact hN15
  refine JT_aload_n (q := 0) dX4_init_68 rfl rfl ?_
  refine JT_bipush (v := 60) dX4_init_69 (by decide) ?_
  refine JT_newa_int (mc := 2) (ms := 120) (N := 60) dX4_init_71 aw_int (by rw [hN16]; exact BS_78) (by decide) (by decide) (by decide) ?_
  rw [hN16]
  rw [show wN m16 = op1 m16 (0, 0, 0, 0) from rfl]
  obtain ⟨m17, e17⟩ : ∃ z, z = op1 m16 (0, 0, 0, 0) := ⟨_, rfl⟩
  rw [← e17]
  have hN17 : mN m17 = 79 := by rw [e17]; show mN m16 + 1 = _; rw [hN16]
  refine JT_putF dX4_init_73 flX4_36 BS_69 (Nat.le_of_ble_eq_true rfl) (by rw [hN17]; decide) (Or.inr ⟨_, ct_4_11⟩) rfl (fun _ h => by cases h; rfl) ?_
  rw [show wR m17 69 11 78 = op1 m17 (1, 69, 11, 78) from rfl]
  obtain ⟨m18, e18⟩ : ∃ z, z = op1 m17 (1, 69, 11, 78) := ⟨_, rfl⟩
  rw [← e18]
  have hN18 : mN m18 = 79 := by rw [e18]; exact hN17
  refine JT_aload_n (q := 0) dX4_init_76 rfl rfl ?_
  refine JT_bipush (v := 60) dX4_init_77 (by decide) ?_
  refine JT_newa_int (mc := 1) (ms := 60) (N := 60) dX4_init_79 aw_int (by rw [hN18]; exact BS_79) (by decide) (by decide) (by decide) ?_
  rw [hN18]
  rw [show wN m18 = op1 m18 (0, 0, 0, 0) from rfl]
  obtain ⟨m19, e19⟩ : ∃ z, z = op1 m18 (0, 0, 0, 0) := ⟨_, rfl⟩
  rw [← e19]
  have hN19 : mN m19 = 80 := by rw [e19]; show mN m18 + 1 = _; rw [hN18]
  refine JT_putF dX4_init_81 flX4_39 BS_69 (Nat.le_of_ble_eq_true rfl) (by rw [hN19]; decide) (Or.inr ⟨_, ct_4_12⟩) rfl (fun _ h => by cases h; rfl) ?_
  rw [show wR m19 69 12 79 = op1 m19 (1, 69, 12, 79) from rfl]
  obtain ⟨m20, e20⟩ : ∃ z, z = op1 m19 (1, 69, 12, 79) := ⟨_, rfl⟩
  rw [← e20]
  have hN20 : mN m20 = 80 := by rw [e20]; exact hN19
  refine JT_aload_n (q := 0) dX4_init_84 rfl rfl ?_
  refine JT_bipush (v := 60) dX4_init_85 (by decide) ?_
  refine JT_newa_int (mc := 0) (ms := 0) (N := 60) dX4_init_87 aw_int (by rw [hN20]; exact BS_80) (by decide) (by decide) (by decide) ?_
  rw [hN20]
  rw [show wN m20 = op1 m20 (0, 0, 0, 0) from rfl]
  obtain ⟨m21, e21⟩ : ∃ z, z = op1 m20 (0, 0, 0, 0) := ⟨_, rfl⟩
  rw [← e21]
  have hN21 : mN m21 = 81 := by rw [e21]; show mN m20 + 1 = _; rw [hN20]
  refine JT_putF dX4_init_89 flX4_42 BS_69 (Nat.le_of_ble_eq_true rfl) (by rw [hN21]; decide) (Or.inr ⟨_, ct_4_13⟩) rfl (fun _ h => by cases h; rfl) ?_
  rw [show wR m21 69 13 80 = op1 m21 (1, 69, 13, 80) from rfl]
  obtain ⟨m22, e22⟩ : ∃ z, z = op1 m21 (1, 69, 13, 80) := ⟨_, rfl⟩
  rw [← e22]
  have hN22 : mN m22 = 81 := by rw [e22]; exact hN21
  refine JT_aload_n (q := 0) dX4_init_92 rfl rfl ?_
  refine JT_aload_n (q := 1) dX4_init_93 rfl rfl ?_
  refine JT_putF dX4_init_94 flX4_45 BS_69 (Nat.le_of_ble_eq_true rfl) (by rw [hN22]; decide) (Or.inl ⟨_, ct_4_8⟩) rfl (fun _ h => by cases h; rfl) ?_
  rw [show wR m22 69 8 5 = op1 m22 (1, 69, 8, 5) from rfl]
  obtain ⟨m23, e23⟩ : ∃ z, z = op1 m22 (1, 69, 8, 5) := ⟨_, rfl⟩
  rw [← e23]
  have hN23 : mN m23 = 81 := by rw [e23]; exact hN22
  refine JT_vret (st := []) dX4_init_97 rfl ⟨trivial, rfl, ?_⟩
  rw [e23, e22, e21, e20, e19, e18, e17, e16, e15, e14, e13, e12, e11, e10, e9, e8, e7, e6, e5, e4, e3, e2, e1]
  simp only [kX4_init_69o, List.foldl_append, List.foldl_cons, List.foldl_nil]
set_option maxRecDepth 1000000 in
def kX4_init_81o : List OpT := [(0, 0, 0, 0), (1, 81, 0, 82), (0, 0, 0, 0), (1, 81, 1, 83), (0, 0, 0, 0), (1, 81, 2, 84), (0, 0, 0, 0), (1, 81, 3, 85), (0, 0, 0, 0), (1, 81, 4, 86), (0, 0, 0, 0), (1, 81, 5, 87), (0, 0, 0, 0), (1, 81, 6, 88), (0, 0, 0, 0), (1, 81, 7, 89), (0, 0, 0, 0), (1, 81, 11, 90), (0, 0, 0, 0), (1, 81, 12, 91), (0, 0, 0, 0), (1, 81, 13, 92), (1, 81, 8, 5)]
set_option maxRecDepth 1000000 in
theorem kX4_init_81 (m : JMem) (hN : mN m = 82) : JC MX4_init 1 11 558 [.ref 81, .ref 5] m (fun v m1 => v = none ∧ m1 = List.foldl op1 m kX4_init_81o) := by
  show JT MX4_init 1 11 558 0 [(0, .ref 81), (1, .ref 5)] [] m _
  refine JT_aload_n (q := 0) dX4_init_0 rfl rfl ?_
  refine JT_obj (d2 := 0) dX4_init_1 mlX4_3 (Nat.le_of_ble_eq_true rfl) rfl ?_
  refine JT_aload_n (q := 0) dX4_init_4 rfl rfl ?_
  refine JT_bipush (v := 60) dX4_init_5 (by decide) ?_
  refine JT_newa_int (mc := 10) (ms := 498) (N := 60) dX4_init_7 aw_int (by rw [hN]; exact BS_82) (by decide) (by decide) (by decide) ?_
  rw [hN]
  rw [show wN m = op1 m (0, 0, 0, 0) from rfl]
  obtain ⟨m1, e1⟩ : ∃ z, z = op1 m (0, 0, 0, 0) := ⟨_, rfl⟩
  rw [← e1]
  have hN1 : mN m1 = 83 := by rw [e1]; show mN m + 1 = _; rw [hN]
  refine JT_putF dX4_init_9 flX4_9 BS_81 (Nat.le_of_ble_eq_true rfl) (by rw [hN1]; decide) (Or.inr ⟨_, ct_4_0⟩) rfl (fun _ h => by cases h; rfl) ?_
  rw [show wR m1 81 0 82 = op1 m1 (1, 81, 0, 82) from rfl]
  obtain ⟨m2, e2⟩ : ∃ z, z = op1 m1 (1, 81, 0, 82) := ⟨_, rfl⟩
  rw [← e2]
  have hN2 : mN m2 = 83 := by rw [e2]; exact hN1
  refine JT_aload_n (q := 0) dX4_init_12 rfl rfl ?_
  refine JT_bipush (v := 60) dX4_init_13 (by decide) ?_
  refine JT_newa_int (mc := 9) (ms := 438) (N := 60) dX4_init_15 aw_int (by rw [hN2]; exact BS_83) (by decide) (by decide) (by decide) ?_
  rw [hN2]
  rw [show wN m2 = op1 m2 (0, 0, 0, 0) from rfl]
  obtain ⟨m3, e3⟩ : ∃ z, z = op1 m2 (0, 0, 0, 0) := ⟨_, rfl⟩
  rw [← e3]
  have hN3 : mN m3 = 84 := by rw [e3]; show mN m2 + 1 = _; rw [hN2]
  refine JT_putF dX4_init_17 flX4_15 BS_81 (Nat.le_of_ble_eq_true rfl) (by rw [hN3]; decide) (Or.inr ⟨_, ct_4_1⟩) rfl (fun _ h => by cases h; rfl) ?_
  rw [show wR m3 81 1 83 = op1 m3 (1, 81, 1, 83) from rfl]
  obtain ⟨m4, e4⟩ : ∃ z, z = op1 m3 (1, 81, 1, 83) := ⟨_, rfl⟩
  rw [← e4]
  have hN4 : mN m4 = 84 := by rw [e4]; exact hN3
  refine JT_aload_n (q := 0) dX4_init_20 rfl rfl ?_
  refine JT_bipush (v := 60) dX4_init_21 (by decide) ?_
  refine JT_newa_int (mc := 8) (ms := 378) (N := 60) dX4_init_23 aw_int (by rw [hN4]; exact BS_84) (by decide) (by decide) (by decide) ?_
  rw [hN4]
  rw [show wN m4 = op1 m4 (0, 0, 0, 0) from rfl]
  obtain ⟨m5, e5⟩ : ∃ z, z = op1 m4 (0, 0, 0, 0) := ⟨_, rfl⟩
  rw [← e5]
  have hN5 : mN m5 = 85 := by rw [e5]; show mN m4 + 1 = _; rw [hN4]
  refine JT_putF dX4_init_25 flX4_18 BS_81 (Nat.le_of_ble_eq_true rfl) (by rw [hN5]; decide) (Or.inr ⟨_, ct_4_2⟩) rfl (fun _ h => by cases h; rfl) ?_
  rw [show wR m5 81 2 84 = op1 m5 (1, 81, 2, 84) from rfl]
  obtain ⟨m6, e6⟩ : ∃ z, z = op1 m5 (1, 81, 2, 84) := ⟨_, rfl⟩
  rw [← e6]
  have hN6 : mN m6 = 85 := by rw [e6]; exact hN5
  refine JT_aload_n (q := 0) dX4_init_28 rfl rfl ?_
  refine JT_bipush (v := 60) dX4_init_29 (by decide) ?_
  refine JT_newa_int (mc := 7) (ms := 318) (N := 60) dX4_init_31 aw_int (by rw [hN6]; exact BS_85) (by decide) (by decide) (by decide) ?_
  rw [hN6]
  rw [show wN m6 = op1 m6 (0, 0, 0, 0) from rfl]
  obtain ⟨m7, e7⟩ : ∃ z, z = op1 m6 (0, 0, 0, 0) := ⟨_, rfl⟩
  rw [← e7]
  have hN7 : mN m7 = 86 := by rw [e7]; show mN m6 + 1 = _; rw [hN6]
  refine JT_putF dX4_init_33 flX4_21 BS_81 (Nat.le_of_ble_eq_true rfl) (by rw [hN7]; decide) (Or.inr ⟨_, ct_4_3⟩) rfl (fun _ h => by cases h; rfl) ?_
  rw [show wR m7 81 3 85 = op1 m7 (1, 81, 3, 85) from rfl]
  obtain ⟨m8, e8⟩ : ∃ z, z = op1 m7 (1, 81, 3, 85) := ⟨_, rfl⟩
  rw [← e8]
  have hN8 : mN m8 = 86 := by rw [e8]; exact hN7
  refine JT_aload_n (q := 0) dX4_init_36 rfl rfl ?_
  refine JT_bipush (v := 60) dX4_init_37 (by decide) ?_
  refine JT_newa_int (mc := 6) (ms := 258) (N := 60) dX4_init_39 aw_int (by rw [hN8]; exact BS_86) (by decide) (by decide) (by decide) ?_
  rw [hN8]
  rw [show wN m8 = op1 m8 (0, 0, 0, 0) from rfl]
  obtain ⟨m9, e9⟩ : ∃ z, z = op1 m8 (0, 0, 0, 0) := ⟨_, rfl⟩
  rw [← e9]
  have hN9 : mN m9 = 87 := by rw [e9]; show mN m8 + 1 = _; rw [hN8]
  refine JT_putF dX4_init_41 flX4_24 BS_81 (Nat.le_of_ble_eq_true rfl) (by rw [hN9]; decide) (Or.inr ⟨_, ct_4_4⟩) rfl (fun _ h => by cases h; rfl) ?_
  rw [show wR m9 81 4 86 = op1 m9 (1, 81, 4, 86) from rfl]
  obtain ⟨m10, e10⟩ : ∃ z, z = op1 m9 (1, 81, 4, 86) := ⟨_, rfl⟩
  rw [← e10]
  have hN10 : mN m10 = 87 := by rw [e10]; exact hN9
  refine JT_aload_n (q := 0) dX4_init_44 rfl rfl ?_
  refine JT_bipush (v := 60) dX4_init_45 (by decide) ?_
  refine JT_newa_int (mc := 5) (ms := 198) (N := 60) dX4_init_47 aw_int (by rw [hN10]; exact BS_87) (by decide) (by decide) (by decide) ?_
  rw [hN10]
  rw [show wN m10 = op1 m10 (0, 0, 0, 0) from rfl]
  obtain ⟨m11, e11⟩ : ∃ z, z = op1 m10 (0, 0, 0, 0) := ⟨_, rfl⟩
  rw [← e11]
  have hN11 : mN m11 = 88 := by rw [e11]; show mN m10 + 1 = _; rw [hN10]
  refine JT_putF dX4_init_49 flX4_27 BS_81 (Nat.le_of_ble_eq_true rfl) (by rw [hN11]; decide) (Or.inr ⟨_, ct_4_5⟩) rfl (fun _ h => by cases h; rfl) ?_
  rw [show wR m11 81 5 87 = op1 m11 (1, 81, 5, 87) from rfl]
  obtain ⟨m12, e12⟩ : ∃ z, z = op1 m11 (1, 81, 5, 87) := ⟨_, rfl⟩
  rw [← e12]
  have hN12 : mN m12 = 88 := by rw [e12]; exact hN11
  refine JT_aload_n (q := 0) dX4_init_52 rfl rfl ?_
  refine JT_bipush (v := 9) dX4_init_53 (by decide) ?_
  refine JT_newa_int (mc := 4) (ms := 189) (N := 9) dX4_init_55 aw_int (by rw [hN12]; exact BS_88) (by decide) (by decide) (by decide) ?_
  rw [hN12]
  rw [show wN m12 = op1 m12 (0, 0, 0, 0) from rfl]
  obtain ⟨m13, e13⟩ : ∃ z, z = op1 m12 (0, 0, 0, 0) := ⟨_, rfl⟩
  rw [← e13]
  have hN13 : mN m13 = 89 := by rw [e13]; show mN m12 + 1 = _; rw [hN12]
  refine JT_putF dX4_init_57 flX4_30 BS_81 (Nat.le_of_ble_eq_true rfl) (by rw [hN13]; decide) (Or.inr ⟨_, ct_4_6⟩) rfl (fun _ h => by cases h; rfl) ?_
  rw [show wR m13 81 6 88 = op1 m13 (1, 81, 6, 88) from rfl]
  obtain ⟨m14, e14⟩ : ∃ z, z = op1 m13 (1, 81, 6, 88) := ⟨_, rfl⟩
  rw [← e14]
  have hN14 : mN m14 = 89 := by rw [e14]; exact hN13
  refine JT_aload_n (q := 0) dX4_init_60 rfl rfl ?_
  refine JT_bipush (v := 9) dX4_init_61 (by decide) ?_
  refine JT_newa_int (mc := 3) (ms := 180) (N := 9) dX4_init_63 aw_int (by rw [hN14]; exact BS_89) (by decide) (by decide) (by decide) ?_
  rw [hN14]
  rw [show wN m14 = op1 m14 (0, 0, 0, 0) from rfl]
  obtain ⟨m15, e15⟩ : ∃ z, z = op1 m14 (0, 0, 0, 0) := ⟨_, rfl⟩
  rw [← e15]
  have hN15 : mN m15 = 90 := by rw [e15]; show mN m14 + 1 = _; rw [hN14]
  refine JT_putF dX4_init_65 flX4_33 BS_81 (Nat.le_of_ble_eq_true rfl) (by rw [hN15]; decide) (Or.inr ⟨_, ct_4_7⟩) rfl (fun _ h => by cases h; rfl) ?_
  rw [show wR m15 81 7 89 = op1 m15 (1, 81, 7, 89) from rfl]
  obtain ⟨m16, e16⟩ : ∃ z, z = op1 m15 (1, 81, 7, 89) := ⟨_, rfl⟩
  rw [← e16]
  have hN16 : mN m16 = 90 := by rw [e16]; exact hN15
  refine JT_aload_n (q := 0) dX4_init_68 rfl rfl ?_
  refine JT_bipush (v := 60) dX4_init_69 (by decide) ?_
  refine JT_newa_int (mc := 2) (ms := 120) (N := 60) dX4_init_71 aw_int (by rw [hN16]; exact BS_90) (by decide) (by decide) (by decide) ?_
  rw [hN16]
  rw [show wN m16 = op1 m16 (0, 0, 0, 0) from rfl]
  obtain ⟨m17, e17⟩ : ∃ z, z = op1 m16 (0, 0, 0, 0) := ⟨_, rfl⟩
  rw [← e17]
  have hN17 : mN m17 = 91 := by rw [e17]; show mN m16 + 1 = _; rw [hN16]
  refine JT_putF dX4_init_73 flX4_36 BS_81 (Nat.le_of_ble_eq_true rfl) (by rw [hN17]; decide) (Or.inr ⟨_, ct_4_11⟩) rfl (fun _ h => by cases h; rfl) ?_
  rw [show wR m17 81 11 90 = op1 m17 (1, 81, 11, 90) from rfl]
  obtain ⟨m18, e18⟩ : ∃ z, z = op1 m17 (1, 81, 11, 90) := ⟨_, rfl⟩
  rw [← e18]
  have hN18 : mN m18 = 91 := by rw [e18]; exact hN17
  refine JT_aload_n (q := 0) dX4_init_76 rfl rfl ?_
  refine JT_bipush (v := 60) dX4_init_77 (by decide) ?_
  refine JT_newa_int (mc := 1) (ms := 60) (N := 60) dX4_init_79 aw_int (by rw [hN18]; exact BS_91) (by decide) (by decide) (by decide) ?_
  rw [hN18]
  rw [show wN m18 = op1 m18 (0, 0, 0, 0) from rfl]
  obtain ⟨m19, e19⟩ : ∃ z, z = op1 m18 (0, 0, 0, 0) := ⟨_, rfl⟩
  rw [← e19]
  have hN19 : mN m19 = 92 := by rw [e19]; show mN m18 + 1 = _; rw [hN18]
  refine JT_putF dX4_init_81 flX4_39 BS_81 (Nat.le_of_ble_eq_true rfl) (by rw [hN19]; decide) (Or.inr ⟨_, ct_4_12⟩) rfl (fun _ h => by cases h; rfl) ?_
  rw [show wR m19 81 12 91 = op1 m19 (1, 81, 12, 91) from rfl]
  obtain ⟨m20, e20⟩ : ∃ z, z = op1 m19 (1, 81, 12, 91) := ⟨_, rfl⟩
  rw [← e20]
  have hN20 : mN m20 = 92 := by rw [e20]; exact hN19
  refine JT_aload_n (q := 0) dX4_init_84 rfl rfl ?_
  refine JT_bipush (v := 60) dX4_init_85 (by decide) ?_
  refine JT_newa_int (mc := 0) (ms := 0) (N := 60) dX4_init_87 aw_int (by rw [hN20]; exact BS_92) (by decide) (by decide) (by decide) ?_
  rw [hN20]
  rw [show wN m20 = op1 m20 (0, 0, 0, 0) from rfl]
  obtain ⟨m21, e21⟩ : ∃ z, z = op1 m20 (0, 0, 0, 0) := ⟨_, rfl⟩
  rw [← e21]
  have hN21 : mN m21 = 93 := by rw [e21]; show mN m20 + 1 = _; rw [hN20]
  refine JT_putF dX4_init_89 flX4_42 BS_81 (Nat.le_of_ble_eq_true rfl) (by rw [hN21]; decide) (Or.inr ⟨_, ct_4_13⟩) rfl (fun _ h => by cases h; rfl) ?_
  rw [show wR m21 81 13 92 = op1 m21 (1, 81, 13, 92) from rfl]
  obtain ⟨m22, e22⟩ : ∃ z, z = op1 m21 (1, 81, 13, 92) := ⟨_, rfl⟩
  rw [← e22]
  have hN22 : mN m22 = 93 := by rw [e22]; exact hN21
  refine JT_aload_n (q := 0) dX4_init_92 rfl rfl ?_
  refine JT_aload_n (q := 1) dX4_init_93 rfl rfl ?_
  refine JT_putF dX4_init_94 flX4_45 BS_81 (Nat.le_of_ble_eq_true rfl) (by rw [hN22]; decide) (Or.inl ⟨_, ct_4_8⟩) rfl (fun _ h => by cases h; rfl) ?_
  rw [show wR m22 81 8 5 = op1 m22 (1, 81, 8, 5) from rfl]
  obtain ⟨m23, e23⟩ : ∃ z, z = op1 m22 (1, 81, 8, 5) := ⟨_, rfl⟩
  rw [← e23]
  have hN23 : mN m23 = 93 := by rw [e23]; exact hN22
  refine JT_vret (st := []) dX4_init_97 rfl ⟨trivial, rfl, ?_⟩
  rw [e23, e22, e21, e20, e19, e18, e17, e16, e15, e14, e13, e12, e11, e10, e9, e8, e7, e6, e5, e4, e3, e2, e1]
  simp only [kX4_init_81o, List.foldl_append, List.foldl_cons, List.foldl_nil]
set_option maxRecDepth 1000000 in
def kX4_init_93o : List OpT := [(0, 0, 0, 0), (1, 93, 0, 94), (0, 0, 0, 0), (1, 93, 1, 95), (0, 0, 0, 0), (1, 93, 2, 96), (0, 0, 0, 0), (1, 93, 3, 97), (0, 0, 0, 0), (1, 93, 4, 98), (0, 0, 0, 0), (1, 93, 5, 99), (0, 0, 0, 0), (1, 93, 6, 100), (0, 0, 0, 0), (1, 93, 7, 101), (0, 0, 0, 0), (1, 93, 11, 102), (0, 0, 0, 0), (1, 93, 12, 103), (0, 0, 0, 0), (1, 93, 13, 104), (1, 93, 8, 5)]
set_option maxRecDepth 1000000 in
theorem kX4_init_93 (m : JMem) (hN : mN m = 94) : JC MX4_init 1 11 558 [.ref 93, .ref 5] m (fun v m1 => v = none ∧ m1 = List.foldl op1 m kX4_init_93o) := by
  show JT MX4_init 1 11 558 0 [(0, .ref 93), (1, .ref 5)] [] m _
  refine JT_aload_n (q := 0) dX4_init_0 rfl rfl ?_
  refine JT_obj (d2 := 0) dX4_init_1 mlX4_3 (Nat.le_of_ble_eq_true rfl) rfl ?_
  refine JT_aload_n (q := 0) dX4_init_4 rfl rfl ?_
  refine JT_bipush (v := 60) dX4_init_5 (by decide) ?_
  refine JT_newa_int (mc := 10) (ms := 498) (N := 60) dX4_init_7 aw_int (by rw [hN]; exact BS_94) (by decide) (by decide) (by decide) ?_
  rw [hN]
  rw [show wN m = op1 m (0, 0, 0, 0) from rfl]
  obtain ⟨m1, e1⟩ : ∃ z, z = op1 m (0, 0, 0, 0) := ⟨_, rfl⟩
  rw [← e1]
  have hN1 : mN m1 = 95 := by rw [e1]; show mN m + 1 = _; rw [hN]
  refine JT_putF dX4_init_9 flX4_9 BS_93 (Nat.le_of_ble_eq_true rfl) (by rw [hN1]; decide) (Or.inr ⟨_, ct_4_0⟩) rfl (fun _ h => by cases h; rfl) ?_
  rw [show wR m1 93 0 94 = op1 m1 (1, 93, 0, 94) from rfl]
  obtain ⟨m2, e2⟩ : ∃ z, z = op1 m1 (1, 93, 0, 94) := ⟨_, rfl⟩
  rw [← e2]
  have hN2 : mN m2 = 95 := by rw [e2]; exact hN1
  refine JT_aload_n (q := 0) dX4_init_12 rfl rfl ?_
  refine JT_bipush (v := 60) dX4_init_13 (by decide) ?_
  refine JT_newa_int (mc := 9) (ms := 438) (N := 60) dX4_init_15 aw_int (by rw [hN2]; exact BS_95) (by decide) (by decide) (by decide) ?_
  rw [hN2]
  rw [show wN m2 = op1 m2 (0, 0, 0, 0) from rfl]
  obtain ⟨m3, e3⟩ : ∃ z, z = op1 m2 (0, 0, 0, 0) := ⟨_, rfl⟩
  rw [← e3]
  have hN3 : mN m3 = 96 := by rw [e3]; show mN m2 + 1 = _; rw [hN2]
  refine JT_putF dX4_init_17 flX4_15 BS_93 (Nat.le_of_ble_eq_true rfl) (by rw [hN3]; decide) (Or.inr ⟨_, ct_4_1⟩) rfl (fun _ h => by cases h; rfl) ?_
  rw [show wR m3 93 1 95 = op1 m3 (1, 93, 1, 95) from rfl]
  obtain ⟨m4, e4⟩ : ∃ z, z = op1 m3 (1, 93, 1, 95) := ⟨_, rfl⟩
  rw [← e4]
  have hN4 : mN m4 = 96 := by rw [e4]; exact hN3
  refine JT_aload_n (q := 0) dX4_init_20 rfl rfl ?_
  refine JT_bipush (v := 60) dX4_init_21 (by decide) ?_
  refine JT_newa_int (mc := 8) (ms := 378) (N := 60) dX4_init_23 aw_int (by rw [hN4]; exact BS_96) (by decide) (by decide) (by decide) ?_
  rw [hN4]
  rw [show wN m4 = op1 m4 (0, 0, 0, 0) from rfl]
  obtain ⟨m5, e5⟩ : ∃ z, z = op1 m4 (0, 0, 0, 0) := ⟨_, rfl⟩
  rw [← e5]
  have hN5 : mN m5 = 97 := by rw [e5]; show mN m4 + 1 = _; rw [hN4]
  refine JT_putF dX4_init_25 flX4_18 BS_93 (Nat.le_of_ble_eq_true rfl) (by rw [hN5]; decide) (Or.inr ⟨_, ct_4_2⟩) rfl (fun _ h => by cases h; rfl) ?_
  rw [show wR m5 93 2 96 = op1 m5 (1, 93, 2, 96) from rfl]
  obtain ⟨m6, e6⟩ : ∃ z, z = op1 m5 (1, 93, 2, 96) := ⟨_, rfl⟩
  rw [← e6]
  have hN6 : mN m6 = 97 := by rw [e6]; exact hN5
  refine JT_aload_n (q := 0) dX4_init_28 rfl rfl ?_
  refine JT_bipush (v := 60) dX4_init_29 (by decide) ?_
  refine JT_newa_int (mc := 7) (ms := 318) (N := 60) dX4_init_31 aw_int (by rw [hN6]; exact BS_97) (by decide) (by decide) (by decide) ?_
  rw [hN6]
  rw [show wN m6 = op1 m6 (0, 0, 0, 0) from rfl]
  obtain ⟨m7, e7⟩ : ∃ z, z = op1 m6 (0, 0, 0, 0) := ⟨_, rfl⟩
  rw [← e7]
  have hN7 : mN m7 = 98 := by rw [e7]; show mN m6 + 1 = _; rw [hN6]
  refine JT_putF dX4_init_33 flX4_21 BS_93 (Nat.le_of_ble_eq_true rfl) (by rw [hN7]; decide) (Or.inr ⟨_, ct_4_3⟩) rfl (fun _ h => by cases h; rfl) ?_
  rw [show wR m7 93 3 97 = op1 m7 (1, 93, 3, 97) from rfl]
  obtain ⟨m8, e8⟩ : ∃ z, z = op1 m7 (1, 93, 3, 97) := ⟨_, rfl⟩
  rw [← e8]
  have hN8 : mN m8 = 98 := by rw [e8]; exact hN7
  refine JT_aload_n (q := 0) dX4_init_36 rfl rfl ?_
  refine JT_bipush (v := 60) dX4_init_37 (by decide) ?_
  refine JT_newa_int (mc := 6) (ms := 258) (N := 60) dX4_init_39 aw_int (by rw [hN8]; exact BS_98) (by decide) (by decide) (by decide) ?_
  rw [hN8]
  rw [show wN m8 = op1 m8 (0, 0, 0, 0) from rfl]
  obtain ⟨m9, e9⟩ : ∃ z, z = op1 m8 (0, 0, 0, 0) := ⟨_, rfl⟩
  rw [← e9]
  have hN9 : mN m9 = 99 := by rw [e9]; show mN m8 + 1 = _; rw [hN8]
  refine JT_putF dX4_init_41 flX4_24 BS_93 (Nat.le_of_ble_eq_true rfl) (by rw [hN9]; decide) (Or.inr ⟨_, ct_4_4⟩) rfl (fun _ h => by cases h; rfl) ?_
  rw [show wR m9 93 4 98 = op1 m9 (1, 93, 4, 98) from rfl]
  obtain ⟨m10, e10⟩ : ∃ z, z = op1 m9 (1, 93, 4, 98) := ⟨_, rfl⟩
  rw [← e10]
  have hN10 : mN m10 = 99 := by rw [e10]; exact hN9
  refine JT_aload_n (q := 0) dX4_init_44 rfl rfl ?_
  refine JT_bipush (v := 60) dX4_init_45 (by decide) ?_
  refine JT_newa_int (mc := 5) (ms := 198) (N := 60) dX4_init_47 aw_int (by rw [hN10]; exact BS_99) (by decide) (by decide) (by decide) ?_
  rw [hN10]
  rw [show wN m10 = op1 m10 (0, 0, 0, 0) from rfl]
  obtain ⟨m11, e11⟩ : ∃ z, z = op1 m10 (0, 0, 0, 0) := ⟨_, rfl⟩
  rw [← e11]
  have hN11 : mN m11 = 100 := by rw [e11]; show mN m10 + 1 = _; rw [hN10]
  refine JT_putF dX4_init_49 flX4_27 BS_93 (Nat.le_of_ble_eq_true rfl) (by rw [hN11]; decide) (Or.inr ⟨_, ct_4_5⟩) rfl (fun _ h => by cases h; rfl) ?_
  rw [show wR m11 93 5 99 = op1 m11 (1, 93, 5, 99) from rfl]
  obtain ⟨m12, e12⟩ : ∃ z, z = op1 m11 (1, 93, 5, 99) := ⟨_, rfl⟩
  rw [← e12]
  have hN12 : mN m12 = 100 := by rw [e12]; exact hN11
  refine JT_aload_n (q := 0) dX4_init_52 rfl rfl ?_
  refine JT_bipush (v := 9) dX4_init_53 (by decide) ?_
  refine JT_newa_int (mc := 4) (ms := 189) (N := 9) dX4_init_55 aw_int (by rw [hN12]; exact BS_100) (by decide) (by decide) (by decide) ?_
  rw [hN12]
  rw [show wN m12 = op1 m12 (0, 0, 0, 0) from rfl]
  obtain ⟨m13, e13⟩ : ∃ z, z = op1 m12 (0, 0, 0, 0) := ⟨_, rfl⟩
  rw [← e13]
  have hN13 : mN m13 = 101 := by rw [e13]; show mN m12 + 1 = _; rw [hN12]
  refine JT_putF dX4_init_57 flX4_30 BS_93 (Nat.le_of_ble_eq_true rfl) (by rw [hN13]; decide) (Or.inr ⟨_, ct_4_6⟩) rfl (fun _ h => by cases h; rfl) ?_
  rw [show wR m13 93 6 100 = op1 m13 (1, 93, 6, 100) from rfl]
  obtain ⟨m14, e14⟩ : ∃ z, z = op1 m13 (1, 93, 6, 100) := ⟨_, rfl⟩
  rw [← e14]
  have hN14 : mN m14 = 101 := by rw [e14]; exact hN13
  refine JT_aload_n (q := 0) dX4_init_60 rfl rfl ?_
  refine JT_bipush (v := 9) dX4_init_61 (by decide) ?_
  refine JT_newa_int (mc := 3) (ms := 180) (N := 9) dX4_init_63 aw_int (by rw [hN14]; exact BS_101) (by decide) (by decide) (by decide) ?_
  rw [hN14]
  rw [show wN m14 = op1 m14 (0, 0, 0, 0) from rfl]
  obtain ⟨m15, e15⟩ : ∃ z, z = op1 m14 (0, 0, 0, 0) := ⟨_, rfl⟩
  rw [← e15]
  have hN15 : mN m15 = 102 := by rw [e15]; show mN m14 + 1 = _; rw [hN14]
  refine JT_putF dX4_init_65 flX4_33 BS_93 (Nat.le_of_ble_eq_true rfl) (by rw [hN15]; decide) (Or.inr ⟨_, ct_4_7⟩) rfl (fun _ h => by cases h; rfl) ?_
  rw [show wR m15 93 7 101 = op1 m15 (1, 93, 7, 101) from rfl]
  obtain ⟨m16, e16⟩ : ∃ z, z = op1 m15 (1, 93, 7, 101) := ⟨_, rfl⟩
  rw [← e16]
  have hN16 : mN m16 = 102 := by rw [e16]; exact hN15
  refine JT_aload_n (q := 0) dX4_init_68 rfl rfl ?_
  refine JT_bipush (v := 60) dX4_init_69 (by decide) ?_
  refine JT_newa_int (mc := 2) (ms := 120) (N := 60) dX4_init_71 aw_int (by rw [hN16]; exact BS_102) (by decide) (by decide) (by decide) ?_
  rw [hN16]
  rw [show wN m16 = op1 m16 (0, 0, 0, 0) from rfl]
  obtain ⟨m17, e17⟩ : ∃ z, z = op1 m16 (0, 0, 0, 0) := ⟨_, rfl⟩
  rw [← e17]
  have hN17 : mN m17 = 103 := by rw [e17]; show mN m16 + 1 = _; rw [hN16]
  refine JT_putF dX4_init_73 flX4_36 BS_93 (Nat.le_of_ble_eq_true rfl) (by rw [hN17]; decide) (Or.inr ⟨_, ct_4_11⟩) rfl (fun _ h => by cases h; rfl) ?_
  rw [show wR m17 93 11 102 = op1 m17 (1, 93, 11, 102) from rfl]
  obtain ⟨m18, e18⟩ : ∃ z, z = op1 m17 (1, 93, 11, 102) := ⟨_, rfl⟩
  rw [← e18]
  have hN18 : mN m18 = 103 := by rw [e18]; exact hN17
  refine JT_aload_n (q := 0) dX4_init_76 rfl rfl ?_
  refine JT_bipush (v := 60) dX4_init_77 (by decide) ?_
  refine JT_newa_int (mc := 1) (ms := 60) (N := 60) dX4_init_79 aw_int (by rw [hN18]; exact BS_103) (by decide) (by decide) (by decide) ?_
  rw [hN18]
  rw [show wN m18 = op1 m18 (0, 0, 0, 0) from rfl]
  obtain ⟨m19, e19⟩ : ∃ z, z = op1 m18 (0, 0, 0, 0) := ⟨_, rfl⟩
  rw [← e19]
  have hN19 : mN m19 = 104 := by rw [e19]; show mN m18 + 1 = _; rw [hN18]
  refine JT_putF dX4_init_81 flX4_39 BS_93 (Nat.le_of_ble_eq_true rfl) (by rw [hN19]; decide) (Or.inr ⟨_, ct_4_12⟩) rfl (fun _ h => by cases h; rfl) ?_
  rw [show wR m19 93 12 103 = op1 m19 (1, 93, 12, 103) from rfl]
  obtain ⟨m20, e20⟩ : ∃ z, z = op1 m19 (1, 93, 12, 103) := ⟨_, rfl⟩
  rw [← e20]
  have hN20 : mN m20 = 104 := by rw [e20]; exact hN19
  refine JT_aload_n (q := 0) dX4_init_84 rfl rfl ?_
  refine JT_bipush (v := 60) dX4_init_85 (by decide) ?_
  refine JT_newa_int (mc := 0) (ms := 0) (N := 60) dX4_init_87 aw_int (by rw [hN20]; exact BS_104) (by decide) (by decide) (by decide) ?_
  rw [hN20]
  rw [show wN m20 = op1 m20 (0, 0, 0, 0) from rfl]
  obtain ⟨m21, e21⟩ : ∃ z, z = op1 m20 (0, 0, 0, 0) := ⟨_, rfl⟩
  rw [← e21]
  have hN21 : mN m21 = 105 := by rw [e21]; show mN m20 + 1 = _; rw [hN20]
  refine JT_putF dX4_init_89 flX4_42 BS_93 (Nat.le_of_ble_eq_true rfl) (by rw [hN21]; decide) (Or.inr ⟨_, ct_4_13⟩) rfl (fun _ h => by cases h; rfl) ?_
  rw [show wR m21 93 13 104 = op1 m21 (1, 93, 13, 104) from rfl]
  obtain ⟨m22, e22⟩ : ∃ z, z = op1 m21 (1, 93, 13, 104) := ⟨_, rfl⟩
  rw [← e22]
  have hN22 : mN m22 = 105 := by rw [e22]; exact hN21
  refine JT_aload_n (q := 0) dX4_init_92 rfl rfl ?_
  refine JT_aload_n (q := 1) dX4_init_93 rfl rfl ?_
  refine JT_putF dX4_init_94 flX4_45 BS_93 (Nat.le_of_ble_eq_true rfl) (by rw [hN22]; decide) (Or.inl ⟨_, ct_4_8⟩) rfl (fun _ h => by cases h; rfl) ?_
  rw [show wR m22 93 8 5 = op1 m22 (1, 93, 8, 5) from rfl]
  obtain ⟨m23, e23⟩ : ∃ z, z = op1 m22 (1, 93, 8, 5) := ⟨_, rfl⟩
  rw [← e23]
  have hN23 : mN m23 = 105 := by rw [e23]; exact hN22
  refine JT_vret (st := []) dX4_init_97 rfl ⟨trivial, rfl, ?_⟩
  rw [e23, e22, e21, e20, e19, e18, e17, e16, e15, e14, e13, e12, e11, e10, e9, e8, e7, e6, e5, e4, e3, e2, e1]
  simp only [kX4_init_93o, List.foldl_append, List.foldl_cons, List.foldl_nil]
set_option maxRecDepth 1000000 in
def kX4_init_105o : List OpT := [(0, 0, 0, 0), (1, 105, 0, 106), (0, 0, 0, 0), (1, 105, 1, 107), (0, 0, 0, 0), (1, 105, 2, 108), (0, 0, 0, 0), (1, 105, 3, 109), (0, 0, 0, 0), (1, 105, 4, 110), (0, 0, 0, 0), (1, 105, 5, 111), (0, 0, 0, 0), (1, 105, 6, 112), (0, 0, 0, 0), (1, 105, 7, 113), (0, 0, 0, 0), (1, 105, 11, 114), (0, 0, 0, 0), (1, 105, 12, 115), (0, 0, 0, 0), (1, 105, 13, 116), (1, 105, 8, 5)]
set_option maxRecDepth 1000000 in
theorem kX4_init_105 (m : JMem) (hN : mN m = 106) : JC MX4_init 1 11 558 [.ref 105, .ref 5] m (fun v m1 => v = none ∧ m1 = List.foldl op1 m kX4_init_105o) := by
  show JT MX4_init 1 11 558 0 [(0, .ref 105), (1, .ref 5)] [] m _
  refine JT_aload_n (q := 0) dX4_init_0 rfl rfl ?_
  refine JT_obj (d2 := 0) dX4_init_1 mlX4_3 (Nat.le_of_ble_eq_true rfl) rfl ?_
  refine JT_aload_n (q := 0) dX4_init_4 rfl rfl ?_
  refine JT_bipush (v := 60) dX4_init_5 (by decide) ?_
  refine JT_newa_int (mc := 10) (ms := 498) (N := 60) dX4_init_7 aw_int (by rw [hN]; exact BS_106) (by decide) (by decide) (by decide) ?_
  rw [hN]
  rw [show wN m = op1 m (0, 0, 0, 0) from rfl]
  obtain ⟨m1, e1⟩ : ∃ z, z = op1 m (0, 0, 0, 0) := ⟨_, rfl⟩
  rw [← e1]
  have hN1 : mN m1 = 107 := by rw [e1]; show mN m + 1 = _; rw [hN]
  refine JT_putF dX4_init_9 flX4_9 BS_105 (Nat.le_of_ble_eq_true rfl) (by rw [hN1]; decide) (Or.inr ⟨_, ct_4_0⟩) rfl (fun _ h => by cases h; rfl) ?_
  rw [show wR m1 105 0 106 = op1 m1 (1, 105, 0, 106) from rfl]
  obtain ⟨m2, e2⟩ : ∃ z, z = op1 m1 (1, 105, 0, 106) := ⟨_, rfl⟩
  rw [← e2]
  have hN2 : mN m2 = 107 := by rw [e2]; exact hN1
  refine JT_aload_n (q := 0) dX4_init_12 rfl rfl ?_
  refine JT_bipush (v := 60) dX4_init_13 (by decide) ?_
  refine JT_newa_int (mc := 9) (ms := 438) (N := 60) dX4_init_15 aw_int (by rw [hN2]; exact BS_107) (by decide) (by decide) (by decide) ?_
  rw [hN2]
  rw [show wN m2 = op1 m2 (0, 0, 0, 0) from rfl]
  obtain ⟨m3, e3⟩ : ∃ z, z = op1 m2 (0, 0, 0, 0) := ⟨_, rfl⟩
  rw [← e3]
  have hN3 : mN m3 = 108 := by rw [e3]; show mN m2 + 1 = _; rw [hN2]
  refine JT_putF dX4_init_17 flX4_15 BS_105 (Nat.le_of_ble_eq_true rfl) (by rw [hN3]; decide) (Or.inr ⟨_, ct_4_1⟩) rfl (fun _ h => by cases h; rfl) ?_
  rw [show wR m3 105 1 107 = op1 m3 (1, 105, 1, 107) from rfl]
  obtain ⟨m4, e4⟩ : ∃ z, z = op1 m3 (1, 105, 1, 107) := ⟨_, rfl⟩
  rw [← e4]
  have hN4 : mN m4 = 108 := by rw [e4]; exact hN3
  refine JT_aload_n (q := 0) dX4_init_20 rfl rfl ?_
  refine JT_bipush (v := 60) dX4_init_21 (by decide) ?_
  refine JT_newa_int (mc := 8) (ms := 378) (N := 60) dX4_init_23 aw_int (by rw [hN4]; exact BS_108) (by decide) (by decide) (by decide) ?_
  rw [hN4]
  rw [show wN m4 = op1 m4 (0, 0, 0, 0) from rfl]
  obtain ⟨m5, e5⟩ : ∃ z, z = op1 m4 (0, 0, 0, 0) := ⟨_, rfl⟩
  rw [← e5]
  have hN5 : mN m5 = 109 := by rw [e5]; show mN m4 + 1 = _; rw [hN4]
  refine JT_putF dX4_init_25 flX4_18 BS_105 (Nat.le_of_ble_eq_true rfl) (by rw [hN5]; decide) (Or.inr ⟨_, ct_4_2⟩) rfl (fun _ h => by cases h; rfl) ?_
  rw [show wR m5 105 2 108 = op1 m5 (1, 105, 2, 108) from rfl]
  obtain ⟨m6, e6⟩ : ∃ z, z = op1 m5 (1, 105, 2, 108) := ⟨_, rfl⟩
  rw [← e6]
  have hN6 : mN m6 = 109 := by rw [e6]; exact hN5
  refine JT_aload_n (q := 0) dX4_init_28 rfl rfl ?_
  refine JT_bipush (v := 60) dX4_init_29 (by decide) ?_
  refine JT_newa_int (mc := 7) (ms := 318) (N := 60) dX4_init_31 aw_int (by rw [hN6]; exact BS_109) (by decide) (by decide) (by decide) ?_
  rw [hN6]
  rw [show wN m6 = op1 m6 (0, 0, 0, 0) from rfl]
  obtain ⟨m7, e7⟩ : ∃ z, z = op1 m6 (0, 0, 0, 0) := ⟨_, rfl⟩
  rw [← e7]
  have hN7 : mN m7 = 110 := by rw [e7]; show mN m6 + 1 = _; rw [hN6]
  refine JT_putF dX4_init_33 flX4_21 BS_105 (Nat.le_of_ble_eq_true rfl) (by rw [hN7]; decide) (Or.inr ⟨_, ct_4_3⟩) rfl (fun _ h => by cases h; rfl) ?_
  rw [show wR m7 105 3 109 = op1 m7 (1, 105, 3, 109) from rfl]
  obtain ⟨m8, e8⟩ : ∃ z, z = op1 m7 (1, 105, 3, 109) := ⟨_, rfl⟩
  rw [← e8]
  have hN8 : mN m8 = 110 := by rw [e8]; exact hN7
  refine JT_aload_n (q := 0) dX4_init_36 rfl rfl ?_
  refine JT_bipush (v := 60) dX4_init_37 (by decide) ?_
  refine JT_newa_int (mc := 6) (ms := 258) (N := 60) dX4_init_39 aw_int (by rw [hN8]; exact BS_110) (by decide) (by decide) (by decide) ?_
  rw [hN8]
  rw [show wN m8 = op1 m8 (0, 0, 0, 0) from rfl]
  obtain ⟨m9, e9⟩ : ∃ z, z = op1 m8 (0, 0, 0, 0) := ⟨_, rfl⟩
  rw [← e9]
  have hN9 : mN m9 = 111 := by rw [e9]; show mN m8 + 1 = _; rw [hN8]
  refine JT_putF dX4_init_41 flX4_24 BS_105 (Nat.le_of_ble_eq_true rfl) (by rw [hN9]; decide) (Or.inr ⟨_, ct_4_4⟩) rfl (fun _ h => by cases h; rfl) ?_
  rw [show wR m9 105 4 110 = op1 m9 (1, 105, 4, 110) from rfl]
  obtain ⟨m10, e10⟩ : ∃ z, z = op1 m9 (1, 105, 4, 110) := ⟨_, rfl⟩
  rw [← e10]
  have hN10 : mN m10 = 111 := by rw [e10]; exact hN9
  refine JT_aload_n (q := 0) dX4_init_44 rfl rfl ?_
  refine JT_bipush (v := 60) dX4_init_45 (by decide) ?_
  refine JT_newa_int (mc := 5) (ms := 198) (N := 60) dX4_init_47 aw_int (by rw [hN10]; exact BS_111) (by decide) (by decide) (by decide) ?_
  rw [hN10]
  rw [show wN m10 = op1 m10 (0, 0, 0, 0) from rfl]
  obtain ⟨m11, e11⟩ : ∃ z, z = op1 m10 (0, 0, 0, 0) := ⟨_, rfl⟩
  rw [← e11]
  have hN11 : mN m11 = 112 := by rw [e11]; show mN m10 + 1 = _; rw [hN10]
  refine JT_putF dX4_init_49 flX4_27 BS_105 (Nat.le_of_ble_eq_true rfl) (by rw [hN11]; decide) (Or.inr ⟨_, ct_4_5⟩) rfl (fun _ h => by cases h; rfl) ?_
  rw [show wR m11 105 5 111 = op1 m11 (1, 105, 5, 111) from rfl]
  obtain ⟨m12, e12⟩ : ∃ z, z = op1 m11 (1, 105, 5, 111) := ⟨_, rfl⟩
  rw [← e12]
  have hN12 : mN m12 = 112 := by rw [e12]; exact hN11
  refine JT_aload_n (q := 0) dX4_init_52 rfl rfl ?_
  refine JT_bipush (v := 9) dX4_init_53 (by decide) ?_
  refine JT_newa_int (mc := 4) (ms := 189) (N := 9) dX4_init_55 aw_int (by rw [hN12]; exact BS_112) (by decide) (by decide) (by decide) ?_
  rw [hN12]
  rw [show wN m12 = op1 m12 (0, 0, 0, 0) from rfl]
  obtain ⟨m13, e13⟩ : ∃ z, z = op1 m12 (0, 0, 0, 0) := ⟨_, rfl⟩
  rw [← e13]
  have hN13 : mN m13 = 113 := by rw [e13]; show mN m12 + 1 = _; rw [hN12]
  refine JT_putF dX4_init_57 flX4_30 BS_105 (Nat.le_of_ble_eq_true rfl) (by rw [hN13]; decide) (Or.inr ⟨_, ct_4_6⟩) rfl (fun _ h => by cases h; rfl) ?_
  rw [show wR m13 105 6 112 = op1 m13 (1, 105, 6, 112) from rfl]
  obtain ⟨m14, e14⟩ : ∃ z, z = op1 m13 (1, 105, 6, 112) := ⟨_, rfl⟩
  rw [← e14]
  have hN14 : mN m14 = 113 := by rw [e14]; exact hN13
  refine JT_aload_n (q := 0) dX4_init_60 rfl rfl ?_
  refine JT_bipush (v := 9) dX4_init_61 (by decide) ?_
  refine JT_newa_int (mc := 3) (ms := 180) (N := 9) dX4_init_63 aw_int (by rw [hN14]; exact BS_113) (by decide) (by decide) (by decide) ?_
  rw [hN14]
  rw [show wN m14 = op1 m14 (0, 0, 0, 0) from rfl]
  obtain ⟨m15, e15⟩ : ∃ z, z = op1 m14 (0, 0, 0, 0) := ⟨_, rfl⟩
  rw [← e15]
  have hN15 : mN m15 = 114 := by rw [e15]; show mN m14 + 1 = _; rw [hN14]
  refine JT_putF dX4_init_65 flX4_33 BS_105 (Nat.le_of_ble_eq_true rfl) (by rw [hN15]; decide) (Or.inr ⟨_, ct_4_7⟩) rfl (fun _ h => by cases h; rfl) ?_
  rw [show wR m15 105 7 113 = op1 m15 (1, 105, 7, 113) from rfl]
  obtain ⟨m16, e16⟩ : ∃ z, z = op1 m15 (1, 105, 7, 113) := ⟨_, rfl⟩
  rw [← e16]
  have hN16 : mN m16 = 114 := by rw [e16]; exact hN15
  refine JT_aload_n (q := 0) dX4_init_68 rfl rfl ?_
  refine JT_bipush (v := 60) dX4_init_69 (by decide) ?_
  refine JT_newa_int (mc := 2) (ms := 120) (N := 60) dX4_init_71 aw_int (by rw [hN16]; exact BS_114) (by decide) (by decide) (by decide) ?_
  rw [hN16]
  rw [show wN m16 = op1 m16 (0, 0, 0, 0) from rfl]
  obtain ⟨m17, e17⟩ : ∃ z, z = op1 m16 (0, 0, 0, 0) := ⟨_, rfl⟩
  rw [← e17]
  have hN17 : mN m17 = 115 := by rw [e17]; show mN m16 + 1 = _; rw [hN16]
  refine JT_putF dX4_init_73 flX4_36 BS_105 (Nat.le_of_ble_eq_true rfl) (by rw [hN17]; decide) (Or.inr ⟨_, ct_4_11⟩) rfl (fun _ h => by cases h; rfl) ?_
  rw [show wR m17 105 11 114 = op1 m17 (1, 105, 11, 114) from rfl]
  obtain ⟨m18, e18⟩ : ∃ z, z = op1 m17 (1, 105, 11, 114) := ⟨_, rfl⟩
  rw [← e18]
  have hN18 : mN m18 = 115 := by rw [e18]; exact hN17
  refine JT_aload_n (q := 0) dX4_init_76 rfl rfl ?_
  refine JT_bipush (v := 60) dX4_init_77 (by decide) ?_
  refine JT_newa_int (mc := 1) (ms := 60) (N := 60) dX4_init_79 aw_int (by rw [hN18]; exact BS_115) (by decide) (by decide) (by decide) ?_
  rw [hN18]
  rw [show wN m18 = op1 m18 (0, 0, 0, 0) from rfl]
  obtain ⟨m19, e19⟩ : ∃ z, z = op1 m18 (0, 0, 0, 0) := ⟨_, rfl⟩
  rw [← e19]
  have hN19 : mN m19 = 116 := by rw [e19]; show mN m18 + 1 = _; rw [hN18]
  refine JT_putF dX4_init_81 flX4_39 BS_105 (Nat.le_of_ble_eq_true rfl) (by rw [hN19]; decide) (Or.inr ⟨_, ct_4_12⟩) rfl (fun _ h => by cases h; rfl) ?_
  rw [show wR m19 105 12 115 = op1 m19 (1, 105, 12, 115) from rfl]
  obtain ⟨m20, e20⟩ : ∃ z, z = op1 m19 (1, 105, 12, 115) := ⟨_, rfl⟩
  rw [← e20]
  have hN20 : mN m20 = 116 := by rw [e20]; exact hN19
  refine JT_aload_n (q := 0) dX4_init_84 rfl rfl ?_
  refine JT_bipush (v := 60) dX4_init_85 (by decide) ?_
  refine JT_newa_int (mc := 0) (ms := 0) (N := 60) dX4_init_87 aw_int (by rw [hN20]; exact BS_116) (by decide) (by decide) (by decide) ?_
  rw [hN20]
  rw [show wN m20 = op1 m20 (0, 0, 0, 0) from rfl]
  obtain ⟨m21, e21⟩ : ∃ z, z = op1 m20 (0, 0, 0, 0) := ⟨_, rfl⟩
  rw [← e21]
  have hN21 : mN m21 = 117 := by rw [e21]; show mN m20 + 1 = _; rw [hN20]
  refine JT_putF dX4_init_89 flX4_42 BS_105 (Nat.le_of_ble_eq_true rfl) (by rw [hN21]; decide) (Or.inr ⟨_, ct_4_13⟩) rfl (fun _ h => by cases h; rfl) ?_
  rw [show wR m21 105 13 116 = op1 m21 (1, 105, 13, 116) from rfl]
  obtain ⟨m22, e22⟩ : ∃ z, z = op1 m21 (1, 105, 13, 116) := ⟨_, rfl⟩
  rw [← e22]
  have hN22 : mN m22 = 117 := by rw [e22]; exact hN21
  refine JT_aload_n (q := 0) dX4_init_92 rfl rfl ?_
  refine JT_aload_n (q := 1) dX4_init_93 rfl rfl ?_
  refine JT_putF dX4_init_94 flX4_45 BS_105 (Nat.le_of_ble_eq_true rfl) (by rw [hN22]; decide) (Or.inl ⟨_, ct_4_8⟩) rfl (fun _ h => by cases h; rfl) ?_
  rw [show wR m22 105 8 5 = op1 m22 (1, 105, 8, 5) from rfl]
  obtain ⟨m23, e23⟩ : ∃ z, z = op1 m22 (1, 105, 8, 5) := ⟨_, rfl⟩
  rw [← e23]
  have hN23 : mN m23 = 117 := by rw [e23]; exact hN22
  refine JT_vret (st := []) dX4_init_97 rfl ⟨trivial, rfl, ?_⟩
  rw [e23, e22, e21, e20, e19, e18, e17, e16, e15, e14, e13, e12, e11, e10, e9, e8, e7, e6, e5, e4, e3, e2, e1]
  simp only [kX4_init_105o, List.foldl_append, List.foldl_cons, List.foldl_nil]
set_option maxRecDepth 1000000 in
def kX4_init_117o : List OpT := [(0, 0, 0, 0), (1, 117, 0, 118), (0, 0, 0, 0), (1, 117, 1, 119), (0, 0, 0, 0), (1, 117, 2, 120), (0, 0, 0, 0), (1, 117, 3, 121), (0, 0, 0, 0), (1, 117, 4, 122), (0, 0, 0, 0), (1, 117, 5, 123), (0, 0, 0, 0), (1, 117, 6, 124), (0, 0, 0, 0), (1, 117, 7, 125), (0, 0, 0, 0), (1, 117, 11, 126), (0, 0, 0, 0), (1, 117, 12, 127), (0, 0, 0, 0), (1, 117, 13, 128), (1, 117, 8, 5)]
set_option maxRecDepth 1000000 in
theorem kX4_init_117 (m : JMem) (hN : mN m = 118) : JC MX4_init 1 11 558 [.ref 117, .ref 5] m (fun v m1 => v = none ∧ m1 = List.foldl op1 m kX4_init_117o) := by
  show JT MX4_init 1 11 558 0 [(0, .ref 117), (1, .ref 5)] [] m _
  refine JT_aload_n (q := 0) dX4_init_0 rfl rfl ?_
  refine JT_obj (d2 := 0) dX4_init_1 mlX4_3 (Nat.le_of_ble_eq_true rfl) rfl ?_
  refine JT_aload_n (q := 0) dX4_init_4 rfl rfl ?_
  refine JT_bipush (v := 60) dX4_init_5 (by decide) ?_
  refine JT_newa_int (mc := 10) (ms := 498) (N := 60) dX4_init_7 aw_int (by rw [hN]; exact BS_118) (by decide) (by decide) (by decide) ?_
  rw [hN]
  rw [show wN m = op1 m (0, 0, 0, 0) from rfl]
  obtain ⟨m1, e1⟩ : ∃ z, z = op1 m (0, 0, 0, 0) := ⟨_, rfl⟩
  rw [← e1]
  have hN1 : mN m1 = 119 := by rw [e1]; show mN m + 1 = _; rw [hN]
  refine JT_putF dX4_init_9 flX4_9 BS_117 (Nat.le_of_ble_eq_true rfl) (by rw [hN1]; decide) (Or.inr ⟨_, ct_4_0⟩) rfl (fun _ h => by cases h; rfl) ?_
  rw [show wR m1 117 0 118 = op1 m1 (1, 117, 0, 118) from rfl]
  obtain ⟨m2, e2⟩ : ∃ z, z = op1 m1 (1, 117, 0, 118) := ⟨_, rfl⟩
  rw [← e2]
  have hN2 : mN m2 = 119 := by rw [e2]; exact hN1
  refine JT_aload_n (q := 0) dX4_init_12 rfl rfl ?_
  refine JT_bipush (v := 60) dX4_init_13 (by decide) ?_
  refine JT_newa_int (mc := 9) (ms := 438) (N := 60) dX4_init_15 aw_int (by rw [hN2]; exact BS_119) (by decide) (by decide) (by decide) ?_
  rw [hN2]
  rw [show wN m2 = op1 m2 (0, 0, 0, 0) from rfl]
  obtain ⟨m3, e3⟩ : ∃ z, z = op1 m2 (0, 0, 0, 0) := ⟨_, rfl⟩
  rw [← e3]
  have hN3 : mN m3 = 120 := by rw [e3]; show mN m2 + 1 = _; rw [hN2]
  refine JT_putF dX4_init_17 flX4_15 BS_117 (Nat.le_of_ble_eq_true rfl) (by rw [hN3]; decide) (Or.inr ⟨_, ct_4_1⟩) rfl (fun _ h => by cases h; rfl) ?_
  rw [show wR m3 117 1 119 = op1 m3 (1, 117, 1, 119) from rfl]
  obtain ⟨m4, e4⟩ : ∃ z, z = op1 m3 (1, 117, 1, 119) := ⟨_, rfl⟩
  rw [← e4]
  have hN4 : mN m4 = 120 := by rw [e4]; exact hN3
  refine JT_aload_n (q := 0) dX4_init_20 rfl rfl ?_
  refine JT_bipush (v := 60) dX4_init_21 (by decide) ?_
  refine JT_newa_int (mc := 8) (ms := 378) (N := 60) dX4_init_23 aw_int (by rw [hN4]; exact BS_120) (by decide) (by decide) (by decide) ?_
  rw [hN4]
  rw [show wN m4 = op1 m4 (0, 0, 0, 0) from rfl]
  obtain ⟨m5, e5⟩ : ∃ z, z = op1 m4 (0, 0, 0, 0) := ⟨_, rfl⟩
  rw [← e5]
  have hN5 : mN m5 = 121 := by rw [e5]; show mN m4 + 1 = _; rw [hN4]
  refine JT_putF dX4_init_25 flX4_18 BS_117 (Nat.le_of_ble_eq_true rfl) (by rw [hN5]; decide) (Or.inr ⟨_, ct_4_2⟩) rfl (fun _ h => by cases h; rfl) ?_
  rw [show wR m5 117 2 120 = op1 m5 (1, 117, 2, 120) from rfl]
  obtain ⟨m6, e6⟩ : ∃ z, z = op1 m5 (1, 117, 2, 120) := ⟨_, rfl⟩
  rw [← e6]
  have hN6 : mN m6 = 121 := by rw [e6]; exact hN5
  refine JT_aload_n (q := 0) dX4_init_28 rfl rfl ?_
  refine JT_bipush (v := 60) dX4_init_29 (by decide) ?_
  refine JT_newa_int (mc := 7) (ms := 318) (N := 60) dX4_init_31 aw_int (by rw [hN6]; exact BS_121) (by decide) (by decide) (by decide) ?_
  rw [hN6]
  rw [show wN m6 = op1 m6 (0, 0, 0, 0) from rfl]
  obtain ⟨m7, e7⟩ : ∃ z, z = op1 m6 (0, 0, 0, 0) := ⟨_, rfl⟩
  rw [← e7]
  have hN7 : mN m7 = 122 := by rw [e7]; show mN m6 + 1 = _; rw [hN6]
  refine JT_putF dX4_init_33 flX4_21 BS_117 (Nat.le_of_ble_eq_true rfl) (by rw [hN7]; decide) (Or.inr ⟨_, ct_4_3⟩) rfl (fun _ h => by cases h; rfl) ?_
  rw [show wR m7 117 3 121 = op1 m7 (1, 117, 3, 121) from rfl]
  obtain ⟨m8, e8⟩ : ∃ z, z = op1 m7 (1, 117, 3, 121) := ⟨_, rfl⟩
  rw [← e8]
  have hN8 : mN m8 = 122 := by rw [e8]; exact hN7
  refine JT_aload_n (q := 0) dX4_init_36 rfl rfl ?_
  refine JT_bipush (v := 60) dX4_init_37 (by decide) ?_
  refine JT_newa_int (mc := 6) (ms := 258) (N := 60) dX4_init_39 aw_int (by rw [hN8]; exact BS_122) (by decide) (by decide) (by decide) ?_
  rw [hN8]
  rw [show wN m8 = op1 m8 (0, 0, 0, 0) from rfl]
  obtain ⟨m9, e9⟩ : ∃ z, z = op1 m8 (0, 0, 0, 0) := ⟨_, rfl⟩
  rw [← e9]
  have hN9 : mN m9 = 123 := by rw [e9]; show mN m8 + 1 = _; rw [hN8]
  refine JT_putF dX4_init_41 flX4_24 BS_117 (Nat.le_of_ble_eq_true rfl) (by rw [hN9]; decide) (Or.inr ⟨_, ct_4_4⟩) rfl (fun _ h => by cases h; rfl) ?_
  rw [show wR m9 117 4 122 = op1 m9 (1, 117, 4, 122) from rfl]
  obtain ⟨m10, e10⟩ : ∃ z, z = op1 m9 (1, 117, 4, 122) := ⟨_, rfl⟩
  rw [← e10]
  have hN10 : mN m10 = 123 := by rw [e10]; exact hN9
  refine JT_aload_n (q := 0) dX4_init_44 rfl rfl ?_
  refine JT_bipush (v := 60) dX4_init_45 (by decide) ?_
  refine JT_newa_int (mc := 5) (ms := 198) (N := 60) dX4_init_47 aw_int (by rw [hN10]; exact BS_123) (by decide) (by decide) (by decide) ?_
  rw [hN10]
  rw [show wN m10 = op1 m10 (0, 0, 0, 0) from rfl]
  obtain ⟨m11, e11⟩ : ∃ z, z = op1 m10 (0, 0, 0, 0) := ⟨_, rfl⟩
  rw [← e11]
  have hN11 : mN m11 = 124 := by rw [e11]; show mN m10 + 1 = _; rw [hN10]
  refine JT_putF dX4_init_49 flX4_27 BS_117 (Nat.le_of_ble_eq_true rfl) (by rw [hN11]; decide) (Or.inr ⟨_, ct_4_5⟩) rfl (fun _ h => by cases h; rfl) ?_
  rw [show wR m11 117 5 123 = op1 m11 (1, 117, 5, 123) from rfl]
  obtain ⟨m12, e12⟩ : ∃ z, z = op1 m11 (1, 117, 5, 123) := ⟨_, rfl⟩
  rw [← e12]
  have hN12 : mN m12 = 124 := by rw [e12]; exact hN11
  refine JT_aload_n (q := 0) dX4_init_52 rfl rfl ?_
  refine JT_bipush (v := 9) dX4_init_53 (by decide) ?_
  refine JT_newa_int (mc := 4) (ms := 189) (N := 9) dX4_init_55 aw_int (by rw [hN12]; exact BS_124) (by decide) (by decide) (by decide) ?_
  rw [hN12]
  rw [show wN m12 = op1 m12 (0, 0, 0, 0) from rfl]
  obtain ⟨m13, e13⟩ : ∃ z, z = op1 m12 (0, 0, 0, 0) := ⟨_, rfl⟩
  rw [← e13]
  have hN13 : mN m13 = 125 := by rw [e13]; show mN m12 + 1 = _; rw [hN12]
  refine JT_putF dX4_init_57 flX4_30 BS_117 (Nat.le_of_ble_eq_true rfl) (by rw [hN13]; decide) (Or.inr ⟨_, ct_4_6⟩) rfl (fun _ h => by cases h; rfl) ?_
  rw [show wR m13 117 6 124 = op1 m13 (1, 117, 6, 124) from rfl]
  obtain ⟨m14, e14⟩ : ∃ z, z = op1 m13 (1, 117, 6, 124) := ⟨_, rfl⟩
  rw [← e14]
  have hN14 : mN m14 = 125 := by rw [e14]; exact hN13
  refine JT_aload_n (q := 0) dX4_init_60 rfl rfl ?_
  refine JT_bipush (v := 9) dX4_init_61 (by decide) ?_
  refine JT_newa_int (mc := 3) (ms := 180) (N := 9) dX4_init_63 aw_int (by rw [hN14]; exact BS_125) (by decide) (by decide) (by decide) ?_
  rw [hN14]
  rw [show wN m14 = op1 m14 (0, 0, 0, 0) from rfl]
  obtain ⟨m15, e15⟩ : ∃ z, z = op1 m14 (0, 0, 0, 0) := ⟨_, rfl⟩
  rw [← e15]
  have hN15 : mN m15 = 126 := by rw [e15]; show mN m14 + 1 = _; rw [hN14]
  refine JT_putF dX4_init_65 flX4_33 BS_117 (Nat.le_of_ble_eq_true rfl) (by rw [hN15]; decide) (Or.inr ⟨_, ct_4_7⟩) rfl (fun _ h => by cases h; rfl) ?_
  rw [show wR m15 117 7 125 = op1 m15 (1, 117, 7, 125) from rfl]
  obtain ⟨m16, e16⟩ : ∃ z, z = op1 m15 (1, 117, 7, 125) := ⟨_, rfl⟩
  rw [← e16]
  have hN16 : mN m16 = 126 := by rw [e16]; exact hN15
  refine JT_aload_n (q := 0) dX4_init_68 rfl rfl ?_
  refine JT_bipush (v := 60) dX4_init_69 (by decide) ?_
  refine JT_newa_int (mc := 2) (ms := 120) (N := 60) dX4_init_71 aw_int (by rw [hN16]; exact BS_126) (by decide) (by decide) (by decide) ?_
  rw [hN16]
  rw [show wN m16 = op1 m16 (0, 0, 0, 0) from rfl]
  obtain ⟨m17, e17⟩ : ∃ z, z = op1 m16 (0, 0, 0, 0) := ⟨_, rfl⟩
  rw [← e17]
  have hN17 : mN m17 = 127 := by rw [e17]; show mN m16 + 1 = _; rw [hN16]
  refine JT_putF dX4_init_73 flX4_36 BS_117 (Nat.le_of_ble_eq_true rfl) (by rw [hN17]; decide) (Or.inr ⟨_, ct_4_11⟩) rfl (fun _ h => by cases h; rfl) ?_
  rw [show wR m17 117 11 126 = op1 m17 (1, 117, 11, 126) from rfl]
  obtain ⟨m18, e18⟩ : ∃ z, z = op1 m17 (1, 117, 11, 126) := ⟨_, rfl⟩
  rw [← e18]
  have hN18 : mN m18 = 127 := by rw [e18]; exact hN17
  refine JT_aload_n (q := 0) dX4_init_76 rfl rfl ?_
  refine JT_bipush (v := 60) dX4_init_77 (by decide) ?_
  refine JT_newa_int (mc := 1) (ms := 60) (N := 60) dX4_init_79 aw_int (by rw [hN18]; exact BS_127) (by decide) (by decide) (by decide) ?_
  rw [hN18]
  rw [show wN m18 = op1 m18 (0, 0, 0, 0) from rfl]
  obtain ⟨m19, e19⟩ : ∃ z, z = op1 m18 (0, 0, 0, 0) := ⟨_, rfl⟩
  rw [← e19]
  have hN19 : mN m19 = 128 := by rw [e19]; show mN m18 + 1 = _; rw [hN18]
  refine JT_putF dX4_init_81 flX4_39 BS_117 (Nat.le_of_ble_eq_true rfl) (by rw [hN19]; decide) (Or.inr ⟨_, ct_4_12⟩) rfl (fun _ h => by cases h; rfl) ?_
  rw [show wR m19 117 12 127 = op1 m19 (1, 117, 12, 127) from rfl]
  obtain ⟨m20, e20⟩ : ∃ z, z = op1 m19 (1, 117, 12, 127) := ⟨_, rfl⟩
  rw [← e20]
  have hN20 : mN m20 = 128 := by rw [e20]; exact hN19
  refine JT_aload_n (q := 0) dX4_init_84 rfl rfl ?_
  refine JT_bipush (v := 60) dX4_init_85 (by decide) ?_
  refine JT_newa_int (mc := 0) (ms := 0) (N := 60) dX4_init_87 aw_int (by rw [hN20]; exact BS_128) (by decide) (by decide) (by decide) ?_
  rw [hN20]
  rw [show wN m20 = op1 m20 (0, 0, 0, 0) from rfl]
  obtain ⟨m21, e21⟩ : ∃ z, z = op1 m20 (0, 0, 0, 0) := ⟨_, rfl⟩
  rw [← e21]
  have hN21 : mN m21 = 129 := by rw [e21]; show mN m20 + 1 = _; rw [hN20]
  refine JT_putF dX4_init_89 flX4_42 BS_117 (Nat.le_of_ble_eq_true rfl) (by rw [hN21]; decide) (Or.inr ⟨_, ct_4_13⟩) rfl (fun _ h => by cases h; rfl) ?_
  rw [show wR m21 117 13 128 = op1 m21 (1, 117, 13, 128) from rfl]
  obtain ⟨m22, e22⟩ : ∃ z, z = op1 m21 (1, 117, 13, 128) := ⟨_, rfl⟩
  rw [← e22]
  have hN22 : mN m22 = 129 := by rw [e22]; exact hN21
  refine JT_aload_n (q := 0) dX4_init_92 rfl rfl ?_
  refine JT_aload_n (q := 1) dX4_init_93 rfl rfl ?_
  refine JT_putF dX4_init_94 flX4_45 BS_117 (Nat.le_of_ble_eq_true rfl) (by rw [hN22]; decide) (Or.inl ⟨_, ct_4_8⟩) rfl (fun _ h => by cases h; rfl) ?_
  rw [show wR m22 117 8 5 = op1 m22 (1, 117, 8, 5) from rfl]
  obtain ⟨m23, e23⟩ : ∃ z, z = op1 m22 (1, 117, 8, 5) := ⟨_, rfl⟩
  rw [← e23]
  have hN23 : mN m23 = 129 := by rw [e23]; exact hN22
  refine JT_vret (st := []) dX4_init_97 rfl ⟨trivial, rfl, ?_⟩
  rw [e23, e22, e21, e20, e19, e18, e17, e16, e15, e14, e13, e12, e11, e10, e9, e8, e7, e6, e5, e4, e3, e2, e1]
  simp only [kX4_init_117o, List.foldl_append, List.foldl_cons, List.foldl_nil]
set_option maxRecDepth 1000000 in
def kX4_init_129o : List OpT := [(0, 0, 0, 0), (1, 129, 0, 130), (0, 0, 0, 0), (1, 129, 1, 131), (0, 0, 0, 0), (1, 129, 2, 132), (0, 0, 0, 0), (1, 129, 3, 133), (0, 0, 0, 0), (1, 129, 4, 134), (0, 0, 0, 0), (1, 129, 5, 135), (0, 0, 0, 0), (1, 129, 6, 136), (0, 0, 0, 0), (1, 129, 7, 137), (0, 0, 0, 0), (1, 129, 11, 138), (0, 0, 0, 0), (1, 129, 12, 139), (0, 0, 0, 0), (1, 129, 13, 140), (1, 129, 8, 5)]
set_option maxRecDepth 1000000 in
theorem kX4_init_129 (m : JMem) (hN : mN m = 130) : JC MX4_init 1 11 558 [.ref 129, .ref 5] m (fun v m1 => v = none ∧ m1 = List.foldl op1 m kX4_init_129o) := by
  show JT MX4_init 1 11 558 0 [(0, .ref 129), (1, .ref 5)] [] m _
  refine JT_aload_n (q := 0) dX4_init_0 rfl rfl ?_
  refine JT_obj (d2 := 0) dX4_init_1 mlX4_3 (Nat.le_of_ble_eq_true rfl) rfl ?_
  refine JT_aload_n (q := 0) dX4_init_4 rfl rfl ?_
  refine JT_bipush (v := 60) dX4_init_5 (by decide) ?_
  refine JT_newa_int (mc := 10) (ms := 498) (N := 60) dX4_init_7 aw_int (by rw [hN]; exact BS_130) (by decide) (by decide) (by decide) ?_
  rw [hN]
  rw [show wN m = op1 m (0, 0, 0, 0) from rfl]
  obtain ⟨m1, e1⟩ : ∃ z, z = op1 m (0, 0, 0, 0) := ⟨_, rfl⟩
  rw [← e1]
  have hN1 : mN m1 = 131 := by rw [e1]; show mN m + 1 = _; rw [hN]
  refine JT_putF dX4_init_9 flX4_9 BS_129 (Nat.le_of_ble_eq_true rfl) (by rw [hN1]; decide) (Or.inr ⟨_, ct_4_0⟩) rfl (fun _ h => by cases h; rfl) ?_
  rw [show wR m1 129 0 130 = op1 m1 (1, 129, 0, 130) from rfl]
  obtain ⟨m2, e2⟩ : ∃ z, z = op1 m1 (1, 129, 0, 130) := ⟨_, rfl⟩
  rw [← e2]
  have hN2 : mN m2 = 131 := by rw [e2]; exact hN1
  refine JT_aload_n (q := 0) dX4_init_12 rfl rfl ?_
  refine JT_bipush (v := 60) dX4_init_13 (by decide) ?_
  refine JT_newa_int (mc := 9) (ms := 438) (N := 60) dX4_init_15 aw_int (by rw [hN2]; exact BS_131) (by decide) (by decide) (by decide) ?_
  rw [hN2]
  rw [show wN m2 = op1 m2 (0, 0, 0, 0) from rfl]
  obtain ⟨m3, e3⟩ : ∃ z, z = op1 m2 (0, 0, 0, 0) := ⟨_, rfl⟩
  rw [← e3]
  have hN3 : mN m3 = 132 := by rw [e3]; show mN m2 + 1 = _; rw [hN2]
  refine JT_putF dX4_init_17 flX4_15 BS_129 (Nat.le_of_ble_eq_true rfl) (by rw [hN3]; decide) (Or.inr ⟨_, ct_4_1⟩) rfl (fun _ h => by cases h; rfl) ?_
  rw [show wR m3 129 1 131 = op1 m3 (1, 129, 1, 131) from rfl]
  obtain ⟨m4, e4⟩ : ∃ z, z = op1 m3 (1, 129, 1, 131) := ⟨_, rfl⟩
  rw [← e4]
  have hN4 : mN m4 = 132 := by rw [e4]; exact hN3
  refine JT_aload_n (q := 0) dX4_init_20 rfl rfl ?_
  refine JT_bipush (v := 60) dX4_init_21 (by decide) ?_
  refine JT_newa_int (mc := 8) (ms := 378) (N := 60) dX4_init_23 aw_int (by rw [hN4]; exact BS_132) (by decide) (by decide) (by decide) ?_
  rw [hN4]
  rw [show wN m4 = op1 m4 (0, 0, 0, 0) from rfl]
  obtain ⟨m5, e5⟩ : ∃ z, z = op1 m4 (0, 0, 0, 0) := ⟨_, rfl⟩
  rw [← e5]
  have hN5 : mN m5 = 133 := by rw [e5]; show mN m4 + 1 = _; rw [hN4]
  refine JT_putF dX4_init_25 flX4_18 BS_129 (Nat.le_of_ble_eq_true rfl) (by rw [hN5]; decide) (Or.inr ⟨_, ct_4_2⟩) rfl (fun _ h => by cases h; rfl) ?_
  rw [show wR m5 129 2 132 = op1 m5 (1, 129, 2, 132) from rfl]
  obtain ⟨m6, e6⟩ : ∃ z, z = op1 m5 (1, 129, 2, 132) := ⟨_, rfl⟩
  rw [← e6]
  have hN6 : mN m6 = 133 := by rw [e6]; exact hN5
  refine JT_aload_n (q := 0) dX4_init_28 rfl rfl ?_
  refine JT_bipush (v := 60) dX4_init_29 (by decide) ?_
  refine JT_newa_int (mc := 7) (ms := 318) (N := 60) dX4_init_31 aw_int (by rw [hN6]; exact BS_133) (by decide) (by decide) (by decide) ?_
  rw [hN6]
  rw [show wN m6 = op1 m6 (0, 0, 0, 0) from rfl]
  obtain ⟨m7, e7⟩ : ∃ z, z = op1 m6 (0, 0, 0, 0) := ⟨_, rfl⟩
  rw [← e7]
  have hN7 : mN m7 = 134 := by rw [e7]; show mN m6 + 1 = _; rw [hN6]
  refine JT_putF dX4_init_33 flX4_21 BS_129 (Nat.le_of_ble_eq_true rfl) (by rw [hN7]; decide) (Or.inr ⟨_, ct_4_3⟩) rfl (fun _ h => by cases h; rfl) ?_
  rw [show wR m7 129 3 133 = op1 m7 (1, 129, 3, 133) from rfl]
  obtain ⟨m8, e8⟩ : ∃ z, z = op1 m7 (1, 129, 3, 133) := ⟨_, rfl⟩
  rw [← e8]
  have hN8 : mN m8 = 134 := by rw [e8]; exact hN7
  refine JT_aload_n (q := 0) dX4_init_36 rfl rfl ?_
  refine JT_bipush (v := 60) dX4_init_37 (by decide) ?_
  refine JT_newa_int (mc := 6) (ms := 258) (N := 60) dX4_init_39 aw_int (by rw [hN8]; exact BS_134) (by decide) (by decide) (by decide) ?_
  rw [hN8]
  rw [show wN m8 = op1 m8 (0, 0, 0, 0) from rfl]
  obtain ⟨m9, e9⟩ : ∃ z, z = op1 m8 (0, 0, 0, 0) := ⟨_, rfl⟩
  rw [← e9]
  have hN9 : mN m9 = 135 := by rw [e9]; show mN m8 + 1 = _; rw [hN8]
  refine JT_putF dX4_init_41 flX4_24 BS_129 (Nat.le_of_ble_eq_true rfl) (by rw [hN9]; decide) (Or.inr ⟨_, ct_4_4⟩) rfl (fun _ h => by cases h; rfl) ?_
  rw [show wR m9 129 4 134 = op1 m9 (1, 129, 4, 134) from rfl]
  obtain ⟨m10, e10⟩ : ∃ z, z = op1 m9 (1, 129, 4, 134) := ⟨_, rfl⟩
  rw [← e10]
  have hN10 : mN m10 = 135 := by rw [e10]; exact hN9
  refine JT_aload_n (q := 0) dX4_init_44 rfl rfl ?_
  refine JT_bipush (v := 60) dX4_init_45 (by decide) ?_
  refine JT_newa_int (mc := 5) (ms := 198) (N := 60) dX4_init_47 aw_int (by rw [hN10]; exact BS_135) (by decide) (by decide) (by decide) ?_
  rw [hN10]
  rw [show wN m10 = op1 m10 (0, 0, 0, 0) from rfl]
  obtain ⟨m11, e11⟩ : ∃ z, z = op1 m10 (0, 0, 0, 0) := ⟨_, rfl⟩
  rw [← e11]
  have hN11 : mN m11 = 136 := by rw [e11]; show mN m10 + 1 = _; rw [hN10]
  refine JT_putF dX4_init_49 flX4_27 BS_129 (Nat.le_of_ble_eq_true rfl) (by rw [hN11]; decide) (Or.inr ⟨_, ct_4_5⟩) rfl (fun _ h => by cases h; rfl) ?_
  rw [show wR m11 129 5 135 = op1 m11 (1, 129, 5, 135) from rfl]
  obtain ⟨m12, e12⟩ : ∃ z, z = op1 m11 (1, 129, 5, 135) := ⟨_, rfl⟩
  rw [← e12]
  have hN12 : mN m12 = 136 := by rw [e12]; exact hN11
  refine JT_aload_n (q := 0) dX4_init_52 rfl rfl ?_
  refine JT_bipush (v := 9) dX4_init_53 (by decide) ?_
  refine JT_newa_int (mc := 4) (ms := 189) (N := 9) dX4_init_55 aw_int (by rw [hN12]; exact BS_136) (by decide) (by decide) (by decide) ?_
  rw [hN12]
  rw [show wN m12 = op1 m12 (0, 0, 0, 0) from rfl]
  obtain ⟨m13, e13⟩ : ∃ z, z = op1 m12 (0, 0, 0, 0) := ⟨_, rfl⟩
  rw [← e13]
  have hN13 : mN m13 = 137 := by rw [e13]; show mN m12 + 1 = _; rw [hN12]
  refine JT_putF dX4_init_57 flX4_30 BS_129 (Nat.le_of_ble_eq_true rfl) (by rw [hN13]; decide) (Or.inr ⟨_, ct_4_6⟩) rfl (fun _ h => by cases h; rfl) ?_
  rw [show wR m13 129 6 136 = op1 m13 (1, 129, 6, 136) from rfl]
  obtain ⟨m14, e14⟩ : ∃ z, z = op1 m13 (1, 129, 6, 136) := ⟨_, rfl⟩
  rw [← e14]
  have hN14 : mN m14 = 137 := by rw [e14]; exact hN13
  refine JT_aload_n (q := 0) dX4_init_60 rfl rfl ?_
  refine JT_bipush (v := 9) dX4_init_61 (by decide) ?_
  refine JT_newa_int (mc := 3) (ms := 180) (N := 9) dX4_init_63 aw_int (by rw [hN14]; exact BS_137) (by decide) (by decide) (by decide) ?_
  rw [hN14]
  rw [show wN m14 = op1 m14 (0, 0, 0, 0) from rfl]
  obtain ⟨m15, e15⟩ : ∃ z, z = op1 m14 (0, 0, 0, 0) := ⟨_, rfl⟩
  rw [← e15]
  have hN15 : mN m15 = 138 := by rw [e15]; show mN m14 + 1 = _; rw [hN14]
  refine JT_putF dX4_init_65 flX4_33 BS_129 (Nat.le_of_ble_eq_true rfl) (by rw [hN15]; decide) (Or.inr ⟨_, ct_4_7⟩) rfl (fun _ h => by cases h; rfl) ?_
  rw [show wR m15 129 7 137 = op1 m15 (1, 129, 7, 137) from rfl]
  obtain ⟨m16, e16⟩ : ∃ z, z = op1 m15 (1, 129, 7, 137) := ⟨_, rfl⟩
  rw [← e16]
  have hN16 : mN m16 = 138 := by rw [e16]; exact hN15
  refine JT_aload_n (q := 0) dX4_init_68 rfl rfl ?_
  refine JT_bipush (v := 60) dX4_init_69 (by decide) ?_
  refine JT_newa_int (mc := 2) (ms := 120) (N := 60) dX4_init_71 aw_int (by rw [hN16]; exact BS_138) (by decide) (by decide) (by decide) ?_
  rw [hN16]
  rw [show wN m16 = op1 m16 (0, 0, 0, 0) from rfl]
  obtain ⟨m17, e17⟩ : ∃ z, z = op1 m16 (0, 0, 0, 0) := ⟨_, rfl⟩
  rw [← e17]
  have hN17 : mN m17 = 139 := by rw [e17]; show mN m16 + 1 = _; rw [hN16]
  refine JT_putF dX4_init_73 flX4_36 BS_129 (Nat.le_of_ble_eq_true rfl) (by rw [hN17]; decide) (Or.inr ⟨_, ct_4_11⟩) rfl (fun _ h => by cases h; rfl) ?_
  rw [show wR m17 129 11 138 = op1 m17 (1, 129, 11, 138) from rfl]
  obtain ⟨m18, e18⟩ : ∃ z, z = op1 m17 (1, 129, 11, 138) := ⟨_, rfl⟩
  rw [← e18]
  have hN18 : mN m18 = 139 := by rw [e18]; exact hN17
  refine JT_aload_n (q := 0) dX4_init_76 rfl rfl ?_
  refine JT_bipush (v := 60) dX4_init_77 (by decide) ?_
  refine JT_newa_int (mc := 1) (ms := 60) (N := 60) dX4_init_79 aw_int (by rw [hN18]; exact BS_139) (by decide) (by decide) (by decide) ?_
  rw [hN18]
  rw [show wN m18 = op1 m18 (0, 0, 0, 0) from rfl]
  obtain ⟨m19, e19⟩ : ∃ z, z = op1 m18 (0, 0, 0, 0) := ⟨_, rfl⟩
  rw [← e19]
  have hN19 : mN m19 = 140 := by rw [e19]; show mN m18 + 1 = _; rw [hN18]
  refine JT_putF dX4_init_81 flX4_39 BS_129 (Nat.le_of_ble_eq_true rfl) (by rw [hN19]; decide) (Or.inr ⟨_, ct_4_12⟩) rfl (fun _ h => by cases h; rfl) ?_
  rw [show wR m19 129 12 139 = op1 m19 (1, 129, 12, 139) from rfl]
  obtain ⟨m20, e20⟩ : ∃ z, z = op1 m19 (1, 129, 12, 139) := ⟨_, rfl⟩
  rw [← e20]
  have hN20 : mN m20 = 140 := by rw [e20]; exact hN19
  refine JT_aload_n (q := 0) dX4_init_84 rfl rfl ?_
  refine JT_bipush (v := 60) dX4_init_85 (by decide) ?_
  refine JT_newa_int (mc := 0) (ms := 0) (N := 60) dX4_init_87 aw_int (by rw [hN20]; exact BS_140) (by decide) (by decide) (by decide) ?_
  rw [hN20]
  rw [show wN m20 = op1 m20 (0, 0, 0, 0) from rfl]
  obtain ⟨m21, e21⟩ : ∃ z, z = op1 m20 (0, 0, 0, 0) := ⟨_, rfl⟩
  rw [← e21]
  have hN21 : mN m21 = 141 := by rw [e21]; show mN m20 + 1 = _; rw [hN20]
  refine JT_putF dX4_init_89 flX4_42 BS_129 (Nat.le_of_ble_eq_true rfl) (by rw [hN21]; decide) (Or.inr ⟨_, ct_4_13⟩) rfl (fun _ h => by cases h; rfl) ?_
  rw [show wR m21 129 13 140 = op1 m21 (1, 129, 13, 140) from rfl]
  obtain ⟨m22, e22⟩ : ∃ z, z = op1 m21 (1, 129, 13, 140) := ⟨_, rfl⟩
  rw [← e22]
  have hN22 : mN m22 = 141 := by rw [e22]; exact hN21
  refine JT_aload_n (q := 0) dX4_init_92 rfl rfl ?_
  refine JT_aload_n (q := 1) dX4_init_93 rfl rfl ?_
  refine JT_putF dX4_init_94 flX4_45 BS_129 (Nat.le_of_ble_eq_true rfl) (by rw [hN22]; decide) (Or.inl ⟨_, ct_4_8⟩) rfl (fun _ h => by cases h; rfl) ?_
  rw [show wR m22 129 8 5 = op1 m22 (1, 129, 8, 5) from rfl]
  obtain ⟨m23, e23⟩ : ∃ z, z = op1 m22 (1, 129, 8, 5) := ⟨_, rfl⟩
  rw [← e23]
  have hN23 : mN m23 = 141 := by rw [e23]; exact hN22
  refine JT_vret (st := []) dX4_init_97 rfl ⟨trivial, rfl, ?_⟩
  rw [e23, e22, e21, e20, e19, e18, e17, e16, e15, e14, e13, e12, e11, e10, e9, e8, e7, e6, e5, e4, e3, e2, e1]
  simp only [kX4_init_129o, List.foldl_append, List.foldl_cons, List.foldl_nil]
set_option maxRecDepth 1000000 in
def kX4_init_141o : List OpT := [(0, 0, 0, 0), (1, 141, 0, 142), (0, 0, 0, 0), (1, 141, 1, 143), (0, 0, 0, 0), (1, 141, 2, 144), (0, 0, 0, 0), (1, 141, 3, 145), (0, 0, 0, 0), (1, 141, 4, 146), (0, 0, 0, 0), (1, 141, 5, 147), (0, 0, 0, 0), (1, 141, 6, 148), (0, 0, 0, 0), (1, 141, 7, 149), (0, 0, 0, 0), (1, 141, 11, 150), (0, 0, 0, 0), (1, 141, 12, 151), (0, 0, 0, 0), (1, 141, 13, 152), (1, 141, 8, 5)]
set_option maxRecDepth 1000000 in
theorem kX4_init_141 (m : JMem) (hN : mN m = 142) : JC MX4_init 1 11 558 [.ref 141, .ref 5] m (fun v m1 => v = none ∧ m1 = List.foldl op1 m kX4_init_141o) := by
  show JT MX4_init 1 11 558 0 [(0, .ref 141), (1, .ref 5)] [] m _
  refine JT_aload_n (q := 0) dX4_init_0 rfl rfl ?_
  refine JT_obj (d2 := 0) dX4_init_1 mlX4_3 (Nat.le_of_ble_eq_true rfl) rfl ?_
  refine JT_aload_n (q := 0) dX4_init_4 rfl rfl ?_
  refine JT_bipush (v := 60) dX4_init_5 (by decide) ?_
  refine JT_newa_int (mc := 10) (ms := 498) (N := 60) dX4_init_7 aw_int (by rw [hN]; exact BS_142) (by decide) (by decide) (by decide) ?_
  rw [hN]
  rw [show wN m = op1 m (0, 0, 0, 0) from rfl]
  obtain ⟨m1, e1⟩ : ∃ z, z = op1 m (0, 0, 0, 0) := ⟨_, rfl⟩
  rw [← e1]
  have hN1 : mN m1 = 143 := by rw [e1]; show mN m + 1 = _; rw [hN]
  refine JT_putF dX4_init_9 flX4_9 BS_141 (Nat.le_of_ble_eq_true rfl) (by rw [hN1]; decide) (Or.inr ⟨_, ct_4_0⟩) rfl (fun _ h => by cases h; rfl) ?_
  rw [show wR m1 141 0 142 = op1 m1 (1, 141, 0, 142) from rfl]
  obtain ⟨m2, e2⟩ : ∃ z, z = op1 m1 (1, 141, 0, 142) := ⟨_, rfl⟩
  rw [← e2]
  have hN2 : mN m2 = 143 := by rw [e2]; exact hN1
  refine JT_aload_n (q := 0) dX4_init_12 rfl rfl ?_
  refine JT_bipush (v := 60) dX4_init_13 (by decide) ?_
  refine JT_newa_int (mc := 9) (ms := 438) (N := 60) dX4_init_15 aw_int (by rw [hN2]; exact BS_143) (by decide) (by decide) (by decide) ?_
  rw [hN2]
  rw [show wN m2 = op1 m2 (0, 0, 0, 0) from rfl]
  obtain ⟨m3, e3⟩ : ∃ z, z = op1 m2 (0, 0, 0, 0) := ⟨_, rfl⟩
  rw [← e3]
  have hN3 : mN m3 = 144 := by rw [e3]; show mN m2 + 1 = _; rw [hN2]
  refine JT_putF dX4_init_17 flX4_15 BS_141 (Nat.le_of_ble_eq_true rfl) (by rw [hN3]; decide) (Or.inr ⟨_, ct_4_1⟩) rfl (fun _ h => by cases h; rfl) ?_
  rw [show wR m3 141 1 143 = op1 m3 (1, 141, 1, 143) from rfl]
  obtain ⟨m4, e4⟩ : ∃ z, z = op1 m3 (1, 141, 1, 143) := ⟨_, rfl⟩
  rw [← e4]
  have hN4 : mN m4 = 144 := by rw [e4]; exact hN3
  refine JT_aload_n (q := 0) dX4_init_20 rfl rfl ?_
  refine JT_bipush (v := 60) dX4_init_21 (by decide) ?_
  refine JT_newa_int (mc := 8) (ms := 378) (N := 60) dX4_init_23 aw_int (by rw [hN4]; exact BS_144) (by decide) (by decide) (by decide) ?_
  rw [hN4]
  rw [show wN m4 = op1 m4 (0, 0, 0, 0) from rfl]
  obtain ⟨m5, e5⟩ : ∃ z, z = op1 m4 (0, 0, 0, 0) := ⟨_, rfl⟩
  rw [← e5]
  have hN5 : mN m5 = 145 := by rw [e5]; show mN m4 + 1 = _; rw [hN4]
  refine JT_putF dX4_init_25 flX4_18 BS_141 (Nat.le_of_ble_eq_true rfl) (by rw [hN5]; decide) (Or.inr ⟨_, ct_4_2⟩) rfl (fun _ h => by cases h; rfl) ?_
  rw [show wR m5 141 2 144 = op1 m5 (1, 141, 2, 144) from rfl]
  obtain ⟨m6, e6⟩ : ∃ z, z = op1 m5 (1, 141, 2, 144) := ⟨_, rfl⟩
  rw [← e6]
  have hN6 : mN m6 = 145 := by rw [e6]; exact hN5
  refine JT_aload_n (q := 0) dX4_init_28 rfl rfl ?_
  refine JT_bipush (v := 60) dX4_init_29 (by decide) ?_
  refine JT_newa_int (mc := 7) (ms := 318) (N := 60) dX4_init_31 aw_int (by rw [hN6]; exact BS_145) (by decide) (by decide) (by decide) ?_
  rw [hN6]
  rw [show wN m6 = op1 m6 (0, 0, 0, 0) from rfl]
  obtain ⟨m7, e7⟩ : ∃ z, z = op1 m6 (0, 0, 0, 0) := ⟨_, rfl⟩
  rw [← e7]
  have hN7 : mN m7 = 146 := by rw [e7]; show mN m6 + 1 = _; rw [hN6]
  refine JT_putF dX4_init_33 flX4_21 BS_141 (Nat.le_of_ble_eq_true rfl) (by rw [hN7]; decide) (Or.inr ⟨_, ct_4_3⟩) rfl (fun _ h => by cases h; rfl) ?_
  rw [show wR m7 141 3 145 = op1 m7 (1, 141, 3, 145) from rfl]
  obtain ⟨m8, e8⟩ : ∃ z, z = op1 m7 (1, 141, 3, 145) := ⟨_, rfl⟩
  rw [← e8]
  have hN8 : mN m8 = 146 := by rw [e8]; exact hN7
  refine JT_aload_n (q := 0) dX4_init_36 rfl rfl ?_
  refine JT_bipush (v := 60) dX4_init_37 (by decide) ?_
  refine JT_newa_int (mc := 6) (ms := 258) (N := 60) dX4_init_39 aw_int (by rw [hN8]; exact BS_146) (by decide) (by decide) (by decide) ?_
  rw [hN8]
  rw [show wN m8 = op1 m8 (0, 0, 0, 0) from rfl]
  obtain ⟨m9, e9⟩ : ∃ z, z = op1 m8 (0, 0, 0, 0) := ⟨_, rfl⟩
  rw [← e9]
  have hN9 : mN m9 = 147 := by rw [e9]; show mN m8 + 1 = _; rw [hN8]
  refine JT_putF dX4_init_41 flX4_24 BS_141 (Nat.le_of_ble_eq_true rfl) (by rw [hN9]; decide) (Or.inr ⟨_, ct_4_4⟩) rfl (fun _ h => by cases h; rfl) ?_
  rw [show wR m9 141 4 146 = op1 m9 (1, 141, 4, 146) from rfl]
  obtain ⟨m10, e10⟩ : ∃ z, z = op1 m9 (1, 141, 4, 146) := ⟨_, rfl⟩
  rw [← e10]
  have hN10 : mN m10 = 147 := by rw [e10]; exact hN9
  refine JT_aload_n (q := 0) dX4_init_44 rfl rfl ?_
  refine JT_bipush (v := 60) dX4_init_45 (by decide) ?_
  refine JT_newa_int (mc := 5) (ms := 198) (N := 60) dX4_init_47 aw_int (by rw [hN10]; exact BS_147) (by decide) (by decide) (by decide) ?_
  rw [hN10]
  rw [show wN m10 = op1 m10 (0, 0, 0, 0) from rfl]
  obtain ⟨m11, e11⟩ : ∃ z, z = op1 m10 (0, 0, 0, 0) := ⟨_, rfl⟩
  rw [← e11]
  have hN11 : mN m11 = 148 := by rw [e11]; show mN m10 + 1 = _; rw [hN10]
  refine JT_putF dX4_init_49 flX4_27 BS_141 (Nat.le_of_ble_eq_true rfl) (by rw [hN11]; decide) (Or.inr ⟨_, ct_4_5⟩) rfl (fun _ h => by cases h; rfl) ?_
  rw [show wR m11 141 5 147 = op1 m11 (1, 141, 5, 147) from rfl]
  obtain ⟨m12, e12⟩ : ∃ z, z = op1 m11 (1, 141, 5, 147) := ⟨_, rfl⟩
  rw [← e12]
  have hN12 : mN m12 = 148 := by rw [e12]; exact hN11
  refine JT_aload_n (q := 0) dX4_init_52 rfl rfl ?_
  refine JT_bipush (v := 9) dX4_init_53 (by decide) ?_
  refine JT_newa_int (mc := 4) (ms := 189) (N := 9) dX4_init_55 aw_int (by rw [hN12]; exact BS_148) (by decide) (by decide) (by decide) ?_
  rw [hN12]
  rw [show wN m12 = op1 m12 (0, 0, 0, 0) from rfl]
  obtain ⟨m13, e13⟩ : ∃ z, z = op1 m12 (0, 0, 0, 0) := ⟨_, rfl⟩
  rw [← e13]
  have hN13 : mN m13 = 149 := by rw [e13]; show mN m12 + 1 = _; rw [hN12]
  refine JT_putF dX4_init_57 flX4_30 BS_141 (Nat.le_of_ble_eq_true rfl) (by rw [hN13]; decide) (Or.inr ⟨_, ct_4_6⟩) rfl (fun _ h => by cases h; rfl) ?_
  rw [show wR m13 141 6 148 = op1 m13 (1, 141, 6, 148) from rfl]
  obtain ⟨m14, e14⟩ : ∃ z, z = op1 m13 (1, 141, 6, 148) := ⟨_, rfl⟩
  rw [← e14]
  have hN14 : mN m14 = 149 := by rw [e14]; exact hN13
  refine JT_aload_n (q := 0) dX4_init_60 rfl rfl ?_
  refine JT_bipush (v := 9) dX4_init_61 (by decide) ?_
  refine JT_newa_int (mc := 3) (ms := 180) (N := 9) dX4_init_63 aw_int (by rw [hN14]; exact BS_149) (by decide) (by decide) (by decide) ?_
  rw [hN14]
  rw [show wN m14 = op1 m14 (0, 0, 0, 0) from rfl]
  obtain ⟨m15, e15⟩ : ∃ z, z = op1 m14 (0, 0, 0, 0) := ⟨_, rfl⟩
  rw [← e15]
  have hN15 : mN m15 = 150 := by rw [e15]; show mN m14 + 1 = _; rw [hN14]
  refine JT_putF dX4_init_65 flX4_33 BS_141 (Nat.le_of_ble_eq_true rfl) (by rw [hN15]; decide) (Or.inr ⟨_, ct_4_7⟩) rfl (fun _ h => by cases h; rfl) ?_
  rw [show wR m15 141 7 149 = op1 m15 (1, 141, 7, 149) from rfl]
  obtain ⟨m16, e16⟩ : ∃ z, z = op1 m15 (1, 141, 7, 149) := ⟨_, rfl⟩
  rw [← e16]
  have hN16 : mN m16 = 150 := by rw [e16]; exact hN15
  refine JT_aload_n (q := 0) dX4_init_68 rfl rfl ?_
  refine JT_bipush (v := 60) dX4_init_69 (by decide) ?_
  refine JT_newa_int (mc := 2) (ms := 120) (N := 60) dX4_init_71 aw_int (by rw [hN16]; exact BS_150) (by decide) (by decide) (by decide) ?_
  rw [hN16]
  rw [show wN m16 = op1 m16 (0, 0, 0, 0) from rfl]
  obtain ⟨m17, e17⟩ : ∃ z, z = op1 m16 (0, 0, 0, 0) := ⟨_, rfl⟩
  rw [← e17]
  have hN17 : mN m17 = 151 := by rw [e17]; show mN m16 + 1 = _; rw [hN16]
  refine JT_putF dX4_init_73 flX4_36 BS_141 (Nat.le_of_ble_eq_true rfl) (by rw [hN17]; decide) (Or.inr ⟨_, ct_4_11⟩) rfl (fun _ h => by cases h; rfl) ?_
  rw [show wR m17 141 11 150 = op1 m17 (1, 141, 11, 150) from rfl]
  obtain ⟨m18, e18⟩ : ∃ z, z = op1 m17 (1, 141, 11, 150) := ⟨_, rfl⟩
  rw [← e18]
  have hN18 : mN m18 = 151 := by rw [e18]; exact hN17
  refine JT_aload_n (q := 0) dX4_init_76 rfl rfl ?_
  refine JT_bipush (v := 60) dX4_init_77 (by decide) ?_
  refine JT_newa_int (mc := 1) (ms := 60) (N := 60) dX4_init_79 aw_int (by rw [hN18]; exact BS_151) (by decide) (by decide) (by decide) ?_
  rw [hN18]
  rw [show wN m18 = op1 m18 (0, 0, 0, 0) from rfl]
  obtain ⟨m19, e19⟩ : ∃ z, z = op1 m18 (0, 0, 0, 0) := ⟨_, rfl⟩
  rw [← e19]
  have hN19 : mN m19 = 152 := by rw [e19]; show mN m18 + 1 = _; rw [hN18]
  refine JT_putF dX4_init_81 flX4_39 BS_141 (Nat.le_of_ble_eq_true rfl) (by rw [hN19]; decide) (Or.inr ⟨_, ct_4_12⟩) rfl (fun _ h => by cases h; rfl) ?_
  rw [show wR m19 141 12 151 = op1 m19 (1, 141, 12, 151) from rfl]
  obtain ⟨m20, e20⟩ : ∃ z, z = op1 m19 (1, 141, 12, 151) := ⟨_, rfl⟩
  rw [← e20]
  have hN20 : mN m20 = 152 := by rw [e20]; exact hN19
  refine JT_aload_n (q := 0) dX4_init_84 rfl rfl ?_
  refine JT_bipush (v := 60) dX4_init_85 (by decide) ?_
  refine JT_newa_int (mc := 0) (ms := 0) (N := 60) dX4_init_87 aw_int (by rw [hN20]; exact BS_152) (by decide) (by decide) (by decide) ?_
  rw [hN20]
  rw [show wN m20 = op1 m20 (0, 0, 0, 0) from rfl]
  obtain ⟨m21, e21⟩ : ∃ z, z = op1 m20 (0, 0, 0, 0) := ⟨_, rfl⟩
  rw [← e21]
  have hN21 : mN m21 = 153 := by rw [e21]; show mN m20 + 1 = _; rw [hN20]
  refine JT_putF dX4_init_89 flX4_42 BS_141 (Nat.le_of_ble_eq_true rfl) (by rw [hN21]; decide) (Or.inr ⟨_, ct_4_13⟩) rfl (fun _ h => by cases h; rfl) ?_
  rw [show wR m21 141 13 152 = op1 m21 (1, 141, 13, 152) from rfl]
  obtain ⟨m22, e22⟩ : ∃ z, z = op1 m21 (1, 141, 13, 152) := ⟨_, rfl⟩
  rw [← e22]
  have hN22 : mN m22 = 153 := by rw [e22]; exact hN21
  refine JT_aload_n (q := 0) dX4_init_92 rfl rfl ?_
  refine JT_aload_n (q := 1) dX4_init_93 rfl rfl ?_
  refine JT_putF dX4_init_94 flX4_45 BS_141 (Nat.le_of_ble_eq_true rfl) (by rw [hN22]; decide) (Or.inl ⟨_, ct_4_8⟩) rfl (fun _ h => by cases h; rfl) ?_
  rw [show wR m22 141 8 5 = op1 m22 (1, 141, 8, 5) from rfl]
  obtain ⟨m23, e23⟩ : ∃ z, z = op1 m22 (1, 141, 8, 5) := ⟨_, rfl⟩
  rw [← e23]
  have hN23 : mN m23 = 153 := by rw [e23]; exact hN22
  refine JT_vret (st := []) dX4_init_97 rfl ⟨trivial, rfl, ?_⟩
  rw [e23, e22, e21, e20, e19, e18, e17, e16, e15, e14, e13, e12, e11, e10, e9, e8, e7, e6, e5, e4, e3, e2, e1]
  simp only [kX4_init_141o, List.foldl_append, List.foldl_cons, List.foldl_nil]
set_option maxRecDepth 1000000 in
def kX4_init_153o : List OpT := [(0, 0, 0, 0), (1, 153, 0, 154), (0, 0, 0, 0), (1, 153, 1, 155), (0, 0, 0, 0), (1, 153, 2, 156), (0, 0, 0, 0), (1, 153, 3, 157), (0, 0, 0, 0), (1, 153, 4, 158), (0, 0, 0, 0), (1, 153, 5, 159), (0, 0, 0, 0), (1, 153, 6, 160), (0, 0, 0, 0), (1, 153, 7, 161), (0, 0, 0, 0), (1, 153, 11, 162), (0, 0, 0, 0), (1, 153, 12, 163), (0, 0, 0, 0), (1, 153, 13, 164), (1, 153, 8, 5)]
set_option maxRecDepth 1000000 in
theorem kX4_init_153 (m : JMem) (hN : mN m = 154) : JC MX4_init 1 11 558 [.ref 153, .ref 5] m (fun v m1 => v = none ∧ m1 = List.foldl op1 m kX4_init_153o) := by
  show JT MX4_init 1 11 558 0 [(0, .ref 153), (1, .ref 5)] [] m _
  refine JT_aload_n (q := 0) dX4_init_0 rfl rfl ?_
  refine JT_obj (d2 := 0) dX4_init_1 mlX4_3 (Nat.le_of_ble_eq_true rfl) rfl ?_
  refine JT_aload_n (q := 0) dX4_init_4 rfl rfl ?_
  refine JT_bipush (v := 60) dX4_init_5 (by decide) ?_
  refine JT_newa_int (mc := 10) (ms := 498) (N := 60) dX4_init_7 aw_int (by rw [hN]; exact BS_154) (by decide) (by decide) (by decide) ?_
  rw [hN]
  rw [show wN m = op1 m (0, 0, 0, 0) from rfl]
  obtain ⟨m1, e1⟩ : ∃ z, z = op1 m (0, 0, 0, 0) := ⟨_, rfl⟩
  rw [← e1]
  have hN1 : mN m1 = 155 := by rw [e1]; show mN m + 1 = _; rw [hN]
  refine JT_putF dX4_init_9 flX4_9 BS_153 (Nat.le_of_ble_eq_true rfl) (by rw [hN1]; decide) (Or.inr ⟨_, ct_4_0⟩) rfl (fun _ h => by cases h; rfl) ?_
  rw [show wR m1 153 0 154 = op1 m1 (1, 153, 0, 154) from rfl]
  obtain ⟨m2, e2⟩ : ∃ z, z = op1 m1 (1, 153, 0, 154) := ⟨_, rfl⟩
  rw [← e2]
  have hN2 : mN m2 = 155 := by rw [e2]; exact hN1
  refine JT_aload_n (q := 0) dX4_init_12 rfl rfl ?_
  refine JT_bipush (v := 60) dX4_init_13 (by decide) ?_
  refine JT_newa_int (mc := 9) (ms := 438) (N := 60) dX4_init_15 aw_int (by rw [hN2]; exact BS_155) (by decide) (by decide) (by decide) ?_
  rw [hN2]
  rw [show wN m2 = op1 m2 (0, 0, 0, 0) from rfl]
  obtain ⟨m3, e3⟩ : ∃ z, z = op1 m2 (0, 0, 0, 0) := ⟨_, rfl⟩
  rw [← e3]
  have hN3 : mN m3 = 156 := by rw [e3]; show mN m2 + 1 = _; rw [hN2]
  refine JT_putF dX4_init_17 flX4_15 BS_153 (Nat.le_of_ble_eq_true rfl) (by rw [hN3]; decide) (Or.inr ⟨_, ct_4_1⟩) rfl (fun _ h => by cases h; rfl) ?_
  rw [show wR m3 153 1 155 = op1 m3 (1, 153, 1, 155) from rfl]
  obtain ⟨m4, e4⟩ : ∃ z, z = op1 m3 (1, 153, 1, 155) := ⟨_, rfl⟩
  rw [← e4]
  have hN4 : mN m4 = 156 := by rw [e4]; exact hN3
  refine JT_aload_n (q := 0) dX4_init_20 rfl rfl ?_
  refine JT_bipush (v := 60) dX4_init_21 (by decide) ?_
  refine JT_newa_int (mc := 8) (ms := 378) (N := 60) dX4_init_23 aw_int (by rw [hN4]; exact BS_156) (by decide) (by decide) (by decide) ?_
  rw [hN4]
  rw [show wN m4 = op1 m4 (0, 0, 0, 0) from rfl]
  obtain ⟨m5, e5⟩ : ∃ z, z = op1 m4 (0, 0, 0, 0) := ⟨_, rfl⟩
  rw [← e5]
  have hN5 : mN m5 = 157 := by rw [e5]; show mN m4 + 1 = _; rw [hN4]
  refine JT_putF dX4_init_25 flX4_18 BS_153 (Nat.le_of_ble_eq_true rfl) (by rw [hN5]; decide) (Or.inr ⟨_, ct_4_2⟩) rfl (fun _ h => by cases h; rfl) ?_
  rw [show wR m5 153 2 156 = op1 m5 (1, 153, 2, 156) from rfl]
  obtain ⟨m6, e6⟩ : ∃ z, z = op1 m5 (1, 153, 2, 156) := ⟨_, rfl⟩
  rw [← e6]
  have hN6 : mN m6 = 157 := by rw [e6]; exact hN5
  refine JT_aload_n (q := 0) dX4_init_28 rfl rfl ?_
  refine JT_bipush (v := 60) dX4_init_29 (by decide) ?_
  refine JT_newa_int (mc := 7) (ms := 318) (N := 60) dX4_init_31 aw_int (by rw [hN6]; exact BS_157) (by decide) (by decide) (by decide) ?_
  rw [hN6]
  rw [show wN m6 = op1 m6 (0, 0, 0, 0) from rfl]
  obtain ⟨m7, e7⟩ : ∃ z, z = op1 m6 (0, 0, 0, 0) := ⟨_, rfl⟩
  rw [← e7]
  have hN7 : mN m7 = 158 := by rw [e7]; show mN m6 + 1 = _; rw [hN6]
  refine JT_putF dX4_init_33 flX4_21 BS_153 (Nat.le_of_ble_eq_true rfl) (by rw [hN7]; decide) (Or.inr ⟨_, ct_4_3⟩) rfl (fun _ h => by cases h; rfl) ?_
  rw [show wR m7 153 3 157 = op1 m7 (1, 153, 3, 157) from rfl]
  obtain ⟨m8, e8⟩ : ∃ z, z = op1 m7 (1, 153, 3, 157) := ⟨_, rfl⟩
  rw [← e8]
  have hN8 : mN m8 = 158 := by rw [e8]; exact hN7
  refine JT_aload_n (q := 0) dX4_init_36 rfl rfl ?_
  refine JT_bipush (v := 60) dX4_init_37 (by decide) ?_
  refine JT_newa_int (mc := 6) (ms := 258) (N := 60) dX4_init_39 aw_int (by rw [hN8]; exact BS_158) (by decide) (by decide) (by decide) ?_
  rw [hN8]
  rw [show wN m8 = op1 m8 (0, 0, 0, 0) from rfl]
  obtain ⟨m9, e9⟩ : ∃ z, z = op1 m8 (0, 0, 0, 0) := ⟨_, rfl⟩
  rw [← e9]
  have hN9 : mN m9 = 159 := by rw [e9]; show mN m8 + 1 = _; rw [hN8]
  refine JT_putF dX4_init_41 flX4_24 BS_153 (Nat.le_of_ble_eq_true rfl) (by rw [hN9]; decide) (Or.inr ⟨_, ct_4_4⟩) rfl (fun _ h => by cases h; rfl) ?_
  rw [show wR m9 153 4 158 = op1 m9 (1, 153, 4, 158) from rfl]
  obtain ⟨m10, e10⟩ : ∃ z, z = op1 m9 (1, 153, 4, 158) := ⟨_, rfl⟩
  rw [← e10]
  have hN10 : mN m10 = 159 := by rw [e10]; exact hN9
  refine JT_aload_n (q := 0) dX4_init_44 rfl rfl ?_
  refine JT_bipush (v := 60) dX4_init_45 (by decide) ?_
  refine JT_newa_int (mc := 5) (ms := 198) (N := 60) dX4_init_47 aw_int (by rw [hN10]; exact BS_159) (by decide) (by decide) (by decide) ?_
  rw [hN10]
  rw [show wN m10 = op1 m10 (0, 0, 0, 0) from rfl]
  obtain ⟨m11, e11⟩ : ∃ z, z = op1 m10 (0, 0, 0, 0) := ⟨_, rfl⟩
  rw [← e11]
  have hN11 : mN m11 = 160 := by rw [e11]; show mN m10 + 1 = _; rw [hN10]
  refine JT_putF dX4_init_49 flX4_27 BS_153 (Nat.le_of_ble_eq_true rfl) (by rw [hN11]; decide) (Or.inr ⟨_, ct_4_5⟩) rfl (fun _ h => by cases h; rfl) ?_
  rw [show wR m11 153 5 159 = op1 m11 (1, 153, 5, 159) from rfl]
  obtain ⟨m12, e12⟩ : ∃ z, z = op1 m11 (1, 153, 5, 159) := ⟨_, rfl⟩
  rw [← e12]
  have hN12 : mN m12 = 160 := by rw [e12]; exact hN11
  refine JT_aload_n (q := 0) dX4_init_52 rfl rfl ?_
  refine JT_bipush (v := 9) dX4_init_53 (by decide) ?_
  refine JT_newa_int (mc := 4) (ms := 189) (N := 9) dX4_init_55 aw_int (by rw [hN12]; exact BS_160) (by decide) (by decide) (by decide) ?_
  rw [hN12]
  rw [show wN m12 = op1 m12 (0, 0, 0, 0) from rfl]
  obtain ⟨m13, e13⟩ : ∃ z, z = op1 m12 (0, 0, 0, 0) := ⟨_, rfl⟩
  rw [← e13]
  have hN13 : mN m13 = 161 := by rw [e13]; show mN m12 + 1 = _; rw [hN12]
  refine JT_putF dX4_init_57 flX4_30 BS_153 (Nat.le_of_ble_eq_true rfl) (by rw [hN13]; decide) (Or.inr ⟨_, ct_4_6⟩) rfl (fun _ h => by cases h; rfl) ?_
  rw [show wR m13 153 6 160 = op1 m13 (1, 153, 6, 160) from rfl]
  obtain ⟨m14, e14⟩ : ∃ z, z = op1 m13 (1, 153, 6, 160) := ⟨_, rfl⟩
  rw [← e14]
  have hN14 : mN m14 = 161 := by rw [e14]; exact hN13
  refine JT_aload_n (q := 0) dX4_init_60 rfl rfl ?_
  refine JT_bipush (v := 9) dX4_init_61 (by decide) ?_
  refine JT_newa_int (mc := 3) (ms := 180) (N := 9) dX4_init_63 aw_int (by rw [hN14]; exact BS_161) (by decide) (by decide) (by decide) ?_
  rw [hN14]
  rw [show wN m14 = op1 m14 (0, 0, 0, 0) from rfl]
  obtain ⟨m15, e15⟩ : ∃ z, z = op1 m14 (0, 0, 0, 0) := ⟨_, rfl⟩
  rw [← e15]
  have hN15 : mN m15 = 162 := by rw [e15]; show mN m14 + 1 = _; rw [hN14]
  refine JT_putF dX4_init_65 flX4_33 BS_153 (Nat.le_of_ble_eq_true rfl) (by rw [hN15]; decide) (Or.inr ⟨_, ct_4_7⟩) rfl (fun _ h => by cases h; rfl) ?_
  rw [show wR m15 153 7 161 = op1 m15 (1, 153, 7, 161) from rfl]
  obtain ⟨m16, e16⟩ : ∃ z, z = op1 m15 (1, 153, 7, 161) := ⟨_, rfl⟩
  rw [← e16]
  have hN16 : mN m16 = 162 := by rw [e16]; exact hN15
  refine JT_aload_n (q := 0) dX4_init_68 rfl rfl ?_
  refine JT_bipush (v := 60) dX4_init_69 (by decide) ?_
  refine JT_newa_int (mc := 2) (ms := 120) (N := 60) dX4_init_71 aw_int (by rw [hN16]; exact BS_162) (by decide) (by decide) (by decide) ?_
  rw [hN16]
  rw [show wN m16 = op1 m16 (0, 0, 0, 0) from rfl]
  obtain ⟨m17, e17⟩ : ∃ z, z = op1 m16 (0, 0, 0, 0) := ⟨_, rfl⟩
  rw [← e17]
  have hN17 : mN m17 = 163 := by rw [e17]; show mN m16 + 1 = _; rw [hN16]
  refine JT_putF dX4_init_73 flX4_36 BS_153 (Nat.le_of_ble_eq_true rfl) (by rw [hN17]; decide) (Or.inr ⟨_, ct_4_11⟩) rfl (fun _ h => by cases h; rfl) ?_
  rw [show wR m17 153 11 162 = op1 m17 (1, 153, 11, 162) from rfl]
  obtain ⟨m18, e18⟩ : ∃ z, z = op1 m17 (1, 153, 11, 162) := ⟨_, rfl⟩
  rw [← e18]
  have hN18 : mN m18 = 163 := by rw [e18]; exact hN17
  refine JT_aload_n (q := 0) dX4_init_76 rfl rfl ?_
  refine JT_bipush (v := 60) dX4_init_77 (by decide) ?_
  refine JT_newa_int (mc := 1) (ms := 60) (N := 60) dX4_init_79 aw_int (by rw [hN18]; exact BS_163) (by decide) (by decide) (by decide) ?_
  rw [hN18]
  rw [show wN m18 = op1 m18 (0, 0, 0, 0) from rfl]
  obtain ⟨m19, e19⟩ : ∃ z, z = op1 m18 (0, 0, 0, 0) := ⟨_, rfl⟩
  rw [← e19]
  have hN19 : mN m19 = 164 := by rw [e19]; show mN m18 + 1 = _; rw [hN18]
  refine JT_putF dX4_init_81 flX4_39 BS_153 (Nat.le_of_ble_eq_true rfl) (by rw [hN19]; decide) (Or.inr ⟨_, ct_4_12⟩) rfl (fun _ h => by cases h; rfl) ?_
  rw [show wR m19 153 12 163 = op1 m19 (1, 153, 12, 163) from rfl]
  obtain ⟨m20, e20⟩ : ∃ z, z = op1 m19 (1, 153, 12, 163) := ⟨_, rfl⟩
  rw [← e20]
  have hN20 : mN m20 = 164 := by rw [e20]; exact hN19
  refine JT_aload_n (q := 0) dX4_init_84 rfl rfl ?_
  refine JT_bipush (v := 60) dX4_init_85 (by decide) ?_
  refine JT_newa_int (mc := 0) (ms := 0) (N := 60) dX4_init_87 aw_int (by rw [hN20]; exact BS_164) (by decide) (by decide) (by decide) ?_
  rw [hN20]
  rw [show wN m20 = op1 m20 (0, 0, 0, 0) from rfl]
  obtain ⟨m21, e21⟩ : ∃ z, z = op1 m20 (0, 0, 0, 0) := ⟨_, rfl⟩
  rw [← e21]
  have hN21 : mN m21 = 165 := by rw [e21]; show mN m20 + 1 = _; rw [hN20]
  refine JT_putF dX4_init_89 flX4_42 BS_153 (Nat.le_of_ble_eq_true rfl) (by rw [hN21]; decide) (Or.inr ⟨_, ct_4_13⟩) rfl (fun _ h => by cases h; rfl) ?_
  rw [show wR m21 153 13 164 = op1 m21 (1, 153, 13, 164) from rfl]
  obtain ⟨m22, e22⟩ : ∃ z, z = op1 m21 (1, 153, 13, 164) := ⟨_, rfl⟩
  rw [← e22]
  have hN22 : mN m22 = 165 := by rw [e22]; exact hN21
  refine JT_aload_n (q := 0) dX4_init_92 rfl rfl ?_
  refine JT_aload_n (q := 1) dX4_init_93 rfl rfl ?_
  refine JT_putF dX4_init_94 flX4_45 BS_153 (Nat.le_of_ble_eq_true rfl) (by rw [hN22]; decide) (Or.inl ⟨_, ct_4_8⟩) rfl (fun _ h => by cases h; rfl) ?_
  rw [show wR m22 153 8 5 = op1 m22 (1, 153, 8, 5) from rfl]
  obtain ⟨m23, e23⟩ : ∃ z, z = op1 m22 (1, 153, 8, 5) := ⟨_, rfl⟩
  rw [← e23]
  have hN23 : mN m23 = 165 := by rw [e23]; exact hN22
  refine JT_vret (st := []) dX4_init_97 rfl ⟨trivial, rfl, ?_⟩
  rw [e23, e22, e21, e20, e19, e18, e17, e16, e15, e14, e13, e12, e11, e10, e9, e8, e7, e6, e5, e4, e3, e2, e1]
  simp only [kX4_init_153o, List.foldl_append, List.foldl_cons, List.foldl_nil]
set_option maxRecDepth 1000000 in
def kX2_init_55o : List OpT := [(0, 0, 0, 0), (1, 55, 0, 56), (0, 0, 0, 0)] ++ (kX4_init_57o ++ ([(1, 56, 0, 57), (0, 0, 0, 0)] ++ (kX4_init_69o ++ ([(1, 56, 1, 69), (0, 0, 0, 0)] ++ (kX4_init_81o ++ ([(1, 56, 2, 81), (0, 0, 0, 0)] ++ (kX4_init_93o ++ ([(1, 56, 3, 93), (0, 0, 0, 0)] ++ (kX4_init_105o ++ ([(1, 56, 4, 105), (0, 0, 0, 0)] ++ (kX4_init_117o ++ ([(1, 56, 5, 117), (0, 0, 0, 0)] ++ (kX4_init_129o ++ ([(1, 56, 6, 129), (0, 0, 0, 0)] ++ (kX4_init_141o ++ ([(1, 56, 7, 141), (0, 0, 0, 0)] ++ (kX4_init_153o ++ ([(1, 56, 8, 153)]))))))))))))))))))
set_option maxHeartbeats 20000000 in
set_option maxRecDepth 1000000 in
theorem kX2_init_55 (m : JMem) (hN : mN m = 56) : JC MX2_init 2 109 5166 [.ref 55, .ref 5] m (fun v m1 => v = none ∧ m1 = List.foldl op1 m kX2_init_55o) := by
  show JT MX2_init 2 109 5166 0 [(0, .ref 55), (1, .ref 5)] [] m _
  refine JT_aload_n (q := 0) dX2_init_0 rfl rfl ?_
  refine JT_obj (d2 := 1) dX2_init_1 mlX2_3 (Nat.le_of_ble_eq_true rfl) rfl ?_
  refine JT_aload_n (q := 0) dX2_init_4 rfl rfl ?_
  refine JT_bipush (v := 9) dX2_init_5 (by decide) ?_
  refine JT_anewa (mc := 108) (ms := 5157) (N := 9) dX2_init_7 caX2_11 ao_Ledger (by rw [hN]; exact BS_56) (by decide) (by decide) (by decide) ?_
  rw [hN]
  rw [show wN m = op1 m (0, 0, 0, 0) from rfl]
  obtain ⟨m1, e1⟩ : ∃ z, z = op1 m (0, 0, 0, 0) := ⟨_, rfl⟩
  rw [← e1]
  have hN1 : mN m1 = 57 := by rw [e1]; show mN m + 1 = _; rw [hN]
  refine JT_putF dX2_init_10 flX2_13 BS_55 (Nat.le_of_ble_eq_true rfl) (by rw [hN1]; decide) (Or.inr ⟨_, ct_2_0⟩) rfl (fun _ h => by cases h; rfl) ?_
  rw [show wR m1 55 0 56 = op1 m1 (1, 55, 0, 56) from rfl]
  obtain ⟨m2, e2⟩ : ∃ z, z = op1 m1 (1, 55, 0, 56) := ⟨_, rfl⟩
  rw [← e2]
  have hN2 : mN m2 = 57 := by rw [e2]; exact hN1
  have r2_55_0 : mR m2 55 0 = some 56 := by rw [e2]; show mR (wR m1 55 0 56) _ _ = _; rw [mR_wR, if_pos ⟨rfl, rfl⟩]
  refine JT_iconst (v := 0) dX2_init_13 (by decide) ?_
  refine JT_istore_n (lv' := [(2, .int (0)), (0, .ref 55), (1, .ref 5)]) dX2_init_14 rfl (Nat.le_of_ble_eq_true rfl) rfl ?_
  refine JT_iload_n (q := 0) dX2_init_15 rfl rfl ?_
  refine JT_bipush (v := 9) dX2_init_16 (by decide) ?_
  refine JT_icmp_ge (tgt := 41) dX2_init_18 (by decide) (fun h => absurd h (by decide)) (fun _ => ?_)
  refine JT_aload_n (q := 1) dX2_init_21 rfl rfl ?_
  refine JT_getR (x := 56) dX2_init_22 flX2_13 BS_55 (Nat.le_of_ble_eq_true rfl) (by rw [hN2]; decide) (Or.inr ⟨_, ct_2_0⟩) r2_55_0 ?_
  refine JT_iload_n (q := 0) dX2_init_25 rfl rfl ?_
  refine JT_new (mc := 107) (ms := 5142) (N := 15) dX2_init_26 clX2_11 (by rw [hN2]; exact BS_57) ?_
  rw [hN2]
  rw [show wN m2 = op1 m2 (0, 0, 0, 0) from rfl]
  obtain ⟨m3, e3⟩ : ∃ z, z = op1 m2 (0, 0, 0, 0) := ⟨_, rfl⟩
  rw [← e3]
  have hN3 : mN m3 = 58 := by rw [e3]; show mN m2 + 1 = _; rw [hN2]
  have r3_55_0 : mR m3 55 0 = some 56 := by rw [e3]; exact r2_55_0
  refine JT_dup dX2_init_29 rfl ?_
  refine JT_aload_n (q := 2) dX2_init_30 rfl rfl ?_
  refine JT_callI (d := 1) (mc1 := 11) (ms1 := 558) (mc := 96) (ms := 4584) (As := [.ref 5]) (rest := [.ref 57, .int (0), .ref 56]) dX2_init_31 cvX2_17 okX4_init rfl (Nat.le_of_ble_eq_true rfl) BS_57 (Nat.le_of_ble_eq_true rfl) (by rw [hN3]; decide) hci_4 rfl (Nat.le_of_ble_eq_true rfl) (JT_room (d2 := 1) (kX4_init_57 m3 hN3) (Nat.le_of_ble_eq_true rfl) (Nat.le_refl _) (Nat.le_refl _)) (fun v mz hq => ?_)
  obtain ⟨rfl, rfl⟩ := hq
  show JT _ _ _ _ _ _ [.ref 57, .int (0), .ref 56] _ _
  obtain ⟨m4, e4⟩ : ∃ z, z = List.foldl op1 m3 kX4_init_57o := ⟨_, rfl⟩
  rw [← e4]
  have hN4 : mN m4 = 69 := by rw [e4, mN_fold, hN3]; rfl
  have r4_55_0 : mR m4 55 0 = some 56 := by rw [e4]; exact (mR_fold _ _ 55 rfl _).trans r3_55_0
  refine JT_aast (ci := 4) (r := (RX4, TX4, 15)) dX2_init_34 BS_56 (Nat.le_of_ble_eq_true rfl) (by rw [hN4]; decide) (by unfold vp_in; decide) BS_57 (Nat.le_of_ble_eq_true rfl) (by rw [hN4]; decide) rfl ?_
  rw [show ((0 : Int32)).toNatClampNeg = 0 from by decide]
  rw [show wR m4 56 0 57 = op1 m4 (1, 56, 0, 57) from rfl]
  obtain ⟨m5, e5⟩ : ∃ z, z = op1 m4 (1, 56, 0, 57) := ⟨_, rfl⟩
  rw [← e5]
  have hN5 : mN m5 = 69 := by rw [e5]; exact hN4
  have r5_55_0 : mR m5 55 0 = some 56 := by rw [e5]; show mR (wR m4 56 0 57) _ _ = _; rw [mR_wR, if_neg (by decide)]; exact r4_55_0
  refine JT_iinc (q := 0) (v := 1) (lv' := [(2, .int (1)), (0, .ref 55), (1, .ref 5)]) dX2_init_35 rfl (by decide) (Nat.le_of_ble_eq_true rfl) rfl ?_
  refine JT_goto (tgt := 15) dX2_init_38 (by decide) ?_
  refine JT_iload_n (q := 0) dX2_init_15 rfl rfl ?_
  refine JT_bipush (v := 9) dX2_init_16 (by decide) ?_
  refine JT_icmp_ge (tgt := 41) dX2_init_18 (by decide) (fun h => absurd h (by decide)) (fun _ => ?_)
  refine JT_aload_n (q := 1) dX2_init_21 rfl rfl ?_
  refine JT_getR (x := 56) dX2_init_22 flX2_13 BS_55 (Nat.le_of_ble_eq_true rfl) (by rw [hN5]; decide) (Or.inr ⟨_, ct_2_0⟩) r5_55_0 ?_
  refine JT_iload_n (q := 0) dX2_init_25 rfl rfl ?_
  refine JT_new (mc := 95) (ms := 4569) (N := 15) dX2_init_26 clX2_11 (by rw [hN5]; exact BS_69) ?_
  rw [hN5]
  rw [show wN m5 = op1 m5 (0, 0, 0, 0) from rfl]
  obtain ⟨m6, e6⟩ : ∃ z, z = op1 m5 (0, 0, 0, 0) := ⟨_, rfl⟩
  rw [← e6]
  have hN6 : mN m6 = 70 := by rw [e6]; show mN m5 + 1 = _; rw [hN5]
  have r6_55_0 : mR m6 55 0 = some 56 := by rw [e6]; exact r5_55_0
  refine JT_dup dX2_init_29 rfl ?_
  refine JT_aload_n (q := 2) dX2_init_30 rfl rfl ?_
  refine JT_callI (d := 1) (mc1 := 11) (ms1 := 558) (mc := 84) (ms := 4011) (As := [.ref 5]) (rest := [.ref 69, .int (1), .ref 56]) dX2_init_31 cvX2_17 okX4_init rfl (Nat.le_of_ble_eq_true rfl) BS_69 (Nat.le_of_ble_eq_true rfl) (by rw [hN6]; decide) hci_4 rfl (Nat.le_of_ble_eq_true rfl) (JT_room (d2 := 1) (kX4_init_69 m6 hN6) (Nat.le_of_ble_eq_true rfl) (Nat.le_refl _) (Nat.le_refl _)) (fun v mz hq => ?_)
  obtain ⟨rfl, rfl⟩ := hq
  show JT _ _ _ _ _ _ [.ref 69, .int (1), .ref 56] _ _
  obtain ⟨m7, e7⟩ : ∃ z, z = List.foldl op1 m6 kX4_init_69o := ⟨_, rfl⟩
  rw [← e7]
  have hN7 : mN m7 = 81 := by rw [e7, mN_fold, hN6]; rfl
  have r7_55_0 : mR m7 55 0 = some 56 := by rw [e7]; exact (mR_fold _ _ 55 rfl _).trans r6_55_0
  refine JT_aast (ci := 4) (r := (RX4, TX4, 15)) dX2_init_34 BS_56 (Nat.le_of_ble_eq_true rfl) (by rw [hN7]; decide) (by unfold vp_in; decide) BS_69 (Nat.le_of_ble_eq_true rfl) (by rw [hN7]; decide) rfl ?_
  rw [show ((1 : Int32)).toNatClampNeg = 1 from by decide]
  rw [show wR m7 56 1 69 = op1 m7 (1, 56, 1, 69) from rfl]
  obtain ⟨m8, e8⟩ : ∃ z, z = op1 m7 (1, 56, 1, 69) := ⟨_, rfl⟩
  rw [← e8]
  have hN8 : mN m8 = 81 := by rw [e8]; exact hN7
  have r8_55_0 : mR m8 55 0 = some 56 := by rw [e8]; show mR (wR m7 56 1 69) _ _ = _; rw [mR_wR, if_neg (by decide)]; exact r7_55_0
  refine JT_iinc (q := 0) (v := 2) (lv' := [(2, .int (2)), (0, .ref 55), (1, .ref 5)]) dX2_init_35 rfl (by decide) (Nat.le_of_ble_eq_true rfl) rfl ?_
  refine JT_goto (tgt := 15) dX2_init_38 (by decide) ?_
  refine JT_iload_n (q := 0) dX2_init_15 rfl rfl ?_
  refine JT_bipush (v := 9) dX2_init_16 (by decide) ?_
  refine JT_icmp_ge (tgt := 41) dX2_init_18 (by decide) (fun h => absurd h (by decide)) (fun _ => ?_)
  refine JT_aload_n (q := 1) dX2_init_21 rfl rfl ?_
  refine JT_getR (x := 56) dX2_init_22 flX2_13 BS_55 (Nat.le_of_ble_eq_true rfl) (by rw [hN8]; decide) (Or.inr ⟨_, ct_2_0⟩) r8_55_0 ?_
  refine JT_iload_n (q := 0) dX2_init_25 rfl rfl ?_
  refine JT_new (mc := 83) (ms := 3996) (N := 15) dX2_init_26 clX2_11 (by rw [hN8]; exact BS_81) ?_
  rw [hN8]
  rw [show wN m8 = op1 m8 (0, 0, 0, 0) from rfl]
  obtain ⟨m9, e9⟩ : ∃ z, z = op1 m8 (0, 0, 0, 0) := ⟨_, rfl⟩
  rw [← e9]
  have hN9 : mN m9 = 82 := by rw [e9]; show mN m8 + 1 = _; rw [hN8]
  have r9_55_0 : mR m9 55 0 = some 56 := by rw [e9]; exact r8_55_0
  refine JT_dup dX2_init_29 rfl ?_
  refine JT_aload_n (q := 2) dX2_init_30 rfl rfl ?_
  refine JT_callI (d := 1) (mc1 := 11) (ms1 := 558) (mc := 72) (ms := 3438) (As := [.ref 5]) (rest := [.ref 81, .int (2), .ref 56]) dX2_init_31 cvX2_17 okX4_init rfl (Nat.le_of_ble_eq_true rfl) BS_81 (Nat.le_of_ble_eq_true rfl) (by rw [hN9]; decide) hci_4 rfl (Nat.le_of_ble_eq_true rfl) (JT_room (d2 := 1) (kX4_init_81 m9 hN9) (Nat.le_of_ble_eq_true rfl) (Nat.le_refl _) (Nat.le_refl _)) (fun v mz hq => ?_)
  obtain ⟨rfl, rfl⟩ := hq
  show JT _ _ _ _ _ _ [.ref 81, .int (2), .ref 56] _ _
  obtain ⟨m10, e10⟩ : ∃ z, z = List.foldl op1 m9 kX4_init_81o := ⟨_, rfl⟩
  rw [← e10]
  have hN10 : mN m10 = 93 := by rw [e10, mN_fold, hN9]; rfl
  have r10_55_0 : mR m10 55 0 = some 56 := by rw [e10]; exact (mR_fold _ _ 55 rfl _).trans r9_55_0
  refine JT_aast (ci := 4) (r := (RX4, TX4, 15)) dX2_init_34 BS_56 (Nat.le_of_ble_eq_true rfl) (by rw [hN10]; decide) (by unfold vp_in; decide) BS_81 (Nat.le_of_ble_eq_true rfl) (by rw [hN10]; decide) rfl ?_
  rw [show ((2 : Int32)).toNatClampNeg = 2 from by decide]
  rw [show wR m10 56 2 81 = op1 m10 (1, 56, 2, 81) from rfl]
  obtain ⟨m11, e11⟩ : ∃ z, z = op1 m10 (1, 56, 2, 81) := ⟨_, rfl⟩
  rw [← e11]
  have hN11 : mN m11 = 93 := by rw [e11]; exact hN10
  have r11_55_0 : mR m11 55 0 = some 56 := by rw [e11]; show mR (wR m10 56 2 81) _ _ = _; rw [mR_wR, if_neg (by decide)]; exact r10_55_0
  refine JT_iinc (q := 0) (v := 3) (lv' := [(2, .int (3)), (0, .ref 55), (1, .ref 5)]) dX2_init_35 rfl (by decide) (Nat.le_of_ble_eq_true rfl) rfl ?_
  refine JT_goto (tgt := 15) dX2_init_38 (by decide) ?_
  refine JT_iload_n (q := 0) dX2_init_15 rfl rfl ?_
  refine JT_bipush (v := 9) dX2_init_16 (by decide) ?_
  refine JT_icmp_ge (tgt := 41) dX2_init_18 (by decide) (fun h => absurd h (by decide)) (fun _ => ?_)
  refine JT_aload_n (q := 1) dX2_init_21 rfl rfl ?_
  refine JT_getR (x := 56) dX2_init_22 flX2_13 BS_55 (Nat.le_of_ble_eq_true rfl) (by rw [hN11]; decide) (Or.inr ⟨_, ct_2_0⟩) r11_55_0 ?_
  refine JT_iload_n (q := 0) dX2_init_25 rfl rfl ?_
  refine JT_new (mc := 71) (ms := 3423) (N := 15) dX2_init_26 clX2_11 (by rw [hN11]; exact BS_93) ?_
  rw [hN11]
  rw [show wN m11 = op1 m11 (0, 0, 0, 0) from rfl]
  obtain ⟨m12, e12⟩ : ∃ z, z = op1 m11 (0, 0, 0, 0) := ⟨_, rfl⟩
  rw [← e12]
  have hN12 : mN m12 = 94 := by rw [e12]; show mN m11 + 1 = _; rw [hN11]
  have r12_55_0 : mR m12 55 0 = some 56 := by rw [e12]; exact r11_55_0
  refine JT_dup dX2_init_29 rfl ?_
  refine JT_aload_n (q := 2) dX2_init_30 rfl rfl ?_
  refine JT_callI (d := 1) (mc1 := 11) (ms1 := 558) (mc := 60) (ms := 2865) (As := [.ref 5]) (rest := [.ref 93, .int (3), .ref 56]) dX2_init_31 cvX2_17 okX4_init rfl (Nat.le_of_ble_eq_true rfl) BS_93 (Nat.le_of_ble_eq_true rfl) (by rw [hN12]; decide) hci_4 rfl (Nat.le_of_ble_eq_true rfl) (JT_room (d2 := 1) (kX4_init_93 m12 hN12) (Nat.le_of_ble_eq_true rfl) (Nat.le_refl _) (Nat.le_refl _)) (fun v mz hq => ?_)
  obtain ⟨rfl, rfl⟩ := hq
  show JT _ _ _ _ _ _ [.ref 93, .int (3), .ref 56] _ _
  obtain ⟨m13, e13⟩ : ∃ z, z = List.foldl op1 m12 kX4_init_93o := ⟨_, rfl⟩
  rw [← e13]
  have hN13 : mN m13 = 105 := by rw [e13, mN_fold, hN12]; rfl
  have r13_55_0 : mR m13 55 0 = some 56 := by rw [e13]; exact (mR_fold _ _ 55 rfl _).trans r12_55_0
  refine JT_aast (ci := 4) (r := (RX4, TX4, 15)) dX2_init_34 BS_56 (Nat.le_of_ble_eq_true rfl) (by rw [hN13]; decide) (by unfold vp_in; decide) BS_93 (Nat.le_of_ble_eq_true rfl) (by rw [hN13]; decide) rfl ?_
  rw [show ((3 : Int32)).toNatClampNeg = 3 from by decide]
  rw [show wR m13 56 3 93 = op1 m13 (1, 56, 3, 93) from rfl]
  obtain ⟨m14, e14⟩ : ∃ z, z = op1 m13 (1, 56, 3, 93) := ⟨_, rfl⟩
  rw [← e14]
  have hN14 : mN m14 = 105 := by rw [e14]; exact hN13
  have r14_55_0 : mR m14 55 0 = some 56 := by rw [e14]; show mR (wR m13 56 3 93) _ _ = _; rw [mR_wR, if_neg (by decide)]; exact r13_55_0
  refine JT_iinc (q := 0) (v := 4) (lv' := [(2, .int (4)), (0, .ref 55), (1, .ref 5)]) dX2_init_35 rfl (by decide) (Nat.le_of_ble_eq_true rfl) rfl ?_
  refine JT_goto (tgt := 15) dX2_init_38 (by decide) ?_
  refine JT_iload_n (q := 0) dX2_init_15 rfl rfl ?_
  refine JT_bipush (v := 9) dX2_init_16 (by decide) ?_
  refine JT_icmp_ge (tgt := 41) dX2_init_18 (by decide) (fun h => absurd h (by decide)) (fun _ => ?_)
  refine JT_aload_n (q := 1) dX2_init_21 rfl rfl ?_
  refine JT_getR (x := 56) dX2_init_22 flX2_13 BS_55 (Nat.le_of_ble_eq_true rfl) (by rw [hN14]; decide) (Or.inr ⟨_, ct_2_0⟩) r14_55_0 ?_
  refine JT_iload_n (q := 0) dX2_init_25 rfl rfl ?_
  refine JT_new (mc := 59) (ms := 2850) (N := 15) dX2_init_26 clX2_11 (by rw [hN14]; exact BS_105) ?_
  rw [hN14]
  rw [show wN m14 = op1 m14 (0, 0, 0, 0) from rfl]
  obtain ⟨m15, e15⟩ : ∃ z, z = op1 m14 (0, 0, 0, 0) := ⟨_, rfl⟩
  rw [← e15]
  have hN15 : mN m15 = 106 := by rw [e15]; show mN m14 + 1 = _; rw [hN14]
  have r15_55_0 : mR m15 55 0 = some 56 := by rw [e15]; exact r14_55_0
  refine JT_dup dX2_init_29 rfl ?_
  refine JT_aload_n (q := 2) dX2_init_30 rfl rfl ?_
  refine JT_callI (d := 1) (mc1 := 11) (ms1 := 558) (mc := 48) (ms := 2292) (As := [.ref 5]) (rest := [.ref 105, .int (4), .ref 56]) dX2_init_31 cvX2_17 okX4_init rfl (Nat.le_of_ble_eq_true rfl) BS_105 (Nat.le_of_ble_eq_true rfl) (by rw [hN15]; decide) hci_4 rfl (Nat.le_of_ble_eq_true rfl) (JT_room (d2 := 1) (kX4_init_105 m15 hN15) (Nat.le_of_ble_eq_true rfl) (Nat.le_refl _) (Nat.le_refl _)) (fun v mz hq => ?_)
  obtain ⟨rfl, rfl⟩ := hq
  show JT _ _ _ _ _ _ [.ref 105, .int (4), .ref 56] _ _
  obtain ⟨m16, e16⟩ : ∃ z, z = List.foldl op1 m15 kX4_init_105o := ⟨_, rfl⟩
  rw [← e16]
  have hN16 : mN m16 = 117 := by rw [e16, mN_fold, hN15]; rfl
  have r16_55_0 : mR m16 55 0 = some 56 := by rw [e16]; exact (mR_fold _ _ 55 rfl _).trans r15_55_0
  refine JT_aast (ci := 4) (r := (RX4, TX4, 15)) dX2_init_34 BS_56 (Nat.le_of_ble_eq_true rfl) (by rw [hN16]; decide) (by unfold vp_in; decide) BS_105 (Nat.le_of_ble_eq_true rfl) (by rw [hN16]; decide) rfl ?_
  rw [show ((4 : Int32)).toNatClampNeg = 4 from by decide]
  rw [show wR m16 56 4 105 = op1 m16 (1, 56, 4, 105) from rfl]
  obtain ⟨m17, e17⟩ : ∃ z, z = op1 m16 (1, 56, 4, 105) := ⟨_, rfl⟩
  rw [← e17]
  have hN17 : mN m17 = 117 := by rw [e17]; exact hN16
  have r17_55_0 : mR m17 55 0 = some 56 := by rw [e17]; show mR (wR m16 56 4 105) _ _ = _; rw [mR_wR, if_neg (by decide)]; exact r16_55_0
  refine JT_iinc (q := 0) (v := 5) (lv' := [(2, .int (5)), (0, .ref 55), (1, .ref 5)]) dX2_init_35 rfl (by decide) (Nat.le_of_ble_eq_true rfl) rfl ?_
  refine JT_goto (tgt := 15) dX2_init_38 (by decide) ?_
  refine JT_iload_n (q := 0) dX2_init_15 rfl rfl ?_
  refine JT_bipush (v := 9) dX2_init_16 (by decide) ?_
  refine JT_icmp_ge (tgt := 41) dX2_init_18 (by decide) (fun h => absurd h (by decide)) (fun _ => ?_)
  refine JT_aload_n (q := 1) dX2_init_21 rfl rfl ?_
  refine JT_getR (x := 56) dX2_init_22 flX2_13 BS_55 (Nat.le_of_ble_eq_true rfl) (by rw [hN17]; decide) (Or.inr ⟨_, ct_2_0⟩) r17_55_0 ?_
  refine JT_iload_n (q := 0) dX2_init_25 rfl rfl ?_
  refine JT_new (mc := 47) (ms := 2277) (N := 15) dX2_init_26 clX2_11 (by rw [hN17]; exact BS_117) ?_
  rw [hN17]
  rw [show wN m17 = op1 m17 (0, 0, 0, 0) from rfl]
  obtain ⟨m18, e18⟩ : ∃ z, z = op1 m17 (0, 0, 0, 0) := ⟨_, rfl⟩
  rw [← e18]
  have hN18 : mN m18 = 118 := by rw [e18]; show mN m17 + 1 = _; rw [hN17]
  have r18_55_0 : mR m18 55 0 = some 56 := by rw [e18]; exact r17_55_0
  refine JT_dup dX2_init_29 rfl ?_
  refine JT_aload_n (q := 2) dX2_init_30 rfl rfl ?_
  refine JT_callI (d := 1) (mc1 := 11) (ms1 := 558) (mc := 36) (ms := 1719) (As := [.ref 5]) (rest := [.ref 117, .int (5), .ref 56]) dX2_init_31 cvX2_17 okX4_init rfl (Nat.le_of_ble_eq_true rfl) BS_117 (Nat.le_of_ble_eq_true rfl) (by rw [hN18]; decide) hci_4 rfl (Nat.le_of_ble_eq_true rfl) (JT_room (d2 := 1) (kX4_init_117 m18 hN18) (Nat.le_of_ble_eq_true rfl) (Nat.le_refl _) (Nat.le_refl _)) (fun v mz hq => ?_)
  obtain ⟨rfl, rfl⟩ := hq
  show JT _ _ _ _ _ _ [.ref 117, .int (5), .ref 56] _ _
  obtain ⟨m19, e19⟩ : ∃ z, z = List.foldl op1 m18 kX4_init_117o := ⟨_, rfl⟩
  rw [← e19]
  have hN19 : mN m19 = 129 := by rw [e19, mN_fold, hN18]; rfl
  have r19_55_0 : mR m19 55 0 = some 56 := by rw [e19]; exact (mR_fold _ _ 55 rfl _).trans r18_55_0
  refine JT_aast (ci := 4) (r := (RX4, TX4, 15)) dX2_init_34 BS_56 (Nat.le_of_ble_eq_true rfl) (by rw [hN19]; decide) (by unfold vp_in; decide) BS_117 (Nat.le_of_ble_eq_true rfl) (by rw [hN19]; decide) rfl ?_
  rw [show ((5 : Int32)).toNatClampNeg = 5 from by decide]
  rw [show wR m19 56 5 117 = op1 m19 (1, 56, 5, 117) from rfl]
  obtain ⟨m20, e20⟩ : ∃ z, z = op1 m19 (1, 56, 5, 117) := ⟨_, rfl⟩
  rw [← e20]
  have hN20 : mN m20 = 129 := by rw [e20]; exact hN19
  have r20_55_0 : mR m20 55 0 = some 56 := by rw [e20]; show mR (wR m19 56 5 117) _ _ = _; rw [mR_wR, if_neg (by decide)]; exact r19_55_0
  refine JT_iinc (q := 0) (v := 6) (lv' := [(2, .int (6)), (0, .ref 55), (1, .ref 5)]) dX2_init_35 rfl (by decide) (Nat.le_of_ble_eq_true rfl) rfl ?_
  refine JT_goto (tgt := 15) dX2_init_38 (by decide) ?_
  refine JT_iload_n (q := 0) dX2_init_15 rfl rfl ?_
  refine JT_bipush (v := 9) dX2_init_16 (by decide) ?_
  refine JT_icmp_ge (tgt := 41) dX2_init_18 (by decide) (fun h => absurd h (by decide)) (fun _ => ?_)
  refine JT_aload_n (q := 1) dX2_init_21 rfl rfl ?_
  refine JT_getR (x := 56) dX2_init_22 flX2_13 BS_55 (Nat.le_of_ble_eq_true rfl) (by rw [hN20]; decide) (Or.inr ⟨_, ct_2_0⟩) r20_55_0 ?_
  refine JT_iload_n (q := 0) dX2_init_25 rfl rfl ?_
  refine JT_new (mc := 35) (ms := 1704) (N := 15) dX2_init_26 clX2_11 (by rw [hN20]; exact BS_129) ?_
  rw [hN20]
  rw [show wN m20 = op1 m20 (0, 0, 0, 0) from rfl]
  obtain ⟨m21, e21⟩ : ∃ z, z = op1 m20 (0, 0, 0, 0) := ⟨_, rfl⟩
  rw [← e21]
  have hN21 : mN m21 = 130 := by rw [e21]; show mN m20 + 1 = _; rw [hN20]
  have r21_55_0 : mR m21 55 0 = some 56 := by rw [e21]; exact r20_55_0
  refine JT_dup dX2_init_29 rfl ?_
  refine JT_aload_n (q := 2) dX2_init_30 rfl rfl ?_
  refine JT_callI (d := 1) (mc1 := 11) (ms1 := 558) (mc := 24) (ms := 1146) (As := [.ref 5]) (rest := [.ref 129, .int (6), .ref 56]) dX2_init_31 cvX2_17 okX4_init rfl (Nat.le_of_ble_eq_true rfl) BS_129 (Nat.le_of_ble_eq_true rfl) (by rw [hN21]; decide) hci_4 rfl (Nat.le_of_ble_eq_true rfl) (JT_room (d2 := 1) (kX4_init_129 m21 hN21) (Nat.le_of_ble_eq_true rfl) (Nat.le_refl _) (Nat.le_refl _)) (fun v mz hq => ?_)
  obtain ⟨rfl, rfl⟩ := hq
  show JT _ _ _ _ _ _ [.ref 129, .int (6), .ref 56] _ _
  obtain ⟨m22, e22⟩ : ∃ z, z = List.foldl op1 m21 kX4_init_129o := ⟨_, rfl⟩
  rw [← e22]
  have hN22 : mN m22 = 141 := by rw [e22, mN_fold, hN21]; rfl
  have r22_55_0 : mR m22 55 0 = some 56 := by rw [e22]; exact (mR_fold _ _ 55 rfl _).trans r21_55_0
  refine JT_aast (ci := 4) (r := (RX4, TX4, 15)) dX2_init_34 BS_56 (Nat.le_of_ble_eq_true rfl) (by rw [hN22]; decide) (by unfold vp_in; decide) BS_129 (Nat.le_of_ble_eq_true rfl) (by rw [hN22]; decide) rfl ?_
  rw [show ((6 : Int32)).toNatClampNeg = 6 from by decide]
  rw [show wR m22 56 6 129 = op1 m22 (1, 56, 6, 129) from rfl]
  obtain ⟨m23, e23⟩ : ∃ z, z = op1 m22 (1, 56, 6, 129) := ⟨_, rfl⟩
  rw [← e23]
  have hN23 : mN m23 = 141 := by rw [e23]; exact hN22
  have r23_55_0 : mR m23 55 0 = some 56 := by rw [e23]; show mR (wR m22 56 6 129) _ _ = _; rw [mR_wR, if_neg (by decide)]; exact r22_55_0
  refine JT_iinc (q := 0) (v := 7) (lv' := [(2, .int (7)), (0, .ref 55), (1, .ref 5)]) dX2_init_35 rfl (by decide) (Nat.le_of_ble_eq_true rfl) rfl ?_
  refine JT_goto (tgt := 15) dX2_init_38 (by decide) ?_
  refine JT_iload_n (q := 0) dX2_init_15 rfl rfl ?_
  refine JT_bipush (v := 9) dX2_init_16 (by decide) ?_
  refine JT_icmp_ge (tgt := 41) dX2_init_18 (by decide) (fun h => absurd h (by decide)) (fun _ => ?_)
  refine JT_aload_n (q := 1) dX2_init_21 rfl rfl ?_
  refine JT_getR (x := 56) dX2_init_22 flX2_13 BS_55 (Nat.le_of_ble_eq_true rfl) (by rw [hN23]; decide) (Or.inr ⟨_, ct_2_0⟩) r23_55_0 ?_
  refine JT_iload_n (q := 0) dX2_init_25 rfl rfl ?_
  refine JT_new (mc := 23) (ms := 1131) (N := 15) dX2_init_26 clX2_11 (by rw [hN23]; exact BS_141) ?_
  rw [hN23]
  rw [show wN m23 = op1 m23 (0, 0, 0, 0) from rfl]
  obtain ⟨m24, e24⟩ : ∃ z, z = op1 m23 (0, 0, 0, 0) := ⟨_, rfl⟩
  rw [← e24]
  have hN24 : mN m24 = 142 := by rw [e24]; show mN m23 + 1 = _; rw [hN23]
  have r24_55_0 : mR m24 55 0 = some 56 := by rw [e24]; exact r23_55_0
  refine JT_dup dX2_init_29 rfl ?_
  refine JT_aload_n (q := 2) dX2_init_30 rfl rfl ?_
  refine JT_callI (d := 1) (mc1 := 11) (ms1 := 558) (mc := 12) (ms := 573) (As := [.ref 5]) (rest := [.ref 141, .int (7), .ref 56]) dX2_init_31 cvX2_17 okX4_init rfl (Nat.le_of_ble_eq_true rfl) BS_141 (Nat.le_of_ble_eq_true rfl) (by rw [hN24]; decide) hci_4 rfl (Nat.le_of_ble_eq_true rfl) (JT_room (d2 := 1) (kX4_init_141 m24 hN24) (Nat.le_of_ble_eq_true rfl) (Nat.le_refl _) (Nat.le_refl _)) (fun v mz hq => ?_)
  obtain ⟨rfl, rfl⟩ := hq
  show JT _ _ _ _ _ _ [.ref 141, .int (7), .ref 56] _ _
  obtain ⟨m25, e25⟩ : ∃ z, z = List.foldl op1 m24 kX4_init_141o := ⟨_, rfl⟩
  rw [← e25]
  have hN25 : mN m25 = 153 := by rw [e25, mN_fold, hN24]; rfl
  have r25_55_0 : mR m25 55 0 = some 56 := by rw [e25]; exact (mR_fold _ _ 55 rfl _).trans r24_55_0
  refine JT_aast (ci := 4) (r := (RX4, TX4, 15)) dX2_init_34 BS_56 (Nat.le_of_ble_eq_true rfl) (by rw [hN25]; decide) (by unfold vp_in; decide) BS_141 (Nat.le_of_ble_eq_true rfl) (by rw [hN25]; decide) rfl ?_
  rw [show ((7 : Int32)).toNatClampNeg = 7 from by decide]
  rw [show wR m25 56 7 141 = op1 m25 (1, 56, 7, 141) from rfl]
  obtain ⟨m26, e26⟩ : ∃ z, z = op1 m25 (1, 56, 7, 141) := ⟨_, rfl⟩
  rw [← e26]
  have hN26 : mN m26 = 153 := by rw [e26]; exact hN25
  have r26_55_0 : mR m26 55 0 = some 56 := by rw [e26]; show mR (wR m25 56 7 141) _ _ = _; rw [mR_wR, if_neg (by decide)]; exact r25_55_0
  refine JT_iinc (q := 0) (v := 8) (lv' := [(2, .int (8)), (0, .ref 55), (1, .ref 5)]) dX2_init_35 rfl (by decide) (Nat.le_of_ble_eq_true rfl) rfl ?_
  refine JT_goto (tgt := 15) dX2_init_38 (by decide) ?_
  refine JT_iload_n (q := 0) dX2_init_15 rfl rfl ?_
  refine JT_bipush (v := 9) dX2_init_16 (by decide) ?_
  refine JT_icmp_ge (tgt := 41) dX2_init_18 (by decide) (fun h => absurd h (by decide)) (fun _ => ?_)
  refine JT_aload_n (q := 1) dX2_init_21 rfl rfl ?_
  refine JT_getR (x := 56) dX2_init_22 flX2_13 BS_55 (Nat.le_of_ble_eq_true rfl) (by rw [hN26]; decide) (Or.inr ⟨_, ct_2_0⟩) r26_55_0 ?_
  refine JT_iload_n (q := 0) dX2_init_25 rfl rfl ?_
  refine JT_new (mc := 11) (ms := 558) (N := 15) dX2_init_26 clX2_11 (by rw [hN26]; exact BS_153) ?_
  rw [hN26]
  rw [show wN m26 = op1 m26 (0, 0, 0, 0) from rfl]
  obtain ⟨m27, e27⟩ : ∃ z, z = op1 m26 (0, 0, 0, 0) := ⟨_, rfl⟩
  rw [← e27]
  have hN27 : mN m27 = 154 := by rw [e27]; show mN m26 + 1 = _; rw [hN26]
  have r27_55_0 : mR m27 55 0 = some 56 := by rw [e27]; exact r26_55_0
  refine JT_dup dX2_init_29 rfl ?_
  refine JT_aload_n (q := 2) dX2_init_30 rfl rfl ?_
  refine JT_callI (d := 1) (mc1 := 11) (ms1 := 558) (mc := 0) (ms := 0) (As := [.ref 5]) (rest := [.ref 153, .int (8), .ref 56]) dX2_init_31 cvX2_17 okX4_init rfl (Nat.le_of_ble_eq_true rfl) BS_153 (Nat.le_of_ble_eq_true rfl) (by rw [hN27]; decide) hci_4 rfl (Nat.le_of_ble_eq_true rfl) (JT_room (d2 := 1) (kX4_init_153 m27 hN27) (Nat.le_of_ble_eq_true rfl) (Nat.le_refl _) (Nat.le_refl _)) (fun v mz hq => ?_)
  obtain ⟨rfl, rfl⟩ := hq
  show JT _ _ _ _ _ _ [.ref 153, .int (8), .ref 56] _ _
  obtain ⟨m28, e28⟩ : ∃ z, z = List.foldl op1 m27 kX4_init_153o := ⟨_, rfl⟩
  rw [← e28]
  have hN28 : mN m28 = 165 := by rw [e28, mN_fold, hN27]; rfl
  have r28_55_0 : mR m28 55 0 = some 56 := by rw [e28]; exact (mR_fold _ _ 55 rfl _).trans r27_55_0
  refine JT_aast (ci := 4) (r := (RX4, TX4, 15)) dX2_init_34 BS_56 (Nat.le_of_ble_eq_true rfl) (by rw [hN28]; decide) (by unfold vp_in; decide) BS_153 (Nat.le_of_ble_eq_true rfl) (by rw [hN28]; decide) rfl ?_
  rw [show ((8 : Int32)).toNatClampNeg = 8 from by decide]
  rw [show wR m28 56 8 153 = op1 m28 (1, 56, 8, 153) from rfl]
  obtain ⟨m29, e29⟩ : ∃ z, z = op1 m28 (1, 56, 8, 153) := ⟨_, rfl⟩
  rw [← e29]
  have hN29 : mN m29 = 165 := by rw [e29]; exact hN28
  have r29_55_0 : mR m29 55 0 = some 56 := by rw [e29]; show mR (wR m28 56 8 153) _ _ = _; rw [mR_wR, if_neg (by decide)]; exact r28_55_0
  refine JT_iinc (q := 0) (v := 9) (lv' := [(2, .int (9)), (0, .ref 55), (1, .ref 5)]) dX2_init_35 rfl (by decide) (Nat.le_of_ble_eq_true rfl) rfl ?_
  refine JT_goto (tgt := 15) dX2_init_38 (by decide) ?_
  refine JT_iload_n (q := 0) dX2_init_15 rfl rfl ?_
  refine JT_bipush (v := 9) dX2_init_16 (by decide) ?_
  refine JT_icmp_ge (tgt := 41) dX2_init_18 (by decide) (fun _ => ?_) (fun h => absurd (by decide) h)
  refine JT_vret (st := []) dX2_init_41 rfl ⟨trivial, rfl, ?_⟩
  rw [e29, e28, e27, e26, e25, e24, e23, e22, e21, e20, e19, e18, e17, e16, e15, e14, e13, e12, e11, e10, e9, e8, e7, e6, e5, e4, e3, e2, e1]
  simp only [kX2_init_55o, List.foldl_append, List.foldl_cons, List.foldl_nil]
set_option maxRecDepth 1000000 in
def kX6_init_167o : List OpT := [(0, 0, 0, 0), (1, 167, 0, 168), (0, 0, 0, 0), (1, 167, 1, 169), (0, 0, 0, 0), (1, 167, 2, 170), (0, 0, 0, 0), (1, 167, 3, 171), (0, 0, 0, 0), (1, 167, 4, 172), (0, 0, 0, 0), (1, 167, 5, 173), (2, 167, 8, 1)]
set_option maxRecDepth 1000000 in
theorem kX6_init_167 (m : JMem) (hN : mN m = 168) : JC MX6_init 1 6 45 [.ref 167] m (fun v m1 => v = none ∧ m1 = List.foldl op1 m kX6_init_167o) := by
  show JT MX6_init 1 6 45 0 [(0, .ref 167)] [] m _
  refine JT_aload_n (q := 0) dX6_init_0 rfl rfl ?_
  refine JT_obj (d2 := 0) dX6_init_1 mlX6_3 (Nat.le_of_ble_eq_true rfl) rfl ?_
  refine JT_aload_n (q := 0) dX6_init_4 rfl rfl ?_
  refine JT_bipush (v := 9) dX6_init_5 (by decide) ?_
  refine JT_newa_long (mc := 5) (ms := 36) (N := 9) dX6_init_7 aw_long (by rw [hN]; exact BS_168) (by decide) (by decide) (by decide) ?_
  rw [hN]
  rw [show wN m = op1 m (0, 0, 0, 0) from rfl]
  obtain ⟨m1, e1⟩ : ∃ z, z = op1 m (0, 0, 0, 0) := ⟨_, rfl⟩
  rw [← e1]
  have hN1 : mN m1 = 169 := by rw [e1]; show mN m + 1 = _; rw [hN]
  refine JT_putF dX6_init_9 flX6_9 BS_167 (Nat.le_of_ble_eq_true rfl) (by rw [hN1]; decide) (Or.inr ⟨_, ct_6_0⟩) rfl (fun _ h => by cases h; rfl) ?_
  rw [show wR m1 167 0 168 = op1 m1 (1, 167, 0, 168) from rfl]
  obtain ⟨m2, e2⟩ : ∃ z, z = op1 m1 (1, 167, 0, 168) := ⟨_, rfl⟩
  rw [← e2]
  have hN2 : mN m2 = 169 := by rw [e2]; exact hN1
  refine JT_aload_n (q := 0) dX6_init_12 rfl rfl ?_
  refine JT_bipush (v := 9) dX6_init_13 (by decide) ?_
  refine JT_newa_int (mc := 4) (ms := 27) (N := 9) dX6_init_15 aw_int (by rw [hN2]; exact BS_169) (by decide) (by decide) (by decide) ?_
  rw [hN2]
  rw [show wN m2 = op1 m2 (0, 0, 0, 0) from rfl]
  obtain ⟨m3, e3⟩ : ∃ z, z = op1 m2 (0, 0, 0, 0) := ⟨_, rfl⟩
  rw [← e3]
  have hN3 : mN m3 = 170 := by rw [e3]; show mN m2 + 1 = _; rw [hN2]
  refine JT_putF dX6_init_17 flX6_15 BS_167 (Nat.le_of_ble_eq_true rfl) (by rw [hN3]; decide) (Or.inr ⟨_, ct_6_1⟩) rfl (fun _ h => by cases h; rfl) ?_
  rw [show wR m3 167 1 169 = op1 m3 (1, 167, 1, 169) from rfl]
  obtain ⟨m4, e4⟩ : ∃ z, z = op1 m3 (1, 167, 1, 169) := ⟨_, rfl⟩
  rw [← e4]
  have hN4 : mN m4 = 170 := by rw [e4]; exact hN3
  refine JT_aload_n (q := 0) dX6_init_20 rfl rfl ?_
  refine JT_bipush (v := 9) dX6_init_21 (by decide) ?_
  refine JT_newa_int (mc := 3) (ms := 18) (N := 9) dX6_init_23 aw_int (by rw [hN4]; exact BS_170) (by decide) (by decide) (by decide) ?_
  rw [hN4]
  rw [show wN m4 = op1 m4 (0, 0, 0, 0) from rfl]
  obtain ⟨m5, e5⟩ : ∃ z, z = op1 m4 (0, 0, 0, 0) := ⟨_, rfl⟩
  rw [← e5]
  have hN5 : mN m5 = 171 := by rw [e5]; show mN m4 + 1 = _; rw [hN4]
  refine JT_putF dX6_init_25 flX6_19 BS_167 (Nat.le_of_ble_eq_true rfl) (by rw [hN5]; decide) (Or.inr ⟨_, ct_6_2⟩) rfl (fun _ h => by cases h; rfl) ?_
  rw [show wR m5 167 2 170 = op1 m5 (1, 167, 2, 170) from rfl]
  obtain ⟨m6, e6⟩ : ∃ z, z = op1 m5 (1, 167, 2, 170) := ⟨_, rfl⟩
  rw [← e6]
  have hN6 : mN m6 = 171 := by rw [e6]; exact hN5
  refine JT_aload_n (q := 0) dX6_init_28 rfl rfl ?_
  refine JT_bipush (v := 6) dX6_init_29 (by decide) ?_
  refine JT_newa_long (mc := 2) (ms := 12) (N := 6) dX6_init_31 aw_long (by rw [hN6]; exact BS_171) (by decide) (by decide) (by decide) ?_
  rw [hN6]
  rw [show wN m6 = op1 m6 (0, 0, 0, 0) from rfl]
  obtain ⟨m7, e7⟩ : ∃ z, z = op1 m6 (0, 0, 0, 0) := ⟨_, rfl⟩
  rw [← e7]
  have hN7 : mN m7 = 172 := by rw [e7]; show mN m6 + 1 = _; rw [hN6]
  refine JT_putF dX6_init_33 flX6_22 BS_167 (Nat.le_of_ble_eq_true rfl) (by rw [hN7]; decide) (Or.inr ⟨_, ct_6_3⟩) rfl (fun _ h => by cases h; rfl) ?_
  rw [show wR m7 167 3 171 = op1 m7 (1, 167, 3, 171) from rfl]
  obtain ⟨m8, e8⟩ : ∃ z, z = op1 m7 (1, 167, 3, 171) := ⟨_, rfl⟩
  rw [← e8]
  have hN8 : mN m8 = 172 := by rw [e8]; exact hN7
  refine JT_aload_n (q := 0) dX6_init_36 rfl rfl ?_
  refine JT_bipush (v := 6) dX6_init_37 (by decide) ?_
  refine JT_newa_int (mc := 1) (ms := 6) (N := 6) dX6_init_39 aw_int (by rw [hN8]; exact BS_172) (by decide) (by decide) (by decide) ?_
  rw [hN8]
  rw [show wN m8 = op1 m8 (0, 0, 0, 0) from rfl]
  obtain ⟨m9, e9⟩ : ∃ z, z = op1 m8 (0, 0, 0, 0) := ⟨_, rfl⟩
  rw [← e9]
  have hN9 : mN m9 = 173 := by rw [e9]; show mN m8 + 1 = _; rw [hN8]
  refine JT_putF dX6_init_41 flX6_25 BS_167 (Nat.le_of_ble_eq_true rfl) (by rw [hN9]; decide) (Or.inr ⟨_, ct_6_4⟩) rfl (fun _ h => by cases h; rfl) ?_
  rw [show wR m9 167 4 172 = op1 m9 (1, 167, 4, 172) from rfl]
  obtain ⟨m10, e10⟩ : ∃ z, z = op1 m9 (1, 167, 4, 172) := ⟨_, rfl⟩
  rw [← e10]
  have hN10 : mN m10 = 173 := by rw [e10]; exact hN9
  refine JT_aload_n (q := 0) dX6_init_44 rfl rfl ?_
  refine JT_bipush (v := 6) dX6_init_45 (by decide) ?_
  refine JT_newa_int (mc := 0) (ms := 0) (N := 6) dX6_init_47 aw_int (by rw [hN10]; exact BS_173) (by decide) (by decide) (by decide) ?_
  rw [hN10]
  rw [show wN m10 = op1 m10 (0, 0, 0, 0) from rfl]
  obtain ⟨m11, e11⟩ : ∃ z, z = op1 m10 (0, 0, 0, 0) := ⟨_, rfl⟩
  rw [← e11]
  have hN11 : mN m11 = 174 := by rw [e11]; show mN m10 + 1 = _; rw [hN10]
  refine JT_putF dX6_init_49 flX6_28 BS_167 (Nat.le_of_ble_eq_true rfl) (by rw [hN11]; decide) (Or.inr ⟨_, ct_6_5⟩) rfl (fun _ h => by cases h; rfl) ?_
  rw [show wR m11 167 5 173 = op1 m11 (1, 167, 5, 173) from rfl]
  obtain ⟨m12, e12⟩ : ∃ z, z = op1 m11 (1, 167, 5, 173) := ⟨_, rfl⟩
  rw [← e12]
  have hN12 : mN m12 = 174 := by rw [e12]; exact hN11
  refine JT_aload_n (q := 0) dX6_init_52 rfl rfl ?_
  refine JT_iconst (v := 1) dX6_init_53 (by decide) ?_
  refine JT_putI dX6_init_54 flX6_31 BS_167 (Nat.le_of_ble_eq_true rfl) (by rw [hN12]; decide) ct_6_8 ?_
  rw [show wI m12 167 8 (1) = op1 m12 (2, 167, 8, 1) from rfl]
  obtain ⟨m13, e13⟩ : ∃ z, z = op1 m12 (2, 167, 8, 1) := ⟨_, rfl⟩
  rw [← e13]
  have hN13 : mN m13 = 174 := by rw [e13]; exact hN12
  refine JT_vret (st := []) dX6_init_57 rfl ⟨trivial, rfl, ?_⟩
  rw [e13, e12, e11, e10, e9, e8, e7, e6, e5, e4, e3, e2, e1]
  simp only [kX6_init_167o, List.foldl_append, List.foldl_cons, List.foldl_nil]
set_option maxRecDepth 1000000 in
def kX4_init_174o : List OpT := [(0, 0, 0, 0), (1, 174, 0, 175), (0, 0, 0, 0), (1, 174, 1, 176), (0, 0, 0, 0), (1, 174, 2, 177), (0, 0, 0, 0), (1, 174, 3, 178), (0, 0, 0, 0), (1, 174, 4, 179), (0, 0, 0, 0), (1, 174, 5, 180), (0, 0, 0, 0), (1, 174, 6, 181), (0, 0, 0, 0), (1, 174, 7, 182), (0, 0, 0, 0), (1, 174, 11, 183), (0, 0, 0, 0), (1, 174, 12, 184), (0, 0, 0, 0), (1, 174, 13, 185), (1, 174, 8, 167)]
set_option maxRecDepth 1000000 in
theorem kX4_init_174 (m : JMem) (hN : mN m = 175) : JC MX4_init 1 11 558 [.ref 174, .ref 167] m (fun v m1 => v = none ∧ m1 = List.foldl op1 m kX4_init_174o) := by
  show JT MX4_init 1 11 558 0 [(0, .ref 174), (1, .ref 167)] [] m _
  refine JT_aload_n (q := 0) dX4_init_0 rfl rfl ?_
  refine JT_obj (d2 := 0) dX4_init_1 mlX4_3 (Nat.le_of_ble_eq_true rfl) rfl ?_
  refine JT_aload_n (q := 0) dX4_init_4 rfl rfl ?_
  refine JT_bipush (v := 60) dX4_init_5 (by decide) ?_
  refine JT_newa_int (mc := 10) (ms := 498) (N := 60) dX4_init_7 aw_int (by rw [hN]; exact BS_175) (by decide) (by decide) (by decide) ?_
  rw [hN]
  rw [show wN m = op1 m (0, 0, 0, 0) from rfl]
  obtain ⟨m1, e1⟩ : ∃ z, z = op1 m (0, 0, 0, 0) := ⟨_, rfl⟩
  rw [← e1]
  have hN1 : mN m1 = 176 := by rw [e1]; show mN m + 1 = _; rw [hN]
  refine JT_putF dX4_init_9 flX4_9 BS_174 (Nat.le_of_ble_eq_true rfl) (by rw [hN1]; decide) (Or.inr ⟨_, ct_4_0⟩) rfl (fun _ h => by cases h; rfl) ?_
  rw [show wR m1 174 0 175 = op1 m1 (1, 174, 0, 175) from rfl]
  obtain ⟨m2, e2⟩ : ∃ z, z = op1 m1 (1, 174, 0, 175) := ⟨_, rfl⟩
  rw [← e2]
  have hN2 : mN m2 = 176 := by rw [e2]; exact hN1
  refine JT_aload_n (q := 0) dX4_init_12 rfl rfl ?_
  refine JT_bipush (v := 60) dX4_init_13 (by decide) ?_
  refine JT_newa_int (mc := 9) (ms := 438) (N := 60) dX4_init_15 aw_int (by rw [hN2]; exact BS_176) (by decide) (by decide) (by decide) ?_
  rw [hN2]
  rw [show wN m2 = op1 m2 (0, 0, 0, 0) from rfl]
  obtain ⟨m3, e3⟩ : ∃ z, z = op1 m2 (0, 0, 0, 0) := ⟨_, rfl⟩
  rw [← e3]
  have hN3 : mN m3 = 177 := by rw [e3]; show mN m2 + 1 = _; rw [hN2]
  refine JT_putF dX4_init_17 flX4_15 BS_174 (Nat.le_of_ble_eq_true rfl) (by rw [hN3]; decide) (Or.inr ⟨_, ct_4_1⟩) rfl (fun _ h => by cases h; rfl) ?_
  rw [show wR m3 174 1 176 = op1 m3 (1, 174, 1, 176) from rfl]
  obtain ⟨m4, e4⟩ : ∃ z, z = op1 m3 (1, 174, 1, 176) := ⟨_, rfl⟩
  rw [← e4]
  have hN4 : mN m4 = 177 := by rw [e4]; exact hN3
  refine JT_aload_n (q := 0) dX4_init_20 rfl rfl ?_
  refine JT_bipush (v := 60) dX4_init_21 (by decide) ?_
  refine JT_newa_int (mc := 8) (ms := 378) (N := 60) dX4_init_23 aw_int (by rw [hN4]; exact BS_177) (by decide) (by decide) (by decide) ?_
  rw [hN4]
  rw [show wN m4 = op1 m4 (0, 0, 0, 0) from rfl]
  obtain ⟨m5, e5⟩ : ∃ z, z = op1 m4 (0, 0, 0, 0) := ⟨_, rfl⟩
  rw [← e5]
  have hN5 : mN m5 = 178 := by rw [e5]; show mN m4 + 1 = _; rw [hN4]
  refine JT_putF dX4_init_25 flX4_18 BS_174 (Nat.le_of_ble_eq_true rfl) (by rw [hN5]; decide) (Or.inr ⟨_, ct_4_2⟩) rfl (fun _ h => by cases h; rfl) ?_
  rw [show wR m5 174 2 177 = op1 m5 (1, 174, 2, 177) from rfl]
  obtain ⟨m6, e6⟩ : ∃ z, z = op1 m5 (1, 174, 2, 177) := ⟨_, rfl⟩
  rw [← e6]
  have hN6 : mN m6 = 178 := by rw [e6]; exact hN5
  refine JT_aload_n (q := 0) dX4_init_28 rfl rfl ?_
  refine JT_bipush (v := 60) dX4_init_29 (by decide) ?_
  refine JT_newa_int (mc := 7) (ms := 318) (N := 60) dX4_init_31 aw_int (by rw [hN6]; exact BS_178) (by decide) (by decide) (by decide) ?_
  rw [hN6]
  rw [show wN m6 = op1 m6 (0, 0, 0, 0) from rfl]
  obtain ⟨m7, e7⟩ : ∃ z, z = op1 m6 (0, 0, 0, 0) := ⟨_, rfl⟩
  rw [← e7]
  have hN7 : mN m7 = 179 := by rw [e7]; show mN m6 + 1 = _; rw [hN6]
  refine JT_putF dX4_init_33 flX4_21 BS_174 (Nat.le_of_ble_eq_true rfl) (by rw [hN7]; decide) (Or.inr ⟨_, ct_4_3⟩) rfl (fun _ h => by cases h; rfl) ?_
  rw [show wR m7 174 3 178 = op1 m7 (1, 174, 3, 178) from rfl]
  obtain ⟨m8, e8⟩ : ∃ z, z = op1 m7 (1, 174, 3, 178) := ⟨_, rfl⟩
  rw [← e8]
  have hN8 : mN m8 = 179 := by rw [e8]; exact hN7
  refine JT_aload_n (q := 0) dX4_init_36 rfl rfl ?_
  refine JT_bipush (v := 60) dX4_init_37 (by decide) ?_
  refine JT_newa_int (mc := 6) (ms := 258) (N := 60) dX4_init_39 aw_int (by rw [hN8]; exact BS_179) (by decide) (by decide) (by decide) ?_
  rw [hN8]
  rw [show wN m8 = op1 m8 (0, 0, 0, 0) from rfl]
  obtain ⟨m9, e9⟩ : ∃ z, z = op1 m8 (0, 0, 0, 0) := ⟨_, rfl⟩
  rw [← e9]
  have hN9 : mN m9 = 180 := by rw [e9]; show mN m8 + 1 = _; rw [hN8]
  refine JT_putF dX4_init_41 flX4_24 BS_174 (Nat.le_of_ble_eq_true rfl) (by rw [hN9]; decide) (Or.inr ⟨_, ct_4_4⟩) rfl (fun _ h => by cases h; rfl) ?_
  rw [show wR m9 174 4 179 = op1 m9 (1, 174, 4, 179) from rfl]
  obtain ⟨m10, e10⟩ : ∃ z, z = op1 m9 (1, 174, 4, 179) := ⟨_, rfl⟩
  rw [← e10]
  have hN10 : mN m10 = 180 := by rw [e10]; exact hN9
  refine JT_aload_n (q := 0) dX4_init_44 rfl rfl ?_
  refine JT_bipush (v := 60) dX4_init_45 (by decide) ?_
  refine JT_newa_int (mc := 5) (ms := 198) (N := 60) dX4_init_47 aw_int (by rw [hN10]; exact BS_180) (by decide) (by decide) (by decide) ?_
  rw [hN10]
  rw [show wN m10 = op1 m10 (0, 0, 0, 0) from rfl]
  obtain ⟨m11, e11⟩ : ∃ z, z = op1 m10 (0, 0, 0, 0) := ⟨_, rfl⟩
  rw [← e11]
  have hN11 : mN m11 = 181 := by rw [e11]; show mN m10 + 1 = _; rw [hN10]
  refine JT_putF dX4_init_49 flX4_27 BS_174 (Nat.le_of_ble_eq_true rfl) (by rw [hN11]; decide) (Or.inr ⟨_, ct_4_5⟩) rfl (fun _ h => by cases h; rfl) ?_
  rw [show wR m11 174 5 180 = op1 m11 (1, 174, 5, 180) from rfl]
  obtain ⟨m12, e12⟩ : ∃ z, z = op1 m11 (1, 174, 5, 180) := ⟨_, rfl⟩
  rw [← e12]
  have hN12 : mN m12 = 181 := by rw [e12]; exact hN11
  refine JT_aload_n (q := 0) dX4_init_52 rfl rfl ?_
  refine JT_bipush (v := 9) dX4_init_53 (by decide) ?_
  refine JT_newa_int (mc := 4) (ms := 189) (N := 9) dX4_init_55 aw_int (by rw [hN12]; exact BS_181) (by decide) (by decide) (by decide) ?_
  rw [hN12]
  rw [show wN m12 = op1 m12 (0, 0, 0, 0) from rfl]
  obtain ⟨m13, e13⟩ : ∃ z, z = op1 m12 (0, 0, 0, 0) := ⟨_, rfl⟩
  rw [← e13]
  have hN13 : mN m13 = 182 := by rw [e13]; show mN m12 + 1 = _; rw [hN12]
  refine JT_putF dX4_init_57 flX4_30 BS_174 (Nat.le_of_ble_eq_true rfl) (by rw [hN13]; decide) (Or.inr ⟨_, ct_4_6⟩) rfl (fun _ h => by cases h; rfl) ?_
  rw [show wR m13 174 6 181 = op1 m13 (1, 174, 6, 181) from rfl]
  obtain ⟨m14, e14⟩ : ∃ z, z = op1 m13 (1, 174, 6, 181) := ⟨_, rfl⟩
  rw [← e14]
  have hN14 : mN m14 = 182 := by rw [e14]; exact hN13
  refine JT_aload_n (q := 0) dX4_init_60 rfl rfl ?_
  refine JT_bipush (v := 9) dX4_init_61 (by decide) ?_
  refine JT_newa_int (mc := 3) (ms := 180) (N := 9) dX4_init_63 aw_int (by rw [hN14]; exact BS_182) (by decide) (by decide) (by decide) ?_
  rw [hN14]
  rw [show wN m14 = op1 m14 (0, 0, 0, 0) from rfl]
  obtain ⟨m15, e15⟩ : ∃ z, z = op1 m14 (0, 0, 0, 0) := ⟨_, rfl⟩
  rw [← e15]
  have hN15 : mN m15 = 183 := by rw [e15]; show mN m14 + 1 = _; rw [hN14]
  refine JT_putF dX4_init_65 flX4_33 BS_174 (Nat.le_of_ble_eq_true rfl) (by rw [hN15]; decide) (Or.inr ⟨_, ct_4_7⟩) rfl (fun _ h => by cases h; rfl) ?_
  rw [show wR m15 174 7 182 = op1 m15 (1, 174, 7, 182) from rfl]
  obtain ⟨m16, e16⟩ : ∃ z, z = op1 m15 (1, 174, 7, 182) := ⟨_, rfl⟩
  rw [← e16]
  have hN16 : mN m16 = 183 := by rw [e16]; exact hN15
  refine JT_aload_n (q := 0) dX4_init_68 rfl rfl ?_
  refine JT_bipush (v := 60) dX4_init_69 (by decide) ?_
  refine JT_newa_int (mc := 2) (ms := 120) (N := 60) dX4_init_71 aw_int (by rw [hN16]; exact BS_183) (by decide) (by decide) (by decide) ?_
  rw [hN16]
  rw [show wN m16 = op1 m16 (0, 0, 0, 0) from rfl]
  obtain ⟨m17, e17⟩ : ∃ z, z = op1 m16 (0, 0, 0, 0) := ⟨_, rfl⟩
  rw [← e17]
  have hN17 : mN m17 = 184 := by rw [e17]; show mN m16 + 1 = _; rw [hN16]
  refine JT_putF dX4_init_73 flX4_36 BS_174 (Nat.le_of_ble_eq_true rfl) (by rw [hN17]; decide) (Or.inr ⟨_, ct_4_11⟩) rfl (fun _ h => by cases h; rfl) ?_
  rw [show wR m17 174 11 183 = op1 m17 (1, 174, 11, 183) from rfl]
  obtain ⟨m18, e18⟩ : ∃ z, z = op1 m17 (1, 174, 11, 183) := ⟨_, rfl⟩
  rw [← e18]
  have hN18 : mN m18 = 184 := by rw [e18]; exact hN17
  refine JT_aload_n (q := 0) dX4_init_76 rfl rfl ?_
  refine JT_bipush (v := 60) dX4_init_77 (by decide) ?_
  refine JT_newa_int (mc := 1) (ms := 60) (N := 60) dX4_init_79 aw_int (by rw [hN18]; exact BS_184) (by decide) (by decide) (by decide) ?_
  rw [hN18]
  rw [show wN m18 = op1 m18 (0, 0, 0, 0) from rfl]
  obtain ⟨m19, e19⟩ : ∃ z, z = op1 m18 (0, 0, 0, 0) := ⟨_, rfl⟩
  rw [← e19]
  have hN19 : mN m19 = 185 := by rw [e19]; show mN m18 + 1 = _; rw [hN18]
  refine JT_putF dX4_init_81 flX4_39 BS_174 (Nat.le_of_ble_eq_true rfl) (by rw [hN19]; decide) (Or.inr ⟨_, ct_4_12⟩) rfl (fun _ h => by cases h; rfl) ?_
  rw [show wR m19 174 12 184 = op1 m19 (1, 174, 12, 184) from rfl]
  obtain ⟨m20, e20⟩ : ∃ z, z = op1 m19 (1, 174, 12, 184) := ⟨_, rfl⟩
  rw [← e20]
  have hN20 : mN m20 = 185 := by rw [e20]; exact hN19
  refine JT_aload_n (q := 0) dX4_init_84 rfl rfl ?_
  refine JT_bipush (v := 60) dX4_init_85 (by decide) ?_
  refine JT_newa_int (mc := 0) (ms := 0) (N := 60) dX4_init_87 aw_int (by rw [hN20]; exact BS_185) (by decide) (by decide) (by decide) ?_
  rw [hN20]
  rw [show wN m20 = op1 m20 (0, 0, 0, 0) from rfl]
  obtain ⟨m21, e21⟩ : ∃ z, z = op1 m20 (0, 0, 0, 0) := ⟨_, rfl⟩
  rw [← e21]
  have hN21 : mN m21 = 186 := by rw [e21]; show mN m20 + 1 = _; rw [hN20]
  refine JT_putF dX4_init_89 flX4_42 BS_174 (Nat.le_of_ble_eq_true rfl) (by rw [hN21]; decide) (Or.inr ⟨_, ct_4_13⟩) rfl (fun _ h => by cases h; rfl) ?_
  rw [show wR m21 174 13 185 = op1 m21 (1, 174, 13, 185) from rfl]
  obtain ⟨m22, e22⟩ : ∃ z, z = op1 m21 (1, 174, 13, 185) := ⟨_, rfl⟩
  rw [← e22]
  have hN22 : mN m22 = 186 := by rw [e22]; exact hN21
  refine JT_aload_n (q := 0) dX4_init_92 rfl rfl ?_
  refine JT_aload_n (q := 1) dX4_init_93 rfl rfl ?_
  refine JT_putF dX4_init_94 flX4_45 BS_174 (Nat.le_of_ble_eq_true rfl) (by rw [hN22]; decide) (Or.inl ⟨_, ct_4_8⟩) rfl (fun _ h => by cases h; rfl) ?_
  rw [show wR m22 174 8 167 = op1 m22 (1, 174, 8, 167) from rfl]
  obtain ⟨m23, e23⟩ : ∃ z, z = op1 m22 (1, 174, 8, 167) := ⟨_, rfl⟩
  rw [← e23]
  have hN23 : mN m23 = 186 := by rw [e23]; exact hN22
  refine JT_vret (st := []) dX4_init_97 rfl ⟨trivial, rfl, ?_⟩
  rw [e23, e22, e21, e20, e19, e18, e17, e16, e15, e14, e13, e12, e11, e10, e9, e8, e7, e6, e5, e4, e3, e2, e1]
  simp only [kX4_init_174o, List.foldl_append, List.foldl_cons, List.foldl_nil]
set_option maxRecDepth 1000000 in
def kX0_init_186o : List OpT := [(0, 0, 0, 0), (1, 186, 1, 187), (0, 0, 0, 0), (1, 186, 2, 188), (0, 0, 0, 0), (1, 186, 3, 189), (0, 0, 0, 0), (1, 186, 4, 190), (0, 0, 0, 0), (1, 186, 5, 191)]
set_option maxRecDepth 1000000 in
theorem kX0_init_186 (m : JMem) (hN : mN m = 187) : JC MX0_init 1 5 200 [.ref 186] m (fun v m1 => v = none ∧ m1 = List.foldl op1 m kX0_init_186o) := by
  show JT MX0_init 1 5 200 0 [(0, .ref 186)] [] m _
  refine JT_aload_n (q := 0) dX0_init_0 rfl rfl ?_
  refine JT_obj (d2 := 0) dX0_init_1 mlX0_3 (Nat.le_of_ble_eq_true rfl) rfl ?_
  refine JT_aload_n (q := 0) dX0_init_4 rfl rfl ?_
  refine JT_bipush (v := 40) dX0_init_5 (by decide) ?_
  refine JT_newa_int (mc := 4) (ms := 160) (N := 40) dX0_init_7 aw_int (by rw [hN]; exact BS_187) (by decide) (by decide) (by decide) ?_
  rw [hN]
  rw [show wN m = op1 m (0, 0, 0, 0) from rfl]
  obtain ⟨m1, e1⟩ : ∃ z, z = op1 m (0, 0, 0, 0) := ⟨_, rfl⟩
  rw [← e1]
  have hN1 : mN m1 = 188 := by rw [e1]; show mN m + 1 = _; rw [hN]
  refine JT_putF dX0_init_9 flX0_9 BS_186 (Nat.le_of_ble_eq_true rfl) (by rw [hN1]; decide) (Or.inr ⟨_, ct_0_1⟩) rfl (fun _ h => by cases h; rfl) ?_
  rw [show wR m1 186 1 187 = op1 m1 (1, 186, 1, 187) from rfl]
  obtain ⟨m2, e2⟩ : ∃ z, z = op1 m1 (1, 186, 1, 187) := ⟨_, rfl⟩
  rw [← e2]
  have hN2 : mN m2 = 188 := by rw [e2]; exact hN1
  refine JT_aload_n (q := 0) dX0_init_12 rfl rfl ?_
  refine JT_bipush (v := 40) dX0_init_13 (by decide) ?_
  refine JT_newa_int (mc := 3) (ms := 120) (N := 40) dX0_init_15 aw_int (by rw [hN2]; exact BS_188) (by decide) (by decide) (by decide) ?_
  rw [hN2]
  rw [show wN m2 = op1 m2 (0, 0, 0, 0) from rfl]
  obtain ⟨m3, e3⟩ : ∃ z, z = op1 m2 (0, 0, 0, 0) := ⟨_, rfl⟩
  rw [← e3]
  have hN3 : mN m3 = 189 := by rw [e3]; show mN m2 + 1 = _; rw [hN2]
  refine JT_putF dX0_init_17 flX0_15 BS_186 (Nat.le_of_ble_eq_true rfl) (by rw [hN3]; decide) (Or.inr ⟨_, ct_0_2⟩) rfl (fun _ h => by cases h; rfl) ?_
  rw [show wR m3 186 2 188 = op1 m3 (1, 186, 2, 188) from rfl]
  obtain ⟨m4, e4⟩ : ∃ z, z = op1 m3 (1, 186, 2, 188) := ⟨_, rfl⟩
  rw [← e4]
  have hN4 : mN m4 = 189 := by rw [e4]; exact hN3
  refine JT_aload_n (q := 0) dX0_init_20 rfl rfl ?_
  refine JT_bipush (v := 40) dX0_init_21 (by decide) ?_
  refine JT_newa_int (mc := 2) (ms := 80) (N := 40) dX0_init_23 aw_int (by rw [hN4]; exact BS_189) (by decide) (by decide) (by decide) ?_
  rw [hN4]
  rw [show wN m4 = op1 m4 (0, 0, 0, 0) from rfl]
  obtain ⟨m5, e5⟩ : ∃ z, z = op1 m4 (0, 0, 0, 0) := ⟨_, rfl⟩
  rw [← e5]
  have hN5 : mN m5 = 190 := by rw [e5]; show mN m4 + 1 = _; rw [hN4]
  refine JT_putF dX0_init_25 flX0_18 BS_186 (Nat.le_of_ble_eq_true rfl) (by rw [hN5]; decide) (Or.inr ⟨_, ct_0_3⟩) rfl (fun _ h => by cases h; rfl) ?_
  rw [show wR m5 186 3 189 = op1 m5 (1, 186, 3, 189) from rfl]
  obtain ⟨m6, e6⟩ : ∃ z, z = op1 m5 (1, 186, 3, 189) := ⟨_, rfl⟩
  rw [← e6]
  have hN6 : mN m6 = 190 := by rw [e6]; exact hN5
  refine JT_aload_n (q := 0) dX0_init_28 rfl rfl ?_
  refine JT_bipush (v := 40) dX0_init_29 (by decide) ?_
  refine JT_newa_int (mc := 1) (ms := 40) (N := 40) dX0_init_31 aw_int (by rw [hN6]; exact BS_190) (by decide) (by decide) (by decide) ?_
  rw [hN6]
  rw [show wN m6 = op1 m6 (0, 0, 0, 0) from rfl]
  obtain ⟨m7, e7⟩ : ∃ z, z = op1 m6 (0, 0, 0, 0) := ⟨_, rfl⟩
  rw [← e7]
  have hN7 : mN m7 = 191 := by rw [e7]; show mN m6 + 1 = _; rw [hN6]
  refine JT_putF dX0_init_33 flX0_21 BS_186 (Nat.le_of_ble_eq_true rfl) (by rw [hN7]; decide) (Or.inr ⟨_, ct_0_4⟩) rfl (fun _ h => by cases h; rfl) ?_
  rw [show wR m7 186 4 190 = op1 m7 (1, 186, 4, 190) from rfl]
  obtain ⟨m8, e8⟩ : ∃ z, z = op1 m7 (1, 186, 4, 190) := ⟨_, rfl⟩
  rw [← e8]
  have hN8 : mN m8 = 191 := by rw [e8]; exact hN7
  refine JT_aload_n (q := 0) dX0_init_36 rfl rfl ?_
  refine JT_bipush (v := 40) dX0_init_37 (by decide) ?_
  refine JT_newa_int (mc := 0) (ms := 0) (N := 40) dX0_init_39 aw_int (by rw [hN8]; exact BS_191) (by decide) (by decide) (by decide) ?_
  rw [hN8]
  rw [show wN m8 = op1 m8 (0, 0, 0, 0) from rfl]
  obtain ⟨m9, e9⟩ : ∃ z, z = op1 m8 (0, 0, 0, 0) := ⟨_, rfl⟩
  rw [← e9]
  have hN9 : mN m9 = 192 := by rw [e9]; show mN m8 + 1 = _; rw [hN8]
  refine JT_putF dX0_init_41 flX0_24 BS_186 (Nat.le_of_ble_eq_true rfl) (by rw [hN9]; decide) (Or.inr ⟨_, ct_0_5⟩) rfl (fun _ h => by cases h; rfl) ?_
  rw [show wR m9 186 5 191 = op1 m9 (1, 186, 5, 191) from rfl]
  obtain ⟨m10, e10⟩ : ∃ z, z = op1 m9 (1, 186, 5, 191) := ⟨_, rfl⟩
  rw [← e10]
  have hN10 : mN m10 = 192 := by rw [e10]; exact hN9
  refine JT_vret (st := []) dX0_init_44 rfl ⟨trivial, rfl, ?_⟩
  rw [e10, e9, e8, e7, e6, e5, e4, e3, e2, e1]
  simp only [kX0_init_186o, List.foldl_append, List.foldl_cons, List.foldl_nil]
set_option maxRecDepth 1000000 in
def kX3_init_166o : List OpT := [(0, 0, 0, 0)] ++ (kX6_init_167o ++ ([(1, 166, 1, 167), (0, 0, 0, 0)] ++ (kX4_init_174o ++ ([(1, 166, 2, 174), (0, 0, 0, 0)] ++ (kX0_init_186o ++ ([(1, 166, 3, 186)]))))))
set_option maxRecDepth 1000000 in
theorem kX3_init_166 (m : JMem) (hN : mN m = 167) : JC MX3_init 2 25 838 [.ref 166] m (fun v m1 => v = none ∧ m1 = List.foldl op1 m kX3_init_166o) := by
  show JT MX3_init 2 25 838 0 [(0, .ref 166)] [] m _
  refine JT_aload_n (q := 0) dX3_init_0 rfl rfl ?_
  refine JT_obj (d2 := 1) dX3_init_1 mlX3_1 (Nat.le_of_ble_eq_true rfl) rfl ?_
  refine JT_aload_n (q := 0) dX3_init_4 rfl rfl ?_
  refine JT_new (mc := 24) (ms := 824) (N := 14) dX3_init_5 clX3_7 (by rw [hN]; exact BS_167) ?_
  rw [hN]
  rw [show wN m = op1 m (0, 0, 0, 0) from rfl]
  obtain ⟨m1, e1⟩ : ∃ z, z = op1 m (0, 0, 0, 0) := ⟨_, rfl⟩
  rw [← e1]
  have hN1 : mN m1 = 168 := by rw [e1]; show mN m + 1 = _; rw [hN]
  refine JT_dup dX3_init_8 rfl ?_
  refine JT_callIN (d := 1) (mc1 := 6) (ms1 := 45) (mc := 18) (ms := 779) (As := []) (rest := [.ref 167, .ref 166]) dX3_init_9 cvX3_9 okX6_init rfl (Nat.le_of_ble_eq_true rfl) BS_167 (Nat.le_of_ble_eq_true rfl) (by rw [hN1]; decide) hci_6 rfl (Nat.le_of_ble_eq_true rfl) (JT_room (d2 := 1) (kX6_init_167 m1 hN1) (Nat.le_of_ble_eq_true rfl) (Nat.le_refl _) (Nat.le_refl _)) (fun v mz hq => ?_)
  obtain ⟨rfl, rfl⟩ := hq
  show JT _ _ _ _ _ _ [.ref 167, .ref 166] _ _
  obtain ⟨m2, e2⟩ : ∃ z, z = List.foldl op1 m1 kX6_init_167o := ⟨_, rfl⟩
  rw [← e2]
  have hN2 : mN m2 = 174 := by rw [e2, mN_fold, hN1]; rfl
  refine JT_putF dX3_init_12 flX3_10 BS_166 (Nat.le_of_ble_eq_true rfl) (by rw [hN2]; decide) (Or.inl ⟨_, ct_3_1⟩) rfl (fun _ h => by cases h; rfl) ?_
  rw [show wR m2 166 1 167 = op1 m2 (1, 166, 1, 167) from rfl]
  obtain ⟨m3, e3⟩ : ∃ z, z = op1 m2 (1, 166, 1, 167) := ⟨_, rfl⟩
  rw [← e3]
  have hN3 : mN m3 = 174 := by rw [e3]; exact hN2
  have r3_166_1 : mR m3 166 1 = some 167 := by rw [e3]; show mR (wR m2 166 1 167) _ _ = _; rw [mR_wR, if_pos ⟨rfl, rfl⟩]
  refine JT_aload_n (q := 0) dX3_init_15 rfl rfl ?_
  refine JT_new (mc := 17) (ms := 764) (N := 15) dX3_init_16 clX3_16 (by rw [hN3]; exact BS_174) ?_
  rw [hN3]
  rw [show wN m3 = op1 m3 (0, 0, 0, 0) from rfl]
  obtain ⟨m4, e4⟩ : ∃ z, z = op1 m3 (0, 0, 0, 0) := ⟨_, rfl⟩
  rw [← e4]
  have hN4 : mN m4 = 175 := by rw [e4]; show mN m3 + 1 = _; rw [hN3]
  have r4_166_1 : mR m4 166 1 = some 167 := by rw [e4]; exact r3_166_1
  refine JT_dup dX3_init_19 rfl ?_
  refine JT_aload_n (q := 0) dX3_init_20 rfl rfl ?_
  refine JT_getR (x := 167) dX3_init_21 flX3_10 BS_166 (Nat.le_of_ble_eq_true rfl) (by rw [hN4]; decide) (Or.inl ⟨_, ct_3_1⟩) r4_166_1 ?_
  refine JT_callI (d := 1) (mc1 := 11) (ms1 := 558) (mc := 6) (ms := 206) (As := [.ref 167]) (rest := [.ref 174, .ref 166]) dX3_init_24 cvX3_18 okX4_init rfl (Nat.le_of_ble_eq_true rfl) BS_174 (Nat.le_of_ble_eq_true rfl) (by rw [hN4]; decide) hci_4 rfl (Nat.le_of_ble_eq_true rfl) (JT_room (d2 := 1) (kX4_init_174 m4 hN4) (Nat.le_of_ble_eq_true rfl) (Nat.le_refl _) (Nat.le_refl _)) (fun v mz hq => ?_)
  obtain ⟨rfl, rfl⟩ := hq
  show JT _ _ _ _ _ _ [.ref 174, .ref 166] _ _
  obtain ⟨m5, e5⟩ : ∃ z, z = List.foldl op1 m4 kX4_init_174o := ⟨_, rfl⟩
  rw [← e5]
  have hN5 : mN m5 = 186 := by rw [e5, mN_fold, hN4]; rfl
  have r5_166_1 : mR m5 166 1 = some 167 := by rw [e5]; exact (mR_fold _ _ 166 rfl _).trans r4_166_1
  refine JT_putF dX3_init_27 flX3_21 BS_166 (Nat.le_of_ble_eq_true rfl) (by rw [hN5]; decide) (Or.inl ⟨_, ct_3_2⟩) rfl (fun _ h => by cases h; rfl) ?_
  rw [show wR m5 166 2 174 = op1 m5 (1, 166, 2, 174) from rfl]
  obtain ⟨m6, e6⟩ : ∃ z, z = op1 m5 (1, 166, 2, 174) := ⟨_, rfl⟩
  rw [← e6]
  have hN6 : mN m6 = 186 := by rw [e6]; exact hN5
  have r6_166_1 : mR m6 166 1 = some 167 := by rw [e6]; show mR (wR m5 166 2 174) _ _ = _; rw [mR_wR, if_neg (by decide)]; exact r5_166_1
  refine JT_aload_n (q := 0) dX3_init_30 rfl rfl ?_
  refine JT_new (mc := 5) (ms := 200) (N := 6) dX3_init_31 clX3_25 (by rw [hN6]; exact BS_186) ?_
  rw [hN6]
  rw [show wN m6 = op1 m6 (0, 0, 0, 0) from rfl]
  obtain ⟨m7, e7⟩ : ∃ z, z = op1 m6 (0, 0, 0, 0) := ⟨_, rfl⟩
  rw [← e7]
  have hN7 : mN m7 = 187 := by rw [e7]; show mN m6 + 1 = _; rw [hN6]
  have r7_166_1 : mR m7 166 1 = some 167 := by rw [e7]; exact r6_166_1
  refine JT_dup dX3_init_34 rfl ?_
  refine JT_callIN (d := 1) (mc1 := 5) (ms1 := 200) (mc := 0) (ms := 0) (As := []) (rest := [.ref 186, .ref 166]) dX3_init_35 cvX3_27 okX0_init rfl (Nat.le_of_ble_eq_true rfl) BS_186 (Nat.le_of_ble_eq_true rfl) (by rw [hN7]; decide) hci_0 rfl (Nat.le_of_ble_eq_true rfl) (JT_room (d2 := 1) (kX0_init_186 m7 hN7) (Nat.le_of_ble_eq_true rfl) (Nat.le_refl _) (Nat.le_refl _)) (fun v mz hq => ?_)
  obtain ⟨rfl, rfl⟩ := hq
  show JT _ _ _ _ _ _ [.ref 186, .ref 166] _ _
  obtain ⟨m8, e8⟩ : ∃ z, z = List.foldl op1 m7 kX0_init_186o := ⟨_, rfl⟩
  rw [← e8]
  have hN8 : mN m8 = 192 := by rw [e8, mN_fold, hN7]; rfl
  have r8_166_1 : mR m8 166 1 = some 167 := by rw [e8]; exact (mR_fold _ _ 166 rfl _).trans r7_166_1
  refine JT_putF dX3_init_38 flX3_28 BS_166 (Nat.le_of_ble_eq_true rfl) (by rw [hN8]; decide) (Or.inl ⟨_, ct_3_3⟩) rfl (fun _ h => by cases h; rfl) ?_
  rw [show wR m8 166 3 186 = op1 m8 (1, 166, 3, 186) from rfl]
  obtain ⟨m9, e9⟩ : ∃ z, z = op1 m8 (1, 166, 3, 186) := ⟨_, rfl⟩
  rw [← e9]
  have hN9 : mN m9 = 192 := by rw [e9]; exact hN8
  have r9_166_1 : mR m9 166 1 = some 167 := by rw [e9]; show mR (wR m8 166 3 186) _ _ = _; rw [mR_wR, if_neg (by decide)]; exact r8_166_1
  refine JT_vret (st := []) dX3_init_41 rfl ⟨trivial, rfl, ?_⟩
  rw [e9, e8, e7, e6, e5, e4, e3, e2, e1]
  simp only [kX3_init_166o, List.foldl_append, List.foldl_cons, List.foldl_nil]
set_option maxRecDepth 1000000 in
def kX6_init_193o : List OpT := [(0, 0, 0, 0), (1, 193, 0, 194), (0, 0, 0, 0), (1, 193, 1, 195), (0, 0, 0, 0), (1, 193, 2, 196), (0, 0, 0, 0), (1, 193, 3, 197), (0, 0, 0, 0), (1, 193, 4, 198), (0, 0, 0, 0), (1, 193, 5, 199), (2, 193, 8, 1)]
set_option maxRecDepth 1000000 in
theorem kX6_init_193 (m : JMem) (hN : mN m = 194) : JC MX6_init 1 6 45 [.ref 193] m (fun v m1 => v = none ∧ m1 = List.foldl op1 m kX6_init_193o) := by
  show JT MX6_init 1 6 45 0 [(0, .ref 193)] [] m _
  refine JT_aload_n (q := 0) dX6_init_0 rfl rfl ?_
  refine JT_obj (d2 := 0) dX6_init_1 mlX6_3 (Nat.le_of_ble_eq_true rfl) rfl ?_
  refine JT_aload_n (q := 0) dX6_init_4 rfl rfl ?_
  refine JT_bipush (v := 9) dX6_init_5 (by decide) ?_
  refine JT_newa_long (mc := 5) (ms := 36) (N := 9) dX6_init_7 aw_long (by rw [hN]; exact BS_194) (by decide) (by decide) (by decide) ?_
  rw [hN]
  rw [show wN m = op1 m (0, 0, 0, 0) from rfl]
  obtain ⟨m1, e1⟩ : ∃ z, z = op1 m (0, 0, 0, 0) := ⟨_, rfl⟩
  rw [← e1]
  have hN1 : mN m1 = 195 := by rw [e1]; show mN m + 1 = _; rw [hN]
  refine JT_putF dX6_init_9 flX6_9 BS_193 (Nat.le_of_ble_eq_true rfl) (by rw [hN1]; decide) (Or.inr ⟨_, ct_6_0⟩) rfl (fun _ h => by cases h; rfl) ?_
  rw [show wR m1 193 0 194 = op1 m1 (1, 193, 0, 194) from rfl]
  obtain ⟨m2, e2⟩ : ∃ z, z = op1 m1 (1, 193, 0, 194) := ⟨_, rfl⟩
  rw [← e2]
  have hN2 : mN m2 = 195 := by rw [e2]; exact hN1
  refine JT_aload_n (q := 0) dX6_init_12 rfl rfl ?_
  refine JT_bipush (v := 9) dX6_init_13 (by decide) ?_
  refine JT_newa_int (mc := 4) (ms := 27) (N := 9) dX6_init_15 aw_int (by rw [hN2]; exact BS_195) (by decide) (by decide) (by decide) ?_
  rw [hN2]
  rw [show wN m2 = op1 m2 (0, 0, 0, 0) from rfl]
  obtain ⟨m3, e3⟩ : ∃ z, z = op1 m2 (0, 0, 0, 0) := ⟨_, rfl⟩
  rw [← e3]
  have hN3 : mN m3 = 196 := by rw [e3]; show mN m2 + 1 = _; rw [hN2]
  refine JT_putF dX6_init_17 flX6_15 BS_193 (Nat.le_of_ble_eq_true rfl) (by rw [hN3]; decide) (Or.inr ⟨_, ct_6_1⟩) rfl (fun _ h => by cases h; rfl) ?_
  rw [show wR m3 193 1 195 = op1 m3 (1, 193, 1, 195) from rfl]
  obtain ⟨m4, e4⟩ : ∃ z, z = op1 m3 (1, 193, 1, 195) := ⟨_, rfl⟩
  rw [← e4]
  have hN4 : mN m4 = 196 := by rw [e4]; exact hN3
  refine JT_aload_n (q := 0) dX6_init_20 rfl rfl ?_
  refine JT_bipush (v := 9) dX6_init_21 (by decide) ?_
  refine JT_newa_int (mc := 3) (ms := 18) (N := 9) dX6_init_23 aw_int (by rw [hN4]; exact BS_196) (by decide) (by decide) (by decide) ?_
  rw [hN4]
  rw [show wN m4 = op1 m4 (0, 0, 0, 0) from rfl]
  obtain ⟨m5, e5⟩ : ∃ z, z = op1 m4 (0, 0, 0, 0) := ⟨_, rfl⟩
  rw [← e5]
  have hN5 : mN m5 = 197 := by rw [e5]; show mN m4 + 1 = _; rw [hN4]
  refine JT_putF dX6_init_25 flX6_19 BS_193 (Nat.le_of_ble_eq_true rfl) (by rw [hN5]; decide) (Or.inr ⟨_, ct_6_2⟩) rfl (fun _ h => by cases h; rfl) ?_
  rw [show wR m5 193 2 196 = op1 m5 (1, 193, 2, 196) from rfl]
  obtain ⟨m6, e6⟩ : ∃ z, z = op1 m5 (1, 193, 2, 196) := ⟨_, rfl⟩
  rw [← e6]
  have hN6 : mN m6 = 197 := by rw [e6]; exact hN5
  refine JT_aload_n (q := 0) dX6_init_28 rfl rfl ?_
  refine JT_bipush (v := 6) dX6_init_29 (by decide) ?_
  refine JT_newa_long (mc := 2) (ms := 12) (N := 6) dX6_init_31 aw_long (by rw [hN6]; exact BS_197) (by decide) (by decide) (by decide) ?_
  rw [hN6]
  rw [show wN m6 = op1 m6 (0, 0, 0, 0) from rfl]
  obtain ⟨m7, e7⟩ : ∃ z, z = op1 m6 (0, 0, 0, 0) := ⟨_, rfl⟩
  rw [← e7]
  have hN7 : mN m7 = 198 := by rw [e7]; show mN m6 + 1 = _; rw [hN6]
  refine JT_putF dX6_init_33 flX6_22 BS_193 (Nat.le_of_ble_eq_true rfl) (by rw [hN7]; decide) (Or.inr ⟨_, ct_6_3⟩) rfl (fun _ h => by cases h; rfl) ?_
  rw [show wR m7 193 3 197 = op1 m7 (1, 193, 3, 197) from rfl]
  obtain ⟨m8, e8⟩ : ∃ z, z = op1 m7 (1, 193, 3, 197) := ⟨_, rfl⟩
  rw [← e8]
  have hN8 : mN m8 = 198 := by rw [e8]; exact hN7
  refine JT_aload_n (q := 0) dX6_init_36 rfl rfl ?_
  refine JT_bipush (v := 6) dX6_init_37 (by decide) ?_
  refine JT_newa_int (mc := 1) (ms := 6) (N := 6) dX6_init_39 aw_int (by rw [hN8]; exact BS_198) (by decide) (by decide) (by decide) ?_
  rw [hN8]
  rw [show wN m8 = op1 m8 (0, 0, 0, 0) from rfl]
  obtain ⟨m9, e9⟩ : ∃ z, z = op1 m8 (0, 0, 0, 0) := ⟨_, rfl⟩
  rw [← e9]
  have hN9 : mN m9 = 199 := by rw [e9]; show mN m8 + 1 = _; rw [hN8]
  refine JT_putF dX6_init_41 flX6_25 BS_193 (Nat.le_of_ble_eq_true rfl) (by rw [hN9]; decide) (Or.inr ⟨_, ct_6_4⟩) rfl (fun _ h => by cases h; rfl) ?_
  rw [show wR m9 193 4 198 = op1 m9 (1, 193, 4, 198) from rfl]
  obtain ⟨m10, e10⟩ : ∃ z, z = op1 m9 (1, 193, 4, 198) := ⟨_, rfl⟩
  rw [← e10]
  have hN10 : mN m10 = 199 := by rw [e10]; exact hN9
  refine JT_aload_n (q := 0) dX6_init_44 rfl rfl ?_
  refine JT_bipush (v := 6) dX6_init_45 (by decide) ?_
  refine JT_newa_int (mc := 0) (ms := 0) (N := 6) dX6_init_47 aw_int (by rw [hN10]; exact BS_199) (by decide) (by decide) (by decide) ?_
  rw [hN10]
  rw [show wN m10 = op1 m10 (0, 0, 0, 0) from rfl]
  obtain ⟨m11, e11⟩ : ∃ z, z = op1 m10 (0, 0, 0, 0) := ⟨_, rfl⟩
  rw [← e11]
  have hN11 : mN m11 = 200 := by rw [e11]; show mN m10 + 1 = _; rw [hN10]
  refine JT_putF dX6_init_49 flX6_28 BS_193 (Nat.le_of_ble_eq_true rfl) (by rw [hN11]; decide) (Or.inr ⟨_, ct_6_5⟩) rfl (fun _ h => by cases h; rfl) ?_
  rw [show wR m11 193 5 199 = op1 m11 (1, 193, 5, 199) from rfl]
  obtain ⟨m12, e12⟩ : ∃ z, z = op1 m11 (1, 193, 5, 199) := ⟨_, rfl⟩
  rw [← e12]
  have hN12 : mN m12 = 200 := by rw [e12]; exact hN11
  refine JT_aload_n (q := 0) dX6_init_52 rfl rfl ?_
  refine JT_iconst (v := 1) dX6_init_53 (by decide) ?_
  refine JT_putI dX6_init_54 flX6_31 BS_193 (Nat.le_of_ble_eq_true rfl) (by rw [hN12]; decide) ct_6_8 ?_
  rw [show wI m12 193 8 (1) = op1 m12 (2, 193, 8, 1) from rfl]
  obtain ⟨m13, e13⟩ : ∃ z, z = op1 m12 (2, 193, 8, 1) := ⟨_, rfl⟩
  rw [← e13]
  have hN13 : mN m13 = 200 := by rw [e13]; exact hN12
  refine JT_vret (st := []) dX6_init_57 rfl ⟨trivial, rfl, ?_⟩
  rw [e13, e12, e11, e10, e9, e8, e7, e6, e5, e4, e3, e2, e1]
  simp only [kX6_init_193o, List.foldl_append, List.foldl_cons, List.foldl_nil]
set_option maxRecDepth 1000000 in
def kX4_init_200o : List OpT := [(0, 0, 0, 0), (1, 200, 0, 201), (0, 0, 0, 0), (1, 200, 1, 202), (0, 0, 0, 0), (1, 200, 2, 203), (0, 0, 0, 0), (1, 200, 3, 204), (0, 0, 0, 0), (1, 200, 4, 205), (0, 0, 0, 0), (1, 200, 5, 206), (0, 0, 0, 0), (1, 200, 6, 207), (0, 0, 0, 0), (1, 200, 7, 208), (0, 0, 0, 0), (1, 200, 11, 209), (0, 0, 0, 0), (1, 200, 12, 210), (0, 0, 0, 0), (1, 200, 13, 211), (1, 200, 8, 193)]
set_option maxRecDepth 1000000 in
theorem kX4_init_200 (m : JMem) (hN : mN m = 201) : JC MX4_init 1 11 558 [.ref 200, .ref 193] m (fun v m1 => v = none ∧ m1 = List.foldl op1 m kX4_init_200o) := by
  show JT MX4_init 1 11 558 0 [(0, .ref 200), (1, .ref 193)] [] m _
  refine JT_aload_n (q := 0) dX4_init_0 rfl rfl ?_
  refine JT_obj (d2 := 0) dX4_init_1 mlX4_3 (Nat.le_of_ble_eq_true rfl) rfl ?_
  refine JT_aload_n (q := 0) dX4_init_4 rfl rfl ?_
  refine JT_bipush (v := 60) dX4_init_5 (by decide) ?_
  refine JT_newa_int (mc := 10) (ms := 498) (N := 60) dX4_init_7 aw_int (by rw [hN]; exact BS_201) (by decide) (by decide) (by decide) ?_
  rw [hN]
  rw [show wN m = op1 m (0, 0, 0, 0) from rfl]
  obtain ⟨m1, e1⟩ : ∃ z, z = op1 m (0, 0, 0, 0) := ⟨_, rfl⟩
  rw [← e1]
  have hN1 : mN m1 = 202 := by rw [e1]; show mN m + 1 = _; rw [hN]
  refine JT_putF dX4_init_9 flX4_9 BS_200 (Nat.le_of_ble_eq_true rfl) (by rw [hN1]; decide) (Or.inr ⟨_, ct_4_0⟩) rfl (fun _ h => by cases h; rfl) ?_
  rw [show wR m1 200 0 201 = op1 m1 (1, 200, 0, 201) from rfl]
  obtain ⟨m2, e2⟩ : ∃ z, z = op1 m1 (1, 200, 0, 201) := ⟨_, rfl⟩
  rw [← e2]
  have hN2 : mN m2 = 202 := by rw [e2]; exact hN1
  refine JT_aload_n (q := 0) dX4_init_12 rfl rfl ?_
  refine JT_bipush (v := 60) dX4_init_13 (by decide) ?_
  refine JT_newa_int (mc := 9) (ms := 438) (N := 60) dX4_init_15 aw_int (by rw [hN2]; exact BS_202) (by decide) (by decide) (by decide) ?_
  rw [hN2]
  rw [show wN m2 = op1 m2 (0, 0, 0, 0) from rfl]
  obtain ⟨m3, e3⟩ : ∃ z, z = op1 m2 (0, 0, 0, 0) := ⟨_, rfl⟩
  rw [← e3]
  have hN3 : mN m3 = 203 := by rw [e3]; show mN m2 + 1 = _; rw [hN2]
  refine JT_putF dX4_init_17 flX4_15 BS_200 (Nat.le_of_ble_eq_true rfl) (by rw [hN3]; decide) (Or.inr ⟨_, ct_4_1⟩) rfl (fun _ h => by cases h; rfl) ?_
  rw [show wR m3 200 1 202 = op1 m3 (1, 200, 1, 202) from rfl]
  obtain ⟨m4, e4⟩ : ∃ z, z = op1 m3 (1, 200, 1, 202) := ⟨_, rfl⟩
  rw [← e4]
  have hN4 : mN m4 = 203 := by rw [e4]; exact hN3
  refine JT_aload_n (q := 0) dX4_init_20 rfl rfl ?_
  refine JT_bipush (v := 60) dX4_init_21 (by decide) ?_
  refine JT_newa_int (mc := 8) (ms := 378) (N := 60) dX4_init_23 aw_int (by rw [hN4]; exact BS_203) (by decide) (by decide) (by decide) ?_
  rw [hN4]
  rw [show wN m4 = op1 m4 (0, 0, 0, 0) from rfl]
  obtain ⟨m5, e5⟩ : ∃ z, z = op1 m4 (0, 0, 0, 0) := ⟨_, rfl⟩
  rw [← e5]
  have hN5 : mN m5 = 204 := by rw [e5]; show mN m4 + 1 = _; rw [hN4]
  refine JT_putF dX4_init_25 flX4_18 BS_200 (Nat.le_of_ble_eq_true rfl) (by rw [hN5]; decide) (Or.inr ⟨_, ct_4_2⟩) rfl (fun _ h => by cases h; rfl) ?_
  rw [show wR m5 200 2 203 = op1 m5 (1, 200, 2, 203) from rfl]
  obtain ⟨m6, e6⟩ : ∃ z, z = op1 m5 (1, 200, 2, 203) := ⟨_, rfl⟩
  rw [← e6]
  have hN6 : mN m6 = 204 := by rw [e6]; exact hN5
  refine JT_aload_n (q := 0) dX4_init_28 rfl rfl ?_
  refine JT_bipush (v := 60) dX4_init_29 (by decide) ?_
  refine JT_newa_int (mc := 7) (ms := 318) (N := 60) dX4_init_31 aw_int (by rw [hN6]; exact BS_204) (by decide) (by decide) (by decide) ?_
  rw [hN6]
  rw [show wN m6 = op1 m6 (0, 0, 0, 0) from rfl]
  obtain ⟨m7, e7⟩ : ∃ z, z = op1 m6 (0, 0, 0, 0) := ⟨_, rfl⟩
  rw [← e7]
  have hN7 : mN m7 = 205 := by rw [e7]; show mN m6 + 1 = _; rw [hN6]
  refine JT_putF dX4_init_33 flX4_21 BS_200 (Nat.le_of_ble_eq_true rfl) (by rw [hN7]; decide) (Or.inr ⟨_, ct_4_3⟩) rfl (fun _ h => by cases h; rfl) ?_
  rw [show wR m7 200 3 204 = op1 m7 (1, 200, 3, 204) from rfl]
  obtain ⟨m8, e8⟩ : ∃ z, z = op1 m7 (1, 200, 3, 204) := ⟨_, rfl⟩
  rw [← e8]
  have hN8 : mN m8 = 205 := by rw [e8]; exact hN7
  refine JT_aload_n (q := 0) dX4_init_36 rfl rfl ?_
  refine JT_bipush (v := 60) dX4_init_37 (by decide) ?_
  refine JT_newa_int (mc := 6) (ms := 258) (N := 60) dX4_init_39 aw_int (by rw [hN8]; exact BS_205) (by decide) (by decide) (by decide) ?_
  rw [hN8]
  rw [show wN m8 = op1 m8 (0, 0, 0, 0) from rfl]
  obtain ⟨m9, e9⟩ : ∃ z, z = op1 m8 (0, 0, 0, 0) := ⟨_, rfl⟩
  rw [← e9]
  have hN9 : mN m9 = 206 := by rw [e9]; show mN m8 + 1 = _; rw [hN8]
  refine JT_putF dX4_init_41 flX4_24 BS_200 (Nat.le_of_ble_eq_true rfl) (by rw [hN9]; decide) (Or.inr ⟨_, ct_4_4⟩) rfl (fun _ h => by cases h; rfl) ?_
  rw [show wR m9 200 4 205 = op1 m9 (1, 200, 4, 205) from rfl]
  obtain ⟨m10, e10⟩ : ∃ z, z = op1 m9 (1, 200, 4, 205) := ⟨_, rfl⟩
  rw [← e10]
  have hN10 : mN m10 = 206 := by rw [e10]; exact hN9
  refine JT_aload_n (q := 0) dX4_init_44 rfl rfl ?_
  refine JT_bipush (v := 60) dX4_init_45 (by decide) ?_
  refine JT_newa_int (mc := 5) (ms := 198) (N := 60) dX4_init_47 aw_int (by rw [hN10]; exact BS_206) (by decide) (by decide) (by decide) ?_
  rw [hN10]
  rw [show wN m10 = op1 m10 (0, 0, 0, 0) from rfl]
  obtain ⟨m11, e11⟩ : ∃ z, z = op1 m10 (0, 0, 0, 0) := ⟨_, rfl⟩
  rw [← e11]
  have hN11 : mN m11 = 207 := by rw [e11]; show mN m10 + 1 = _; rw [hN10]
  refine JT_putF dX4_init_49 flX4_27 BS_200 (Nat.le_of_ble_eq_true rfl) (by rw [hN11]; decide) (Or.inr ⟨_, ct_4_5⟩) rfl (fun _ h => by cases h; rfl) ?_
  rw [show wR m11 200 5 206 = op1 m11 (1, 200, 5, 206) from rfl]
  obtain ⟨m12, e12⟩ : ∃ z, z = op1 m11 (1, 200, 5, 206) := ⟨_, rfl⟩
  rw [← e12]
  have hN12 : mN m12 = 207 := by rw [e12]; exact hN11
  refine JT_aload_n (q := 0) dX4_init_52 rfl rfl ?_
  refine JT_bipush (v := 9) dX4_init_53 (by decide) ?_
  refine JT_newa_int (mc := 4) (ms := 189) (N := 9) dX4_init_55 aw_int (by rw [hN12]; exact BS_207) (by decide) (by decide) (by decide) ?_
  rw [hN12]
  rw [show wN m12 = op1 m12 (0, 0, 0, 0) from rfl]
  obtain ⟨m13, e13⟩ : ∃ z, z = op1 m12 (0, 0, 0, 0) := ⟨_, rfl⟩
  rw [← e13]
  have hN13 : mN m13 = 208 := by rw [e13]; show mN m12 + 1 = _; rw [hN12]
  refine JT_putF dX4_init_57 flX4_30 BS_200 (Nat.le_of_ble_eq_true rfl) (by rw [hN13]; decide) (Or.inr ⟨_, ct_4_6⟩) rfl (fun _ h => by cases h; rfl) ?_
  rw [show wR m13 200 6 207 = op1 m13 (1, 200, 6, 207) from rfl]
  obtain ⟨m14, e14⟩ : ∃ z, z = op1 m13 (1, 200, 6, 207) := ⟨_, rfl⟩
  rw [← e14]
  have hN14 : mN m14 = 208 := by rw [e14]; exact hN13
  refine JT_aload_n (q := 0) dX4_init_60 rfl rfl ?_
  refine JT_bipush (v := 9) dX4_init_61 (by decide) ?_
  refine JT_newa_int (mc := 3) (ms := 180) (N := 9) dX4_init_63 aw_int (by rw [hN14]; exact BS_208) (by decide) (by decide) (by decide) ?_
  rw [hN14]
  rw [show wN m14 = op1 m14 (0, 0, 0, 0) from rfl]
  obtain ⟨m15, e15⟩ : ∃ z, z = op1 m14 (0, 0, 0, 0) := ⟨_, rfl⟩
  rw [← e15]
  have hN15 : mN m15 = 209 := by rw [e15]; show mN m14 + 1 = _; rw [hN14]
  refine JT_putF dX4_init_65 flX4_33 BS_200 (Nat.le_of_ble_eq_true rfl) (by rw [hN15]; decide) (Or.inr ⟨_, ct_4_7⟩) rfl (fun _ h => by cases h; rfl) ?_
  rw [show wR m15 200 7 208 = op1 m15 (1, 200, 7, 208) from rfl]
  obtain ⟨m16, e16⟩ : ∃ z, z = op1 m15 (1, 200, 7, 208) := ⟨_, rfl⟩
  rw [← e16]
  have hN16 : mN m16 = 209 := by rw [e16]; exact hN15
  refine JT_aload_n (q := 0) dX4_init_68 rfl rfl ?_
  refine JT_bipush (v := 60) dX4_init_69 (by decide) ?_
  refine JT_newa_int (mc := 2) (ms := 120) (N := 60) dX4_init_71 aw_int (by rw [hN16]; exact BS_209) (by decide) (by decide) (by decide) ?_
  rw [hN16]
  rw [show wN m16 = op1 m16 (0, 0, 0, 0) from rfl]
  obtain ⟨m17, e17⟩ : ∃ z, z = op1 m16 (0, 0, 0, 0) := ⟨_, rfl⟩
  rw [← e17]
  have hN17 : mN m17 = 210 := by rw [e17]; show mN m16 + 1 = _; rw [hN16]
  refine JT_putF dX4_init_73 flX4_36 BS_200 (Nat.le_of_ble_eq_true rfl) (by rw [hN17]; decide) (Or.inr ⟨_, ct_4_11⟩) rfl (fun _ h => by cases h; rfl) ?_
  rw [show wR m17 200 11 209 = op1 m17 (1, 200, 11, 209) from rfl]
  obtain ⟨m18, e18⟩ : ∃ z, z = op1 m17 (1, 200, 11, 209) := ⟨_, rfl⟩
  rw [← e18]
  have hN18 : mN m18 = 210 := by rw [e18]; exact hN17
  refine JT_aload_n (q := 0) dX4_init_76 rfl rfl ?_
  refine JT_bipush (v := 60) dX4_init_77 (by decide) ?_
  refine JT_newa_int (mc := 1) (ms := 60) (N := 60) dX4_init_79 aw_int (by rw [hN18]; exact BS_210) (by decide) (by decide) (by decide) ?_
  rw [hN18]
  rw [show wN m18 = op1 m18 (0, 0, 0, 0) from rfl]
  obtain ⟨m19, e19⟩ : ∃ z, z = op1 m18 (0, 0, 0, 0) := ⟨_, rfl⟩
  rw [← e19]
  have hN19 : mN m19 = 211 := by rw [e19]; show mN m18 + 1 = _; rw [hN18]
  refine JT_putF dX4_init_81 flX4_39 BS_200 (Nat.le_of_ble_eq_true rfl) (by rw [hN19]; decide) (Or.inr ⟨_, ct_4_12⟩) rfl (fun _ h => by cases h; rfl) ?_
  rw [show wR m19 200 12 210 = op1 m19 (1, 200, 12, 210) from rfl]
  obtain ⟨m20, e20⟩ : ∃ z, z = op1 m19 (1, 200, 12, 210) := ⟨_, rfl⟩
  rw [← e20]
  have hN20 : mN m20 = 211 := by rw [e20]; exact hN19
  refine JT_aload_n (q := 0) dX4_init_84 rfl rfl ?_
  refine JT_bipush (v := 60) dX4_init_85 (by decide) ?_
  refine JT_newa_int (mc := 0) (ms := 0) (N := 60) dX4_init_87 aw_int (by rw [hN20]; exact BS_211) (by decide) (by decide) (by decide) ?_
  rw [hN20]
  rw [show wN m20 = op1 m20 (0, 0, 0, 0) from rfl]
  obtain ⟨m21, e21⟩ : ∃ z, z = op1 m20 (0, 0, 0, 0) := ⟨_, rfl⟩
  rw [← e21]
  have hN21 : mN m21 = 212 := by rw [e21]; show mN m20 + 1 = _; rw [hN20]
  refine JT_putF dX4_init_89 flX4_42 BS_200 (Nat.le_of_ble_eq_true rfl) (by rw [hN21]; decide) (Or.inr ⟨_, ct_4_13⟩) rfl (fun _ h => by cases h; rfl) ?_
  rw [show wR m21 200 13 211 = op1 m21 (1, 200, 13, 211) from rfl]
  obtain ⟨m22, e22⟩ : ∃ z, z = op1 m21 (1, 200, 13, 211) := ⟨_, rfl⟩
  rw [← e22]
  have hN22 : mN m22 = 212 := by rw [e22]; exact hN21
  refine JT_aload_n (q := 0) dX4_init_92 rfl rfl ?_
  refine JT_aload_n (q := 1) dX4_init_93 rfl rfl ?_
  refine JT_putF dX4_init_94 flX4_45 BS_200 (Nat.le_of_ble_eq_true rfl) (by rw [hN22]; decide) (Or.inl ⟨_, ct_4_8⟩) rfl (fun _ h => by cases h; rfl) ?_
  rw [show wR m22 200 8 193 = op1 m22 (1, 200, 8, 193) from rfl]
  obtain ⟨m23, e23⟩ : ∃ z, z = op1 m22 (1, 200, 8, 193) := ⟨_, rfl⟩
  rw [← e23]
  have hN23 : mN m23 = 212 := by rw [e23]; exact hN22
  refine JT_vret (st := []) dX4_init_97 rfl ⟨trivial, rfl, ?_⟩
  rw [e23, e22, e21, e20, e19, e18, e17, e16, e15, e14, e13, e12, e11, e10, e9, e8, e7, e6, e5, e4, e3, e2, e1]
  simp only [kX4_init_200o, List.foldl_append, List.foldl_cons, List.foldl_nil]
set_option maxRecDepth 1000000 in
def kX0_init_212o : List OpT := [(0, 0, 0, 0), (1, 212, 1, 213), (0, 0, 0, 0), (1, 212, 2, 214), (0, 0, 0, 0), (1, 212, 3, 215), (0, 0, 0, 0), (1, 212, 4, 216), (0, 0, 0, 0), (1, 212, 5, 217)]
set_option maxRecDepth 1000000 in
theorem kX0_init_212 (m : JMem) (hN : mN m = 213) : JC MX0_init 1 5 200 [.ref 212] m (fun v m1 => v = none ∧ m1 = List.foldl op1 m kX0_init_212o) := by
  show JT MX0_init 1 5 200 0 [(0, .ref 212)] [] m _
  refine JT_aload_n (q := 0) dX0_init_0 rfl rfl ?_
  refine JT_obj (d2 := 0) dX0_init_1 mlX0_3 (Nat.le_of_ble_eq_true rfl) rfl ?_
  refine JT_aload_n (q := 0) dX0_init_4 rfl rfl ?_
  refine JT_bipush (v := 40) dX0_init_5 (by decide) ?_
  refine JT_newa_int (mc := 4) (ms := 160) (N := 40) dX0_init_7 aw_int (by rw [hN]; exact BS_213) (by decide) (by decide) (by decide) ?_
  rw [hN]
  rw [show wN m = op1 m (0, 0, 0, 0) from rfl]
  obtain ⟨m1, e1⟩ : ∃ z, z = op1 m (0, 0, 0, 0) := ⟨_, rfl⟩
  rw [← e1]
  have hN1 : mN m1 = 214 := by rw [e1]; show mN m + 1 = _; rw [hN]
  refine JT_putF dX0_init_9 flX0_9 BS_212 (Nat.le_of_ble_eq_true rfl) (by rw [hN1]; decide) (Or.inr ⟨_, ct_0_1⟩) rfl (fun _ h => by cases h; rfl) ?_
  rw [show wR m1 212 1 213 = op1 m1 (1, 212, 1, 213) from rfl]
  obtain ⟨m2, e2⟩ : ∃ z, z = op1 m1 (1, 212, 1, 213) := ⟨_, rfl⟩
  rw [← e2]
  have hN2 : mN m2 = 214 := by rw [e2]; exact hN1
  refine JT_aload_n (q := 0) dX0_init_12 rfl rfl ?_
  refine JT_bipush (v := 40) dX0_init_13 (by decide) ?_
  refine JT_newa_int (mc := 3) (ms := 120) (N := 40) dX0_init_15 aw_int (by rw [hN2]; exact BS_214) (by decide) (by decide) (by decide) ?_
  rw [hN2]
  rw [show wN m2 = op1 m2 (0, 0, 0, 0) from rfl]
  obtain ⟨m3, e3⟩ : ∃ z, z = op1 m2 (0, 0, 0, 0) := ⟨_, rfl⟩
  rw [← e3]
  have hN3 : mN m3 = 215 := by rw [e3]; show mN m2 + 1 = _; rw [hN2]
  refine JT_putF dX0_init_17 flX0_15 BS_212 (Nat.le_of_ble_eq_true rfl) (by rw [hN3]; decide) (Or.inr ⟨_, ct_0_2⟩) rfl (fun _ h => by cases h; rfl) ?_
  rw [show wR m3 212 2 214 = op1 m3 (1, 212, 2, 214) from rfl]
  obtain ⟨m4, e4⟩ : ∃ z, z = op1 m3 (1, 212, 2, 214) := ⟨_, rfl⟩
  rw [← e4]
  have hN4 : mN m4 = 215 := by rw [e4]; exact hN3
  refine JT_aload_n (q := 0) dX0_init_20 rfl rfl ?_
  refine JT_bipush (v := 40) dX0_init_21 (by decide) ?_
  refine JT_newa_int (mc := 2) (ms := 80) (N := 40) dX0_init_23 aw_int (by rw [hN4]; exact BS_215) (by decide) (by decide) (by decide) ?_
  rw [hN4]
  rw [show wN m4 = op1 m4 (0, 0, 0, 0) from rfl]
  obtain ⟨m5, e5⟩ : ∃ z, z = op1 m4 (0, 0, 0, 0) := ⟨_, rfl⟩
  rw [← e5]
  have hN5 : mN m5 = 216 := by rw [e5]; show mN m4 + 1 = _; rw [hN4]
  refine JT_putF dX0_init_25 flX0_18 BS_212 (Nat.le_of_ble_eq_true rfl) (by rw [hN5]; decide) (Or.inr ⟨_, ct_0_3⟩) rfl (fun _ h => by cases h; rfl) ?_
  rw [show wR m5 212 3 215 = op1 m5 (1, 212, 3, 215) from rfl]
  obtain ⟨m6, e6⟩ : ∃ z, z = op1 m5 (1, 212, 3, 215) := ⟨_, rfl⟩
  rw [← e6]
  have hN6 : mN m6 = 216 := by rw [e6]; exact hN5
  refine JT_aload_n (q := 0) dX0_init_28 rfl rfl ?_
  refine JT_bipush (v := 40) dX0_init_29 (by decide) ?_
  refine JT_newa_int (mc := 1) (ms := 40) (N := 40) dX0_init_31 aw_int (by rw [hN6]; exact BS_216) (by decide) (by decide) (by decide) ?_
  rw [hN6]
  rw [show wN m6 = op1 m6 (0, 0, 0, 0) from rfl]
  obtain ⟨m7, e7⟩ : ∃ z, z = op1 m6 (0, 0, 0, 0) := ⟨_, rfl⟩
  rw [← e7]
  have hN7 : mN m7 = 217 := by rw [e7]; show mN m6 + 1 = _; rw [hN6]
  refine JT_putF dX0_init_33 flX0_21 BS_212 (Nat.le_of_ble_eq_true rfl) (by rw [hN7]; decide) (Or.inr ⟨_, ct_0_4⟩) rfl (fun _ h => by cases h; rfl) ?_
  rw [show wR m7 212 4 216 = op1 m7 (1, 212, 4, 216) from rfl]
  obtain ⟨m8, e8⟩ : ∃ z, z = op1 m7 (1, 212, 4, 216) := ⟨_, rfl⟩
  rw [← e8]
  have hN8 : mN m8 = 217 := by rw [e8]; exact hN7
  refine JT_aload_n (q := 0) dX0_init_36 rfl rfl ?_
  refine JT_bipush (v := 40) dX0_init_37 (by decide) ?_
  refine JT_newa_int (mc := 0) (ms := 0) (N := 40) dX0_init_39 aw_int (by rw [hN8]; exact BS_217) (by decide) (by decide) (by decide) ?_
  rw [hN8]
  rw [show wN m8 = op1 m8 (0, 0, 0, 0) from rfl]
  obtain ⟨m9, e9⟩ : ∃ z, z = op1 m8 (0, 0, 0, 0) := ⟨_, rfl⟩
  rw [← e9]
  have hN9 : mN m9 = 218 := by rw [e9]; show mN m8 + 1 = _; rw [hN8]
  refine JT_putF dX0_init_41 flX0_24 BS_212 (Nat.le_of_ble_eq_true rfl) (by rw [hN9]; decide) (Or.inr ⟨_, ct_0_5⟩) rfl (fun _ h => by cases h; rfl) ?_
  rw [show wR m9 212 5 217 = op1 m9 (1, 212, 5, 217) from rfl]
  obtain ⟨m10, e10⟩ : ∃ z, z = op1 m9 (1, 212, 5, 217) := ⟨_, rfl⟩
  rw [← e10]
  have hN10 : mN m10 = 218 := by rw [e10]; exact hN9
  refine JT_vret (st := []) dX0_init_44 rfl ⟨trivial, rfl, ?_⟩
  rw [e10, e9, e8, e7, e6, e5, e4, e3, e2, e1]
  simp only [kX0_init_212o, List.foldl_append, List.foldl_cons, List.foldl_nil]
set_option maxRecDepth 1000000 in
def kX3_init_192o : List OpT := [(0, 0, 0, 0)] ++ (kX6_init_193o ++ ([(1, 192, 1, 193), (0, 0, 0, 0)] ++ (kX4_init_200o ++ ([(1, 192, 2, 200), (0, 0, 0, 0)] ++ (kX0_init_212o ++ ([(1, 192, 3, 212)]))))))
set_option maxRecDepth 1000000 in
theorem kX3_init_192 (m : JMem) (hN : mN m = 193) : JC MX3_init 2 25 838 [.ref 192] m (fun v m1 => v = none ∧ m1 = List.foldl op1 m kX3_init_192o) := by
  show JT MX3_init 2 25 838 0 [(0, .ref 192)] [] m _
  refine JT_aload_n (q := 0) dX3_init_0 rfl rfl ?_
  refine JT_obj (d2 := 1) dX3_init_1 mlX3_1 (Nat.le_of_ble_eq_true rfl) rfl ?_
  refine JT_aload_n (q := 0) dX3_init_4 rfl rfl ?_
  refine JT_new (mc := 24) (ms := 824) (N := 14) dX3_init_5 clX3_7 (by rw [hN]; exact BS_193) ?_
  rw [hN]
  rw [show wN m = op1 m (0, 0, 0, 0) from rfl]
  obtain ⟨m1, e1⟩ : ∃ z, z = op1 m (0, 0, 0, 0) := ⟨_, rfl⟩
  rw [← e1]
  have hN1 : mN m1 = 194 := by rw [e1]; show mN m + 1 = _; rw [hN]
  refine JT_dup dX3_init_8 rfl ?_
  refine JT_callIN (d := 1) (mc1 := 6) (ms1 := 45) (mc := 18) (ms := 779) (As := []) (rest := [.ref 193, .ref 192]) dX3_init_9 cvX3_9 okX6_init rfl (Nat.le_of_ble_eq_true rfl) BS_193 (Nat.le_of_ble_eq_true rfl) (by rw [hN1]; decide) hci_6 rfl (Nat.le_of_ble_eq_true rfl) (JT_room (d2 := 1) (kX6_init_193 m1 hN1) (Nat.le_of_ble_eq_true rfl) (Nat.le_refl _) (Nat.le_refl _)) (fun v mz hq => ?_)
  obtain ⟨rfl, rfl⟩ := hq
  show JT _ _ _ _ _ _ [.ref 193, .ref 192] _ _
  obtain ⟨m2, e2⟩ : ∃ z, z = List.foldl op1 m1 kX6_init_193o := ⟨_, rfl⟩
  rw [← e2]
  have hN2 : mN m2 = 200 := by rw [e2, mN_fold, hN1]; rfl
  refine JT_putF dX3_init_12 flX3_10 BS_192 (Nat.le_of_ble_eq_true rfl) (by rw [hN2]; decide) (Or.inl ⟨_, ct_3_1⟩) rfl (fun _ h => by cases h; rfl) ?_
  rw [show wR m2 192 1 193 = op1 m2 (1, 192, 1, 193) from rfl]
  obtain ⟨m3, e3⟩ : ∃ z, z = op1 m2 (1, 192, 1, 193) := ⟨_, rfl⟩
  rw [← e3]
  have hN3 : mN m3 = 200 := by rw [e3]; exact hN2
  have r3_192_1 : mR m3 192 1 = some 193 := by rw [e3]; show mR (wR m2 192 1 193) _ _ = _; rw [mR_wR, if_pos ⟨rfl, rfl⟩]
  refine JT_aload_n (q := 0) dX3_init_15 rfl rfl ?_
  refine JT_new (mc := 17) (ms := 764) (N := 15) dX3_init_16 clX3_16 (by rw [hN3]; exact BS_200) ?_
  rw [hN3]
  rw [show wN m3 = op1 m3 (0, 0, 0, 0) from rfl]
  obtain ⟨m4, e4⟩ : ∃ z, z = op1 m3 (0, 0, 0, 0) := ⟨_, rfl⟩
  rw [← e4]
  have hN4 : mN m4 = 201 := by rw [e4]; show mN m3 + 1 = _; rw [hN3]
  have r4_192_1 : mR m4 192 1 = some 193 := by rw [e4]; exact r3_192_1
  refine JT_dup dX3_init_19 rfl ?_
  refine JT_aload_n (q := 0) dX3_init_20 rfl rfl ?_
  refine JT_getR (x := 193) dX3_init_21 flX3_10 BS_192 (Nat.le_of_ble_eq_true rfl) (by rw [hN4]; decide) (Or.inl ⟨_, ct_3_1⟩) r4_192_1 ?_
  refine JT_callI (d := 1) (mc1 := 11) (ms1 := 558) (mc := 6) (ms := 206) (As := [.ref 193]) (rest := [.ref 200, .ref 192]) dX3_init_24 cvX3_18 okX4_init rfl (Nat.le_of_ble_eq_true rfl) BS_200 (Nat.le_of_ble_eq_true rfl) (by rw [hN4]; decide) hci_4 rfl (Nat.le_of_ble_eq_true rfl) (JT_room (d2 := 1) (kX4_init_200 m4 hN4) (Nat.le_of_ble_eq_true rfl) (Nat.le_refl _) (Nat.le_refl _)) (fun v mz hq => ?_)
  obtain ⟨rfl, rfl⟩ := hq
  show JT _ _ _ _ _ _ [.ref 200, .ref 192] _ _
  obtain ⟨m5, e5⟩ : ∃ z, z = List.foldl op1 m4 kX4_init_200o := ⟨_, rfl⟩
  rw [← e5]
  have hN5 : mN m5 = 212 := by rw [e5, mN_fold, hN4]; rfl
  have r5_192_1 : mR m5 192 1 = some 193 := by rw [e5]; exact (mR_fold _ _ 192 rfl _).trans r4_192_1
  refine JT_putF dX3_init_27 flX3_21 BS_192 (Nat.le_of_ble_eq_true rfl) (by rw [hN5]; decide) (Or.inl ⟨_, ct_3_2⟩) rfl (fun _ h => by cases h; rfl) ?_
  rw [show wR m5 192 2 200 = op1 m5 (1, 192, 2, 200) from rfl]
  obtain ⟨m6, e6⟩ : ∃ z, z = op1 m5 (1, 192, 2, 200) := ⟨_, rfl⟩
  rw [← e6]
  have hN6 : mN m6 = 212 := by rw [e6]; exact hN5
  have r6_192_1 : mR m6 192 1 = some 193 := by rw [e6]; show mR (wR m5 192 2 200) _ _ = _; rw [mR_wR, if_neg (by decide)]; exact r5_192_1
  refine JT_aload_n (q := 0) dX3_init_30 rfl rfl ?_
  refine JT_new (mc := 5) (ms := 200) (N := 6) dX3_init_31 clX3_25 (by rw [hN6]; exact BS_212) ?_
  rw [hN6]
  rw [show wN m6 = op1 m6 (0, 0, 0, 0) from rfl]
  obtain ⟨m7, e7⟩ : ∃ z, z = op1 m6 (0, 0, 0, 0) := ⟨_, rfl⟩
  rw [← e7]
  have hN7 : mN m7 = 213 := by rw [e7]; show mN m6 + 1 = _; rw [hN6]
  have r7_192_1 : mR m7 192 1 = some 193 := by rw [e7]; exact r6_192_1
  refine JT_dup dX3_init_34 rfl ?_
  refine JT_callIN (d := 1) (mc1 := 5) (ms1 := 200) (mc := 0) (ms := 0) (As := []) (rest := [.ref 212, .ref 192]) dX3_init_35 cvX3_27 okX0_init rfl (Nat.le_of_ble_eq_true rfl) BS_212 (Nat.le_of_ble_eq_true rfl) (by rw [hN7]; decide) hci_0 rfl (Nat.le_of_ble_eq_true rfl) (JT_room (d2 := 1) (kX0_init_212 m7 hN7) (Nat.le_of_ble_eq_true rfl) (Nat.le_refl _) (Nat.le_refl _)) (fun v mz hq => ?_)
  obtain ⟨rfl, rfl⟩ := hq
  show JT _ _ _ _ _ _ [.ref 212, .ref 192] _ _
  obtain ⟨m8, e8⟩ : ∃ z, z = List.foldl op1 m7 kX0_init_212o := ⟨_, rfl⟩
  rw [← e8]
  have hN8 : mN m8 = 218 := by rw [e8, mN_fold, hN7]; rfl
  have r8_192_1 : mR m8 192 1 = some 193 := by rw [e8]; exact (mR_fold _ _ 192 rfl _).trans r7_192_1
  refine JT_putF dX3_init_38 flX3_28 BS_192 (Nat.le_of_ble_eq_true rfl) (by rw [hN8]; decide) (Or.inl ⟨_, ct_3_3⟩) rfl (fun _ h => by cases h; rfl) ?_
  rw [show wR m8 192 3 212 = op1 m8 (1, 192, 3, 212) from rfl]
  obtain ⟨m9, e9⟩ : ∃ z, z = op1 m8 (1, 192, 3, 212) := ⟨_, rfl⟩
  rw [← e9]
  have hN9 : mN m9 = 218 := by rw [e9]; exact hN8
  have r9_192_1 : mR m9 192 1 = some 193 := by rw [e9]; show mR (wR m8 192 3 212) _ _ = _; rw [mR_wR, if_neg (by decide)]; exact r8_192_1
  refine JT_vret (st := []) dX3_init_41 rfl ⟨trivial, rfl, ?_⟩
  rw [e9, e8, e7, e6, e5, e4, e3, e2, e1]
  simp only [kX3_init_192o, List.foldl_append, List.foldl_cons, List.foldl_nil]
set_option maxRecDepth 1000000 in
def kX7_init_218o : List OpT := [(0, 0, 0, 0), (1, 218, 0, 219), (0, 0, 0, 0), (1, 218, 5, 220), (0, 0, 0, 0), (1, 218, 6, 221), (0, 0, 0, 0), (1, 218, 8, 222), (0, 0, 0, 0), (1, 218, 9, 223), (0, 0, 0, 0), (1, 218, 10, 224)]
set_option maxRecDepth 1000000 in
theorem kX7_init_218 (m : JMem) (hN : mN m = 219) : JC MX7_init 1 6 148 [.ref 218] m (fun v m1 => v = none ∧ m1 = List.foldl op1 m kX7_init_218o) := by
  show JT MX7_init 1 6 148 0 [(0, .ref 218)] [] m _
  refine JT_aload_n (q := 0) dX7_init_0 rfl rfl ?_
  refine JT_obj (d2 := 0) dX7_init_1 mlX7_3 (Nat.le_of_ble_eq_true rfl) rfl ?_
  refine JT_aload_n (q := 0) dX7_init_4 rfl rfl ?_
  refine JT_iconst (v := 5) dX7_init_5 (by decide) ?_
  refine JT_newa_int (mc := 5) (ms := 143) (N := 5) dX7_init_6 aw_int (by rw [hN]; exact BS_219) (by decide) (by decide) (by decide) ?_
  rw [hN]
  rw [show wN m = op1 m (0, 0, 0, 0) from rfl]
  obtain ⟨m1, e1⟩ : ∃ z, z = op1 m (0, 0, 0, 0) := ⟨_, rfl⟩
  rw [← e1]
  have hN1 : mN m1 = 220 := by rw [e1]; show mN m + 1 = _; rw [hN]
  refine JT_putF dX7_init_8 flX7_9 BS_218 (Nat.le_of_ble_eq_true rfl) (by rw [hN1]; decide) (Or.inr ⟨_, ct_7_0⟩) rfl (fun _ h => by cases h; rfl) ?_
  rw [show wR m1 218 0 219 = op1 m1 (1, 218, 0, 219) from rfl]
  obtain ⟨m2, e2⟩ : ∃ z, z = op1 m1 (1, 218, 0, 219) := ⟨_, rfl⟩
  rw [← e2]
  have hN2 : mN m2 = 220 := by rw [e2]; exact hN1
  refine JT_aload_n (q := 0) dX7_init_11 rfl rfl ?_
  refine JT_iconst (v := 5) dX7_init_12 (by decide) ?_
  refine JT_newa_int (mc := 4) (ms := 138) (N := 5) dX7_init_13 aw_int (by rw [hN2]; exact BS_220) (by decide) (by decide) (by decide) ?_
  rw [hN2]
  rw [show wN m2 = op1 m2 (0, 0, 0, 0) from rfl]
  obtain ⟨m3, e3⟩ : ∃ z, z = op1 m2 (0, 0, 0, 0) := ⟨_, rfl⟩
  rw [← e3]
  have hN3 : mN m3 = 221 := by rw [e3]; show mN m2 + 1 = _; rw [hN2]
  refine JT_putF dX7_init_15 flX7_15 BS_218 (Nat.le_of_ble_eq_true rfl) (by rw [hN3]; decide) (Or.inr ⟨_, ct_7_5⟩) rfl (fun _ h => by cases h; rfl) ?_
  rw [show wR m3 218 5 220 = op1 m3 (1, 218, 5, 220) from rfl]
  obtain ⟨m4, e4⟩ : ∃ z, z = op1 m3 (1, 218, 5, 220) := ⟨_, rfl⟩
  rw [← e4]
  have hN4 : mN m4 = 221 := by rw [e4]; exact hN3
  refine JT_aload_n (q := 0) dX7_init_18 rfl rfl ?_
  refine JT_bipush (v := 60) dX7_init_19 (by decide) ?_
  refine JT_newa_int (mc := 3) (ms := 78) (N := 60) dX7_init_21 aw_int (by rw [hN4]; exact BS_221) (by decide) (by decide) (by decide) ?_
  rw [hN4]
  rw [show wN m4 = op1 m4 (0, 0, 0, 0) from rfl]
  obtain ⟨m5, e5⟩ : ∃ z, z = op1 m4 (0, 0, 0, 0) := ⟨_, rfl⟩
  rw [← e5]
  have hN5 : mN m5 = 222 := by rw [e5]; show mN m4 + 1 = _; rw [hN4]
  refine JT_putF dX7_init_23 flX7_18 BS_218 (Nat.le_of_ble_eq_true rfl) (by rw [hN5]; decide) (Or.inr ⟨_, ct_7_6⟩) rfl (fun _ h => by cases h; rfl) ?_
  rw [show wR m5 218 6 221 = op1 m5 (1, 218, 6, 221) from rfl]
  obtain ⟨m6, e6⟩ : ∃ z, z = op1 m5 (1, 218, 6, 221) := ⟨_, rfl⟩
  rw [← e6]
  have hN6 : mN m6 = 222 := by rw [e6]; exact hN5
  refine JT_aload_n (q := 0) dX7_init_26 rfl rfl ?_
  refine JT_bipush (v := 60) dX7_init_27 (by decide) ?_
  refine JT_newa_int (mc := 2) (ms := 18) (N := 60) dX7_init_29 aw_int (by rw [hN6]; exact BS_222) (by decide) (by decide) (by decide) ?_
  rw [hN6]
  rw [show wN m6 = op1 m6 (0, 0, 0, 0) from rfl]
  obtain ⟨m7, e7⟩ : ∃ z, z = op1 m6 (0, 0, 0, 0) := ⟨_, rfl⟩
  rw [← e7]
  have hN7 : mN m7 = 223 := by rw [e7]; show mN m6 + 1 = _; rw [hN6]
  refine JT_putF dX7_init_31 flX7_21 BS_218 (Nat.le_of_ble_eq_true rfl) (by rw [hN7]; decide) (Or.inr ⟨_, ct_7_8⟩) rfl (fun _ h => by cases h; rfl) ?_
  rw [show wR m7 218 8 222 = op1 m7 (1, 218, 8, 222) from rfl]
  obtain ⟨m8, e8⟩ : ∃ z, z = op1 m7 (1, 218, 8, 222) := ⟨_, rfl⟩
  rw [← e8]
  have hN8 : mN m8 = 223 := by rw [e8]; exact hN7
  refine JT_aload_n (q := 0) dX7_init_34 rfl rfl ?_
  refine JT_bipush (v := 9) dX7_init_35 (by decide) ?_
  refine JT_newa_int (mc := 1) (ms := 9) (N := 9) dX7_init_37 aw_int (by rw [hN8]; exact BS_223) (by decide) (by decide) (by decide) ?_
  rw [hN8]
  rw [show wN m8 = op1 m8 (0, 0, 0, 0) from rfl]
  obtain ⟨m9, e9⟩ : ∃ z, z = op1 m8 (0, 0, 0, 0) := ⟨_, rfl⟩
  rw [← e9]
  have hN9 : mN m9 = 224 := by rw [e9]; show mN m8 + 1 = _; rw [hN8]
  refine JT_putF dX7_init_39 flX7_24 BS_218 (Nat.le_of_ble_eq_true rfl) (by rw [hN9]; decide) (Or.inr ⟨_, ct_7_9⟩) rfl (fun _ h => by cases h; rfl) ?_
  rw [show wR m9 218 9 223 = op1 m9 (1, 218, 9, 223) from rfl]
  obtain ⟨m10, e10⟩ : ∃ z, z = op1 m9 (1, 218, 9, 223) := ⟨_, rfl⟩
  rw [← e10]
  have hN10 : mN m10 = 224 := by rw [e10]; exact hN9
  refine JT_aload_n (q := 0) dX7_init_42 rfl rfl ?_
  refine JT_bipush (v := 9) dX7_init_43 (by decide) ?_
  refine JT_newa_int (mc := 0) (ms := 0) (N := 9) dX7_init_45 aw_int (by rw [hN10]; exact BS_224) (by decide) (by decide) (by decide) ?_
  rw [hN10]
  rw [show wN m10 = op1 m10 (0, 0, 0, 0) from rfl]
  obtain ⟨m11, e11⟩ : ∃ z, z = op1 m10 (0, 0, 0, 0) := ⟨_, rfl⟩
  rw [← e11]
  have hN11 : mN m11 = 225 := by rw [e11]; show mN m10 + 1 = _; rw [hN10]
  refine JT_putF dX7_init_47 flX7_27 BS_218 (Nat.le_of_ble_eq_true rfl) (by rw [hN11]; decide) (Or.inr ⟨_, ct_7_10⟩) rfl (fun _ h => by cases h; rfl) ?_
  rw [show wR m11 218 10 224 = op1 m11 (1, 218, 10, 224) from rfl]
  obtain ⟨m12, e12⟩ : ∃ z, z = op1 m11 (1, 218, 10, 224) := ⟨_, rfl⟩
  rw [← e12]
  have hN12 : mN m12 = 225 := by rw [e12]; exact hN11
  refine JT_vret (st := []) dX7_init_50 rfl ⟨trivial, rfl, ?_⟩
  rw [e12, e11, e10, e9, e8, e7, e6, e5, e4, e3, e2, e1]
  simp only [kX7_init_218o, List.foldl_append, List.foldl_cons, List.foldl_nil]
set_option maxRecDepth 1000000 in
def kX5_init_225o : List OpT := [(0, 0, 0, 0), (1, 225, 2, 226), (0, 0, 0, 0), (1, 225, 3, 227), (0, 0, 0, 0), (1, 225, 4, 228), (0, 0, 0, 0), (1, 225, 5, 229), (0, 0, 0, 0), (1, 225, 6, 230), (0, 0, 0, 0), (1, 225, 7, 231), (0, 0, 0, 0), (1, 225, 8, 232)]
set_option maxRecDepth 1000000 in
theorem kX5_init_225 (m : JMem) (hN : mN m = 226) : JC MX5_init 1 7 45 [.ref 225] m (fun v m1 => v = none ∧ m1 = List.foldl op1 m kX5_init_225o) := by
  show JT MX5_init 1 7 45 0 [(0, .ref 225)] [] m _
  refine JT_aload_n (q := 0) dX5_init_0 rfl rfl ?_
  refine JT_obj (d2 := 0) dX5_init_1 mlX5_3 (Nat.le_of_ble_eq_true rfl) rfl ?_
  refine JT_aload_n (q := 0) dX5_init_4 rfl rfl ?_
  refine JT_bipush (v := 6) dX5_init_5 (by decide) ?_
  refine JT_newa_int (mc := 6) (ms := 39) (N := 6) dX5_init_7 aw_int (by rw [hN]; exact BS_226) (by decide) (by decide) (by decide) ?_
  rw [hN]
  rw [show wN m = op1 m (0, 0, 0, 0) from rfl]
  obtain ⟨m1, e1⟩ : ∃ z, z = op1 m (0, 0, 0, 0) := ⟨_, rfl⟩
  rw [← e1]
  have hN1 : mN m1 = 227 := by rw [e1]; show mN m + 1 = _; rw [hN]
  refine JT_putF dX5_init_9 flX5_9 BS_225 (Nat.le_of_ble_eq_true rfl) (by rw [hN1]; decide) (Or.inr ⟨_, ct_5_2⟩) rfl (fun _ h => by cases h; rfl) ?_
  rw [show wR m1 225 2 226 = op1 m1 (1, 225, 2, 226) from rfl]
  obtain ⟨m2, e2⟩ : ∃ z, z = op1 m1 (1, 225, 2, 226) := ⟨_, rfl⟩
  rw [← e2]
  have hN2 : mN m2 = 227 := by rw [e2]; exact hN1
  refine JT_aload_n (q := 0) dX5_init_12 rfl rfl ?_
  refine JT_bipush (v := 6) dX5_init_13 (by decide) ?_
  refine JT_newa_int (mc := 5) (ms := 33) (N := 6) dX5_init_15 aw_int (by rw [hN2]; exact BS_227) (by decide) (by decide) (by decide) ?_
  rw [hN2]
  rw [show wN m2 = op1 m2 (0, 0, 0, 0) from rfl]
  obtain ⟨m3, e3⟩ : ∃ z, z = op1 m2 (0, 0, 0, 0) := ⟨_, rfl⟩
  rw [← e3]
  have hN3 : mN m3 = 228 := by rw [e3]; show mN m2 + 1 = _; rw [hN2]
  refine JT_putF dX5_init_17 flX5_15 BS_225 (Nat.le_of_ble_eq_true rfl) (by rw [hN3]; decide) (Or.inr ⟨_, ct_5_3⟩) rfl (fun _ h => by cases h; rfl) ?_
  rw [show wR m3 225 3 227 = op1 m3 (1, 225, 3, 227) from rfl]
  obtain ⟨m4, e4⟩ : ∃ z, z = op1 m3 (1, 225, 3, 227) := ⟨_, rfl⟩
  rw [← e4]
  have hN4 : mN m4 = 228 := by rw [e4]; exact hN3
  refine JT_aload_n (q := 0) dX5_init_20 rfl rfl ?_
  refine JT_bipush (v := 6) dX5_init_21 (by decide) ?_
  refine JT_newa_int (mc := 4) (ms := 27) (N := 6) dX5_init_23 aw_int (by rw [hN4]; exact BS_228) (by decide) (by decide) (by decide) ?_
  rw [hN4]
  rw [show wN m4 = op1 m4 (0, 0, 0, 0) from rfl]
  obtain ⟨m5, e5⟩ : ∃ z, z = op1 m4 (0, 0, 0, 0) := ⟨_, rfl⟩
  rw [← e5]
  have hN5 : mN m5 = 229 := by rw [e5]; show mN m4 + 1 = _; rw [hN4]
  refine JT_putF dX5_init_25 flX5_18 BS_225 (Nat.le_of_ble_eq_true rfl) (by rw [hN5]; decide) (Or.inr ⟨_, ct_5_4⟩) rfl (fun _ h => by cases h; rfl) ?_
  rw [show wR m5 225 4 228 = op1 m5 (1, 225, 4, 228) from rfl]
  obtain ⟨m6, e6⟩ : ∃ z, z = op1 m5 (1, 225, 4, 228) := ⟨_, rfl⟩
  rw [← e6]
  have hN6 : mN m6 = 229 := by rw [e6]; exact hN5
  refine JT_aload_n (q := 0) dX5_init_28 rfl rfl ?_
  refine JT_bipush (v := 6) dX5_init_29 (by decide) ?_
  refine JT_newa_int (mc := 3) (ms := 21) (N := 6) dX5_init_31 aw_int (by rw [hN6]; exact BS_229) (by decide) (by decide) (by decide) ?_
  rw [hN6]
  rw [show wN m6 = op1 m6 (0, 0, 0, 0) from rfl]
  obtain ⟨m7, e7⟩ : ∃ z, z = op1 m6 (0, 0, 0, 0) := ⟨_, rfl⟩
  rw [← e7]
  have hN7 : mN m7 = 230 := by rw [e7]; show mN m6 + 1 = _; rw [hN6]
  refine JT_putF dX5_init_33 flX5_21 BS_225 (Nat.le_of_ble_eq_true rfl) (by rw [hN7]; decide) (Or.inr ⟨_, ct_5_5⟩) rfl (fun _ h => by cases h; rfl) ?_
  rw [show wR m7 225 5 229 = op1 m7 (1, 225, 5, 229) from rfl]
  obtain ⟨m8, e8⟩ : ∃ z, z = op1 m7 (1, 225, 5, 229) := ⟨_, rfl⟩
  rw [← e8]
  have hN8 : mN m8 = 230 := by rw [e8]; exact hN7
  refine JT_aload_n (q := 0) dX5_init_36 rfl rfl ?_
  refine JT_bipush (v := 6) dX5_init_37 (by decide) ?_
  refine JT_newa_int (mc := 2) (ms := 15) (N := 6) dX5_init_39 aw_int (by rw [hN8]; exact BS_230) (by decide) (by decide) (by decide) ?_
  rw [hN8]
  rw [show wN m8 = op1 m8 (0, 0, 0, 0) from rfl]
  obtain ⟨m9, e9⟩ : ∃ z, z = op1 m8 (0, 0, 0, 0) := ⟨_, rfl⟩
  rw [← e9]
  have hN9 : mN m9 = 231 := by rw [e9]; show mN m8 + 1 = _; rw [hN8]
  refine JT_putF dX5_init_41 flX5_24 BS_225 (Nat.le_of_ble_eq_true rfl) (by rw [hN9]; decide) (Or.inr ⟨_, ct_5_6⟩) rfl (fun _ h => by cases h; rfl) ?_
  rw [show wR m9 225 6 230 = op1 m9 (1, 225, 6, 230) from rfl]
  obtain ⟨m10, e10⟩ : ∃ z, z = op1 m9 (1, 225, 6, 230) := ⟨_, rfl⟩
  rw [← e10]
  have hN10 : mN m10 = 231 := by rw [e10]; exact hN9
  refine JT_aload_n (q := 0) dX5_init_44 rfl rfl ?_
  refine JT_bipush (v := 6) dX5_init_45 (by decide) ?_
  refine JT_newa_int (mc := 1) (ms := 9) (N := 6) dX5_init_47 aw_int (by rw [hN10]; exact BS_231) (by decide) (by decide) (by decide) ?_
  rw [hN10]
  rw [show wN m10 = op1 m10 (0, 0, 0, 0) from rfl]
  obtain ⟨m11, e11⟩ : ∃ z, z = op1 m10 (0, 0, 0, 0) := ⟨_, rfl⟩
  rw [← e11]
  have hN11 : mN m11 = 232 := by rw [e11]; show mN m10 + 1 = _; rw [hN10]
  refine JT_putF dX5_init_49 flX5_27 BS_225 (Nat.le_of_ble_eq_true rfl) (by rw [hN11]; decide) (Or.inr ⟨_, ct_5_7⟩) rfl (fun _ h => by cases h; rfl) ?_
  rw [show wR m11 225 7 231 = op1 m11 (1, 225, 7, 231) from rfl]
  obtain ⟨m12, e12⟩ : ∃ z, z = op1 m11 (1, 225, 7, 231) := ⟨_, rfl⟩
  rw [← e12]
  have hN12 : mN m12 = 232 := by rw [e12]; exact hN11
  refine JT_aload_n (q := 0) dX5_init_52 rfl rfl ?_
  refine JT_bipush (v := 9) dX5_init_53 (by decide) ?_
  refine JT_newa_int (mc := 0) (ms := 0) (N := 9) dX5_init_55 aw_int (by rw [hN12]; exact BS_232) (by decide) (by decide) (by decide) ?_
  rw [hN12]
  rw [show wN m12 = op1 m12 (0, 0, 0, 0) from rfl]
  obtain ⟨m13, e13⟩ : ∃ z, z = op1 m12 (0, 0, 0, 0) := ⟨_, rfl⟩
  rw [← e13]
  have hN13 : mN m13 = 233 := by rw [e13]; show mN m12 + 1 = _; rw [hN12]
  refine JT_putF dX5_init_57 flX5_30 BS_225 (Nat.le_of_ble_eq_true rfl) (by rw [hN13]; decide) (Or.inr ⟨_, ct_5_8⟩) rfl (fun _ h => by cases h; rfl) ?_
  rw [show wR m13 225 8 232 = op1 m13 (1, 225, 8, 232) from rfl]
  obtain ⟨m14, e14⟩ : ∃ z, z = op1 m13 (1, 225, 8, 232) := ⟨_, rfl⟩
  rw [← e14]
  have hN14 : mN m14 = 233 := by rw [e14]; exact hN13
  refine JT_vret (st := []) dX5_init_60 rfl ⟨trivial, rfl, ?_⟩
  rw [e14, e13, e12, e11, e10, e9, e8, e7, e6, e5, e4, e3, e2, e1]
  simp only [kX5_init_225o, List.foldl_append, List.foldl_cons, List.foldl_nil]
set_option maxRecDepth 1000000 in
def kX1_init_233o : List OpT := [(0, 0, 0, 0), (1, 233, 0, 234), (0, 0, 0, 0), (1, 233, 1, 235), (0, 0, 0, 0), (1, 233, 2, 236), (0, 0, 0, 0), (1, 233, 3, 237), (0, 0, 0, 0), (1, 233, 4, 238), (0, 0, 0, 0), (1, 233, 5, 239)]
set_option maxRecDepth 1000000 in
theorem kX1_init_233 (m : JMem) (hN : mN m = 234) : JC MX1_init 1 6 34 [.ref 233] m (fun v m1 => v = none ∧ m1 = List.foldl op1 m kX1_init_233o) := by
  show JT MX1_init 1 6 34 0 [(0, .ref 233)] [] m _
  refine JT_aload_n (q := 0) dX1_init_0 rfl rfl ?_
  refine JT_obj (d2 := 0) dX1_init_1 mlX1_3 (Nat.le_of_ble_eq_true rfl) rfl ?_
  refine JT_aload_n (q := 0) dX1_init_4 rfl rfl ?_
  refine JT_iconst (v := 4) dX1_init_5 (by decide) ?_
  refine JT_newa_int (mc := 5) (ms := 30) (N := 4) dX1_init_6 aw_int (by rw [hN]; exact BS_234) (by decide) (by decide) (by decide) ?_
  rw [hN]
  rw [show wN m = op1 m (0, 0, 0, 0) from rfl]
  obtain ⟨m1, e1⟩ : ∃ z, z = op1 m (0, 0, 0, 0) := ⟨_, rfl⟩
  rw [← e1]
  have hN1 : mN m1 = 235 := by rw [e1]; show mN m + 1 = _; rw [hN]
  refine JT_putF dX1_init_8 flX1_9 BS_233 (Nat.le_of_ble_eq_true rfl) (by rw [hN1]; decide) (Or.inr ⟨_, ct_1_0⟩) rfl (fun _ h => by cases h; rfl) ?_
  rw [show wR m1 233 0 234 = op1 m1 (1, 233, 0, 234) from rfl]
  obtain ⟨m2, e2⟩ : ∃ z, z = op1 m1 (1, 233, 0, 234) := ⟨_, rfl⟩
  rw [← e2]
  have hN2 : mN m2 = 235 := by rw [e2]; exact hN1
  refine JT_aload_n (q := 0) dX1_init_11 rfl rfl ?_
  refine JT_iconst (v := 4) dX1_init_12 (by decide) ?_
  refine JT_newa_int (mc := 4) (ms := 26) (N := 4) dX1_init_13 aw_int (by rw [hN2]; exact BS_235) (by decide) (by decide) (by decide) ?_
  rw [hN2]
  rw [show wN m2 = op1 m2 (0, 0, 0, 0) from rfl]
  obtain ⟨m3, e3⟩ : ∃ z, z = op1 m2 (0, 0, 0, 0) := ⟨_, rfl⟩
  rw [← e3]
  have hN3 : mN m3 = 236 := by rw [e3]; show mN m2 + 1 = _; rw [hN2]
  refine JT_putF dX1_init_15 flX1_15 BS_233 (Nat.le_of_ble_eq_true rfl) (by rw [hN3]; decide) (Or.inr ⟨_, ct_1_1⟩) rfl (fun _ h => by cases h; rfl) ?_
  rw [show wR m3 233 1 235 = op1 m3 (1, 233, 1, 235) from rfl]
  obtain ⟨m4, e4⟩ : ∃ z, z = op1 m3 (1, 233, 1, 235) := ⟨_, rfl⟩
  rw [← e4]
  have hN4 : mN m4 = 236 := by rw [e4]; exact hN3
  refine JT_aload_n (q := 0) dX1_init_18 rfl rfl ?_
  refine JT_iconst (v := 4) dX1_init_19 (by decide) ?_
  refine JT_newa_int (mc := 3) (ms := 22) (N := 4) dX1_init_20 aw_int (by rw [hN4]; exact BS_236) (by decide) (by decide) (by decide) ?_
  rw [hN4]
  rw [show wN m4 = op1 m4 (0, 0, 0, 0) from rfl]
  obtain ⟨m5, e5⟩ : ∃ z, z = op1 m4 (0, 0, 0, 0) := ⟨_, rfl⟩
  rw [← e5]
  have hN5 : mN m5 = 237 := by rw [e5]; show mN m4 + 1 = _; rw [hN4]
  refine JT_putF dX1_init_22 flX1_18 BS_233 (Nat.le_of_ble_eq_true rfl) (by rw [hN5]; decide) (Or.inr ⟨_, ct_1_2⟩) rfl (fun _ h => by cases h; rfl) ?_
  rw [show wR m5 233 2 236 = op1 m5 (1, 233, 2, 236) from rfl]
  obtain ⟨m6, e6⟩ : ∃ z, z = op1 m5 (1, 233, 2, 236) := ⟨_, rfl⟩
  rw [← e6]
  have hN6 : mN m6 = 237 := by rw [e6]; exact hN5
  refine JT_aload_n (q := 0) dX1_init_25 rfl rfl ?_
  refine JT_iconst (v := 4) dX1_init_26 (by decide) ?_
  refine JT_newa_int (mc := 2) (ms := 18) (N := 4) dX1_init_27 aw_int (by rw [hN6]; exact BS_237) (by decide) (by decide) (by decide) ?_
  rw [hN6]
  rw [show wN m6 = op1 m6 (0, 0, 0, 0) from rfl]
  obtain ⟨m7, e7⟩ : ∃ z, z = op1 m6 (0, 0, 0, 0) := ⟨_, rfl⟩
  rw [← e7]
  have hN7 : mN m7 = 238 := by rw [e7]; show mN m6 + 1 = _; rw [hN6]
  refine JT_putF dX1_init_29 flX1_21 BS_233 (Nat.le_of_ble_eq_true rfl) (by rw [hN7]; decide) (Or.inr ⟨_, ct_1_3⟩) rfl (fun _ h => by cases h; rfl) ?_
  rw [show wR m7 233 3 237 = op1 m7 (1, 233, 3, 237) from rfl]
  obtain ⟨m8, e8⟩ : ∃ z, z = op1 m7 (1, 233, 3, 237) := ⟨_, rfl⟩
  rw [← e8]
  have hN8 : mN m8 = 238 := by rw [e8]; exact hN7
  refine JT_aload_n (q := 0) dX1_init_32 rfl rfl ?_
  refine JT_bipush (v := 9) dX1_init_33 (by decide) ?_
  refine JT_newa_int (mc := 1) (ms := 9) (N := 9) dX1_init_35 aw_int (by rw [hN8]; exact BS_238) (by decide) (by decide) (by decide) ?_
  rw [hN8]
  rw [show wN m8 = op1 m8 (0, 0, 0, 0) from rfl]
  obtain ⟨m9, e9⟩ : ∃ z, z = op1 m8 (0, 0, 0, 0) := ⟨_, rfl⟩
  rw [← e9]
  have hN9 : mN m9 = 239 := by rw [e9]; show mN m8 + 1 = _; rw [hN8]
  refine JT_putF dX1_init_37 flX1_24 BS_233 (Nat.le_of_ble_eq_true rfl) (by rw [hN9]; decide) (Or.inr ⟨_, ct_1_4⟩) rfl (fun _ h => by cases h; rfl) ?_
  rw [show wR m9 233 4 238 = op1 m9 (1, 233, 4, 238) from rfl]
  obtain ⟨m10, e10⟩ : ∃ z, z = op1 m9 (1, 233, 4, 238) := ⟨_, rfl⟩
  rw [← e10]
  have hN10 : mN m10 = 239 := by rw [e10]; exact hN9
  refine JT_aload_n (q := 0) dX1_init_40 rfl rfl ?_
  refine JT_bipush (v := 9) dX1_init_41 (by decide) ?_
  refine JT_newa_int (mc := 0) (ms := 0) (N := 9) dX1_init_43 aw_int (by rw [hN10]; exact BS_239) (by decide) (by decide) (by decide) ?_
  rw [hN10]
  rw [show wN m10 = op1 m10 (0, 0, 0, 0) from rfl]
  obtain ⟨m11, e11⟩ : ∃ z, z = op1 m10 (0, 0, 0, 0) := ⟨_, rfl⟩
  rw [← e11]
  have hN11 : mN m11 = 240 := by rw [e11]; show mN m10 + 1 = _; rw [hN10]
  refine JT_putF dX1_init_45 flX1_27 BS_233 (Nat.le_of_ble_eq_true rfl) (by rw [hN11]; decide) (Or.inr ⟨_, ct_1_5⟩) rfl (fun _ h => by cases h; rfl) ?_
  rw [show wR m11 233 5 239 = op1 m11 (1, 233, 5, 239) from rfl]
  obtain ⟨m12, e12⟩ : ∃ z, z = op1 m11 (1, 233, 5, 239) := ⟨_, rfl⟩
  rw [← e12]
  have hN12 : mN m12 = 240 := by rw [e12]; exact hN11
  refine JT_vret (st := []) dX1_init_48 rfl ⟨trivial, rfl, ?_⟩
  rw [e12, e11, e10, e9, e8, e7, e6, e5, e4, e3, e2, e1]
  simp only [kX1_init_233o, List.foldl_append, List.foldl_cons, List.foldl_nil]
set_option maxRecDepth 1000000 in
def kX8_init_240o : List OpT := [(0, 0, 0, 0), (1, 240, 0, 241), (0, 0, 0, 0), (1, 240, 1, 242), (0, 0, 0, 0), (1, 240, 2, 243)]
set_option maxRecDepth 1000000 in
theorem kX8_init_240 (m : JMem) (hN : mN m = 241) : JC MX8_init 1 3 1033 [.ref 240] m (fun v m1 => v = none ∧ m1 = List.foldl op1 m kX8_init_240o) := by
  show JT MX8_init 1 3 1033 0 [(0, .ref 240)] [] m _
  refine JT_aload_n (q := 0) dX8_init_0 rfl rfl ?_
  refine JT_obj (d2 := 0) dX8_init_1 mlX8_3 (Nat.le_of_ble_eq_true rfl) rfl ?_
  refine JT_aload_n (q := 0) dX8_init_4 rfl rfl ?_
  refine JT_bipush (v := 9) dX8_init_5 (by decide) ?_
  refine JT_newa_int (mc := 2) (ms := 1024) (N := 9) dX8_init_7 aw_int (by rw [hN]; exact BS_241) (by decide) (by decide) (by decide) ?_
  rw [hN]
  rw [show wN m = op1 m (0, 0, 0, 0) from rfl]
  obtain ⟨m1, e1⟩ : ∃ z, z = op1 m (0, 0, 0, 0) := ⟨_, rfl⟩
  rw [← e1]
  have hN1 : mN m1 = 242 := by rw [e1]; show mN m + 1 = _; rw [hN]
  refine JT_putF dX8_init_9 flX8_9 BS_240 (Nat.le_of_ble_eq_true rfl) (by rw [hN1]; decide) (Or.inr ⟨_, ct_8_0⟩) rfl (fun _ h => by cases h; rfl) ?_
  rw [show wR m1 240 0 241 = op1 m1 (1, 240, 0, 241) from rfl]
  obtain ⟨m2, e2⟩ : ∃ z, z = op1 m1 (1, 240, 0, 241) := ⟨_, rfl⟩
  rw [← e2]
  have hN2 : mN m2 = 242 := by rw [e2]; exact hN1
  refine JT_aload_n (q := 0) dX8_init_12 rfl rfl ?_
  refine JT_sipush (v := 512) dX8_init_13 (by decide) ?_
  refine JT_newa_int (mc := 1) (ms := 512) (N := 512) dX8_init_16 aw_int (by rw [hN2]; exact BS_242) (by decide) (by decide) (by decide) ?_
  rw [hN2]
  rw [show wN m2 = op1 m2 (0, 0, 0, 0) from rfl]
  obtain ⟨m3, e3⟩ : ∃ z, z = op1 m2 (0, 0, 0, 0) := ⟨_, rfl⟩
  rw [← e3]
  have hN3 : mN m3 = 243 := by rw [e3]; show mN m2 + 1 = _; rw [hN2]
  refine JT_putF dX8_init_18 flX8_15 BS_240 (Nat.le_of_ble_eq_true rfl) (by rw [hN3]; decide) (Or.inr ⟨_, ct_8_1⟩) rfl (fun _ h => by cases h; rfl) ?_
  rw [show wR m3 240 1 242 = op1 m3 (1, 240, 1, 242) from rfl]
  obtain ⟨m4, e4⟩ : ∃ z, z = op1 m3 (1, 240, 1, 242) := ⟨_, rfl⟩
  rw [← e4]
  have hN4 : mN m4 = 243 := by rw [e4]; exact hN3
  refine JT_aload_n (q := 0) dX8_init_21 rfl rfl ?_
  refine JT_sipush (v := 512) dX8_init_22 (by decide) ?_
  refine JT_newa_int (mc := 0) (ms := 0) (N := 512) dX8_init_25 aw_int (by rw [hN4]; exact BS_243) (by decide) (by decide) (by decide) ?_
  rw [hN4]
  rw [show wN m4 = op1 m4 (0, 0, 0, 0) from rfl]
  obtain ⟨m5, e5⟩ : ∃ z, z = op1 m4 (0, 0, 0, 0) := ⟨_, rfl⟩
  rw [← e5]
  have hN5 : mN m5 = 244 := by rw [e5]; show mN m4 + 1 = _; rw [hN4]
  refine JT_putF dX8_init_27 flX8_18 BS_240 (Nat.le_of_ble_eq_true rfl) (by rw [hN5]; decide) (Or.inr ⟨_, ct_8_2⟩) rfl (fun _ h => by cases h; rfl) ?_
  rw [show wR m5 240 2 243 = op1 m5 (1, 240, 2, 243) from rfl]
  obtain ⟨m6, e6⟩ : ∃ z, z = op1 m5 (1, 240, 2, 243) := ⟨_, rfl⟩
  rw [← e6]
  have hN6 : mN m6 = 244 := by rw [e6]; exact hN5
  refine JT_vret (st := []) dX8_init_30 rfl ⟨trivial, rfl, ?_⟩
  rw [e6, e5, e4, e3, e2, e1]
  simp only [kX8_init_240o, List.foldl_append, List.foldl_cons, List.foldl_nil]
set_option maxRecDepth 1000000 in
def kX10_init_244o : List OpT := [(0, 0, 0, 0), (1, 244, 1, 245)]
set_option maxRecDepth 1000000 in
theorem kX10_init_244 (m : JMem) (hN : mN m = 245) : JC MX10_init 1 1 2640 [.ref 244] m (fun v m1 => v = none ∧ m1 = List.foldl op1 m kX10_init_244o) := by
  show JT MX10_init 1 1 2640 0 [(0, .ref 244)] [] m _
  refine JT_aload_n (q := 0) dX10_init_0 rfl rfl ?_
  refine JT_obj (d2 := 0) dX10_init_1 mlX10_3 (Nat.le_of_ble_eq_true rfl) rfl ?_
  refine JT_aload_n (q := 0) dX10_init_4 rfl rfl ?_
  refine JT_sipush (v := 2640) dX10_init_5 (by decide) ?_
  refine JT_newa_int (mc := 0) (ms := 0) (N := 2640) dX10_init_8 aw_int (by rw [hN]; exact BS_245) (by decide) (by decide) (by decide) ?_
  rw [hN]
  rw [show wN m = op1 m (0, 0, 0, 0) from rfl]
  obtain ⟨m1, e1⟩ : ∃ z, z = op1 m (0, 0, 0, 0) := ⟨_, rfl⟩
  rw [← e1]
  have hN1 : mN m1 = 246 := by rw [e1]; show mN m + 1 = _; rw [hN]
  refine JT_putF dX10_init_10 flX10_11 BS_244 (Nat.le_of_ble_eq_true rfl) (by rw [hN1]; decide) (Or.inr ⟨_, ct_10_1⟩) rfl (fun _ h => by cases h; rfl) ?_
  rw [show wR m1 244 1 245 = op1 m1 (1, 244, 1, 245) from rfl]
  obtain ⟨m2, e2⟩ : ∃ z, z = op1 m1 (1, 244, 1, 245) := ⟨_, rfl⟩
  rw [← e2]
  have hN2 : mN m2 = 246 := by rw [e2]; exact hN1
  refine JT_vret (st := []) dX10_init_13 rfl ⟨trivial, rfl, ?_⟩
  rw [e2, e1]
  simp only [kX10_init_244o, List.foldl_append, List.foldl_cons, List.foldl_nil]
set_option maxRecDepth 1000000 in
def kX11_init_2o : List OpT := [(0, 0, 0, 0)] ++ (kX9_init_3o ++ ([(1, 2, 0, 3), (0, 0, 0, 0)] ++ (kX6_init_5o ++ ([(1, 2, 1, 5), (0, 0, 0, 0)] ++ (kX6_init_12o ++ ([(1, 2, 2, 12), (0, 0, 0, 0)] ++ (kX0_init_19o ++ ([(1, 2, 3, 19), (0, 0, 0, 0)] ++ (kX0_init_25o ++ ([(1, 2, 4, 25), (0, 0, 0, 0)] ++ (kX4_init_31o ++ ([(1, 2, 5, 31), (0, 0, 0, 0)] ++ (kX4_init_43o ++ ([(1, 2, 6, 43), (0, 0, 0, 0)] ++ (kX2_init_55o ++ ([(1, 2, 7, 55), (0, 0, 0, 0), (0, 0, 0, 0)] ++ (kX3_init_166o ++ ([(1, 165, 0, 166), (0, 0, 0, 0)] ++ (kX3_init_192o ++ ([(1, 165, 1, 192), (1, 2, 8, 165), (0, 0, 0, 0)] ++ (kX7_init_218o ++ ([(1, 2, 9, 218), (0, 0, 0, 0)] ++ (kX5_init_225o ++ ([(1, 2, 10, 225), (0, 0, 0, 0)] ++ (kX1_init_233o ++ ([(1, 2, 11, 233), (0, 0, 0, 0)] ++ (kX8_init_240o ++ ([(1, 2, 12, 240), (0, 0, 0, 0)] ++ (kX10_init_244o ++ ([(1, 2, 13, 244), (0, 0, 0, 0), (1, 2, 14, 246), (0, 0, 0, 0), (1, 2, 16, 247)]))))))))))))))))))))))))))))))
set_option maxHeartbeats 20000000 in
set_option maxRecDepth 1000000 in
theorem kX11_init_2 (m : JMem) (hN : mN m = 3) : JC MX11_init 3 245 13131 [.ref 2] m (fun v m1 => v = none ∧ m1 = List.foldl op1 m kX11_init_2o) := by
  show JT MX11_init 3 245 13131 0 [(0, .ref 2)] [] m _
  refine JT_aload_n (q := 0) dX11_init_0 rfl rfl ?_
  refine JT_obj (d2 := 2) dX11_init_1 mlX11_1 (Nat.le_of_ble_eq_true rfl) rfl ?_
  refine JT_aload_n (q := 0) dX11_init_4 rfl rfl ?_
  refine JT_new (mc := 244) (ms := 13121) (N := 10) dX11_init_5 clX11_7 (by rw [hN]; exact BS_3) ?_
  rw [hN]
  rw [show wN m = op1 m (0, 0, 0, 0) from rfl]
  obtain ⟨m1, e1⟩ : ∃ z, z = op1 m (0, 0, 0, 0) := ⟨_, rfl⟩
  rw [← e1]
  have hN1 : mN m1 = 4 := by rw [e1]; show mN m + 1 = _; rw [hN]
  refine JT_dup dX11_init_8 rfl ?_
  refine JT_callIN (d := 2) (mc1 := 1) (ms1 := 640) (mc := 243) (ms := 12481) (As := []) (rest := [.ref 3, .ref 2]) dX11_init_9 cvX11_9 okX9_init rfl (Nat.le_of_ble_eq_true rfl) BS_3 (Nat.le_of_ble_eq_true rfl) (by rw [hN1]; decide) hci_9 rfl (Nat.le_of_ble_eq_true rfl) (JT_room (d2 := 1) (kX9_init_3 m1 hN1) (Nat.le_of_ble_eq_true rfl) (Nat.le_refl _) (Nat.le_refl _)) (fun v mz hq => ?_)
  obtain ⟨rfl, rfl⟩ := hq
  show JT _ _ _ _ _ _ [.ref 3, .ref 2] _ _
  obtain ⟨m2, e2⟩ : ∃ z, z = List.foldl op1 m1 kX9_init_3o := ⟨_, rfl⟩
  rw [← e2]
  have hN2 : mN m2 = 5 := by rw [e2, mN_fold, hN1]; rfl
  refine JT_putF dX11_init_12 flX11_10 BS_2 (Nat.le_of_ble_eq_true rfl) (by rw [hN2]; decide) (Or.inl ⟨_, ct_11_0⟩) rfl (fun _ h => by cases h; rfl) ?_
  rw [show wR m2 2 0 3 = op1 m2 (1, 2, 0, 3) from rfl]
  obtain ⟨m3, e3⟩ : ∃ z, z = op1 m2 (1, 2, 0, 3) := ⟨_, rfl⟩
  rw [← e3]
  have hN3 : mN m3 = 5 := by rw [e3]; exact hN2
  refine JT_aload_n (q := 0) dX11_init_15 rfl rfl ?_
  refine JT_new (mc := 242) (ms := 12467) (N := 14) dX11_init_16 clX11_16 (by rw [hN3]; exact BS_5) ?_
  rw [hN3]
  rw [show wN m3 = op1 m3 (0, 0, 0, 0) from rfl]
  obtain ⟨m4, e4⟩ : ∃ z, z = op1 m3 (0, 0, 0, 0) := ⟨_, rfl⟩
  rw [← e4]
  have hN4 : mN m4 = 6 := by rw [e4]; show mN m3 + 1 = _; rw [hN3]
  refine JT_dup dX11_init_19 rfl ?_
  refine JT_callIN (d := 2) (mc1 := 6) (ms1 := 45) (mc := 236) (ms := 12422) (As := []) (rest := [.ref 5, .ref 2]) dX11_init_20 cvX11_18 okX6_init rfl (Nat.le_of_ble_eq_true rfl) BS_5 (Nat.le_of_ble_eq_true rfl) (by rw [hN4]; decide) hci_6 rfl (Nat.le_of_ble_eq_true rfl) (JT_room (d2 := 1) (kX6_init_5 m4 hN4) (Nat.le_of_ble_eq_true rfl) (Nat.le_refl _) (Nat.le_refl _)) (fun v mz hq => ?_)
  obtain ⟨rfl, rfl⟩ := hq
  show JT _ _ _ _ _ _ [.ref 5, .ref 2] _ _
  obtain ⟨m5, e5⟩ : ∃ z, z = List.foldl op1 m4 kX6_init_5o := ⟨_, rfl⟩
  rw [← e5]
  have hN5 : mN m5 = 12 := by rw [e5, mN_fold, hN4]; rfl
  refine JT_putF dX11_init_23 flX11_19 BS_2 (Nat.le_of_ble_eq_true rfl) (by rw [hN5]; decide) (Or.inl ⟨_, ct_11_1⟩) rfl (fun _ h => by cases h; rfl) ?_
  rw [show wR m5 2 1 5 = op1 m5 (1, 2, 1, 5) from rfl]
  obtain ⟨m6, e6⟩ : ∃ z, z = op1 m5 (1, 2, 1, 5) := ⟨_, rfl⟩
  rw [← e6]
  have hN6 : mN m6 = 12 := by rw [e6]; exact hN5
  have r6_2_1 : mR m6 2 1 = some 5 := by rw [e6]; show mR (wR m5 2 1 5) _ _ = _; rw [mR_wR, if_pos ⟨rfl, rfl⟩]
  refine JT_aload_n (q := 0) dX11_init_26 rfl rfl ?_
  refine JT_new (mc := 235) (ms := 12408) (N := 14) dX11_init_27 clX11_16 (by rw [hN6]; exact BS_12) ?_
  rw [hN6]
  rw [show wN m6 = op1 m6 (0, 0, 0, 0) from rfl]
  obtain ⟨m7, e7⟩ : ∃ z, z = op1 m6 (0, 0, 0, 0) := ⟨_, rfl⟩
  rw [← e7]
  have hN7 : mN m7 = 13 := by rw [e7]; show mN m6 + 1 = _; rw [hN6]
  have r7_2_1 : mR m7 2 1 = some 5 := by rw [e7]; exact r6_2_1
  refine JT_dup dX11_init_30 rfl ?_
  refine JT_callIN (d := 2) (mc1 := 6) (ms1 := 45) (mc := 229) (ms := 12363) (As := []) (rest := [.ref 12, .ref 2]) dX11_init_31 cvX11_18 okX6_init rfl (Nat.le_of_ble_eq_true rfl) BS_12 (Nat.le_of_ble_eq_true rfl) (by rw [hN7]; decide) hci_6 rfl (Nat.le_of_ble_eq_true rfl) (JT_room (d2 := 1) (kX6_init_12 m7 hN7) (Nat.le_of_ble_eq_true rfl) (Nat.le_refl _) (Nat.le_refl _)) (fun v mz hq => ?_)
  obtain ⟨rfl, rfl⟩ := hq
  show JT _ _ _ _ _ _ [.ref 12, .ref 2] _ _
  obtain ⟨m8, e8⟩ : ∃ z, z = List.foldl op1 m7 kX6_init_12o := ⟨_, rfl⟩
  rw [← e8]
  have hN8 : mN m8 = 19 := by rw [e8, mN_fold, hN7]; rfl
  have r8_2_1 : mR m8 2 1 = some 5 := by rw [e8]; exact (mR_fold _ _ 2 rfl _).trans r7_2_1
  refine JT_putF dX11_init_34 flX11_23 BS_2 (Nat.le_of_ble_eq_true rfl) (by rw [hN8]; decide) (Or.inl ⟨_, ct_11_2⟩) rfl (fun _ h => by cases h; rfl) ?_
  rw [show wR m8 2 2 12 = op1 m8 (1, 2, 2, 12) from rfl]
  obtain ⟨m9, e9⟩ : ∃ z, z = op1 m8 (1, 2, 2, 12) := ⟨_, rfl⟩
  rw [← e9]
  have hN9 : mN m9 = 19 := by rw [e9]; exact hN8
  have r9_2_1 : mR m9 2 1 = some 5 := by rw [e9]; show mR (wR m8 2 2 12) _ _ = _; rw [mR_wR, if_neg (by decide)]; exact r8_2_1
  refine JT_aload_n (q := 0) dX11_init_37 rfl rfl ?_
  refine JT_new (mc := 228) (ms := 12357) (N := 6) dX11_init_38 clX11_26 (by rw [hN9]; exact BS_19) ?_
  rw [hN9]
  rw [show wN m9 = op1 m9 (0, 0, 0, 0) from rfl]
  obtain ⟨m10, e10⟩ : ∃ z, z = op1 m9 (0, 0, 0, 0) := ⟨_, rfl⟩
  rw [← e10]
  have hN10 : mN m10 = 20 := by rw [e10]; show mN m9 + 1 = _; rw [hN9]
  have r10_2_1 : mR m10 2 1 = some 5 := by rw [e10]; exact r9_2_1
  refine JT_dup dX11_init_41 rfl ?_
  refine JT_callIN (d := 2) (mc1 := 5) (ms1 := 200) (mc := 223) (ms := 12157) (As := []) (rest := [.ref 19, .ref 2]) dX11_init_42 cvX11_28 okX0_init rfl (Nat.le_of_ble_eq_true rfl) BS_19 (Nat.le_of_ble_eq_true rfl) (by rw [hN10]; decide) hci_0 rfl (Nat.le_of_ble_eq_true rfl) (JT_room (d2 := 1) (kX0_init_19 m10 hN10) (Nat.le_of_ble_eq_true rfl) (Nat.le_refl _) (Nat.le_refl _)) (fun v mz hq => ?_)
  obtain ⟨rfl, rfl⟩ := hq
  show JT _ _ _ _ _ _ [.ref 19, .ref 2] _ _
  obtain ⟨m11, e11⟩ : ∃ z, z = List.foldl op1 m10 kX0_init_19o := ⟨_, rfl⟩
  rw [← e11]
  have hN11 : mN m11 = 25 := by rw [e11, mN_fold, hN10]; rfl
  have r11_2_1 : mR m11 2 1 = some 5 := by rw [e11]; exact (mR_fold _ _ 2 rfl _).trans r10_2_1
  refine JT_putF dX11_init_45 flX11_29 BS_2 (Nat.le_of_ble_eq_true rfl) (by rw [hN11]; decide) (Or.inl ⟨_, ct_11_3⟩) rfl (fun _ h => by cases h; rfl) ?_
  rw [show wR m11 2 3 19 = op1 m11 (1, 2, 3, 19) from rfl]
  obtain ⟨m12, e12⟩ : ∃ z, z = op1 m11 (1, 2, 3, 19) := ⟨_, rfl⟩
  rw [← e12]
  have hN12 : mN m12 = 25 := by rw [e12]; exact hN11
  have r12_2_1 : mR m12 2 1 = some 5 := by rw [e12]; show mR (wR m11 2 3 19) _ _ = _; rw [mR_wR, if_neg (by decide)]; exact r11_2_1
  refine JT_aload_n (q := 0) dX11_init_48 rfl rfl ?_
  refine JT_new (mc := 222) (ms := 12151) (N := 6) dX11_init_49 clX11_26 (by rw [hN12]; exact BS_25) ?_
  rw [hN12]
  rw [show wN m12 = op1 m12 (0, 0, 0, 0) from rfl]
  obtain ⟨m13, e13⟩ : ∃ z, z = op1 m12 (0, 0, 0, 0) := ⟨_, rfl⟩
  rw [← e13]
  have hN13 : mN m13 = 26 := by rw [e13]; show mN m12 + 1 = _; rw [hN12]
  have r13_2_1 : mR m13 2 1 = some 5 := by rw [e13]; exact r12_2_1
  refine JT_dup dX11_init_52 rfl ?_
  refine JT_callIN (d := 2) (mc1 := 5) (ms1 := 200) (mc := 217) (ms := 11951) (As := []) (rest := [.ref 25, .ref 2]) dX11_init_53 cvX11_28 okX0_init rfl (Nat.le_of_ble_eq_true rfl) BS_25 (Nat.le_of_ble_eq_true rfl) (by rw [hN13]; decide) hci_0 rfl (Nat.le_of_ble_eq_true rfl) (JT_room (d2 := 1) (kX0_init_25 m13 hN13) (Nat.le_of_ble_eq_true rfl) (Nat.le_refl _) (Nat.le_refl _)) (fun v mz hq => ?_)
  obtain ⟨rfl, rfl⟩ := hq
  show JT _ _ _ _ _ _ [.ref 25, .ref 2] _ _
  obtain ⟨m14, e14⟩ : ∃ z, z = List.foldl op1 m13 kX0_init_25o := ⟨_, rfl⟩
  rw [← e14]
  have hN14 : mN m14 = 31 := by rw [e14, mN_fold, hN13]; rfl
  have r14_2_1 : mR m14 2 1 = some 5 := by rw [e14]; exact (mR_fold _ _ 2 rfl _).trans r13_2_1
  refine JT_putF dX11_init_56 flX11_33 BS_2 (Nat.le_of_ble_eq_true rfl) (by rw [hN14]; decide) (Or.inl ⟨_, ct_11_4⟩) rfl (fun _ h => by cases h; rfl) ?_
  rw [show wR m14 2 4 25 = op1 m14 (1, 2, 4, 25) from rfl]
  obtain ⟨m15, e15⟩ : ∃ z, z = op1 m14 (1, 2, 4, 25) := ⟨_, rfl⟩
  rw [← e15]
  have hN15 : mN m15 = 31 := by rw [e15]; exact hN14
  have r15_2_1 : mR m15 2 1 = some 5 := by rw [e15]; show mR (wR m14 2 4 25) _ _ = _; rw [mR_wR, if_neg (by decide)]; exact r14_2_1
  refine JT_aload_n (q := 0) dX11_init_59 rfl rfl ?_
  refine JT_new (mc := 216) (ms := 11936) (N := 15) dX11_init_60 clX11_36 (by rw [hN15]; exact BS_31) ?_
  rw [hN15]
  rw [show wN m15 = op1 m15 (0, 0, 0, 0) from rfl]
  obtain ⟨m16, e16⟩ : ∃ z, z = op1 m15 (0, 0, 0, 0) := ⟨_, rfl⟩
  rw [← e16]
  have hN16 : mN m16 = 32 := by rw [e16]; show mN m15 + 1 = _; rw [hN15]
  have r16_2_1 : mR m16 2 1 = some 5 := by rw [e16]; exact r15_2_1
  refine JT_dup dX11_init_63 rfl ?_
  refine JT_aload_n (q := 0) dX11_init_64 rfl rfl ?_
  refine JT_getR (x := 5) dX11_init_65 flX11_19 BS_2 (Nat.le_of_ble_eq_true rfl) (by rw [hN16]; decide) (Or.inl ⟨_, ct_11_1⟩) r16_2_1 ?_
  refine JT_callI (d := 2) (mc1 := 11) (ms1 := 558) (mc := 205) (ms := 11378) (As := [.ref 5]) (rest := [.ref 31, .ref 2]) dX11_init_68 cvX11_38 okX4_init rfl (Nat.le_of_ble_eq_true rfl) BS_31 (Nat.le_of_ble_eq_true rfl) (by rw [hN16]; decide) hci_4 rfl (Nat.le_of_ble_eq_true rfl) (JT_room (d2 := 1) (kX4_init_31 m16 hN16) (Nat.le_of_ble_eq_true rfl) (Nat.le_refl _) (Nat.le_refl _)) (fun v mz hq => ?_)
  obtain ⟨rfl, rfl⟩ := hq
  show JT _ _ _ _ _ _ [.ref 31, .ref 2] _ _
  obtain ⟨m17, e17⟩ : ∃ z, z = List.foldl op1 m16 kX4_init_31o := ⟨_, rfl⟩
  rw [← e17]
  have hN17 : mN m17 = 43 := by rw [e17, mN_fold, hN16]; rfl
  have r17_2_1 : mR m17 2 1 = some 5 := by rw [e17]; exact (mR_fold _ _ 2 rfl _).trans r16_2_1
  refine JT_putF dX11_init_71 flX11_41 BS_2 (Nat.le_of_ble_eq_true rfl) (by rw [hN17]; decide) (Or.inl ⟨_, ct_11_5⟩) rfl (fun _ h => by cases h; rfl) ?_
  rw [show wR m17 2 5 31 = op1 m17 (1, 2, 5, 31) from rfl]
  obtain ⟨m18, e18⟩ : ∃ z, z = op1 m17 (1, 2, 5, 31) := ⟨_, rfl⟩
  rw [← e18]
  have hN18 : mN m18 = 43 := by rw [e18]; exact hN17
  have r18_2_1 : mR m18 2 1 = some 5 := by rw [e18]; show mR (wR m17 2 5 31) _ _ = _; rw [mR_wR, if_neg (by decide)]; exact r17_2_1
  refine JT_aload_n (q := 0) dX11_init_74 rfl rfl ?_
  refine JT_new (mc := 204) (ms := 11363) (N := 15) dX11_init_75 clX11_36 (by rw [hN18]; exact BS_43) ?_
  rw [hN18]
  rw [show wN m18 = op1 m18 (0, 0, 0, 0) from rfl]
  obtain ⟨m19, e19⟩ : ∃ z, z = op1 m18 (0, 0, 0, 0) := ⟨_, rfl⟩
  rw [← e19]
  have hN19 : mN m19 = 44 := by rw [e19]; show mN m18 + 1 = _; rw [hN18]
  have r19_2_1 : mR m19 2 1 = some 5 := by rw [e19]; exact r18_2_1
  refine JT_dup dX11_init_78 rfl ?_
  refine JT_aload_n (q := 0) dX11_init_79 rfl rfl ?_
  refine JT_getR (x := 5) dX11_init_80 flX11_19 BS_2 (Nat.le_of_ble_eq_true rfl) (by rw [hN19]; decide) (Or.inl ⟨_, ct_11_1⟩) r19_2_1 ?_
  refine JT_callI (d := 2) (mc1 := 11) (ms1 := 558) (mc := 193) (ms := 10805) (As := [.ref 5]) (rest := [.ref 43, .ref 2]) dX11_init_83 cvX11_38 okX4_init rfl (Nat.le_of_ble_eq_true rfl) BS_43 (Nat.le_of_ble_eq_true rfl) (by rw [hN19]; decide) hci_4 rfl (Nat.le_of_ble_eq_true rfl) (JT_room (d2 := 1) (kX4_init_43 m19 hN19) (Nat.le_of_ble_eq_true rfl) (Nat.le_refl _) (Nat.le_refl _)) (fun v mz hq => ?_)
  obtain ⟨rfl, rfl⟩ := hq
  show JT _ _ _ _ _ _ [.ref 43, .ref 2] _ _
  obtain ⟨m20, e20⟩ : ∃ z, z = List.foldl op1 m19 kX4_init_43o := ⟨_, rfl⟩
  rw [← e20]
  have hN20 : mN m20 = 55 := by rw [e20, mN_fold, hN19]; rfl
  have r20_2_1 : mR m20 2 1 = some 5 := by rw [e20]; exact (mR_fold _ _ 2 rfl _).trans r19_2_1
  refine JT_putF dX11_init_86 flX11_45 BS_2 (Nat.le_of_ble_eq_true rfl) (by rw [hN20]; decide) (Or.inl ⟨_, ct_11_6⟩) rfl (fun _ h => by cases h; rfl) ?_
  rw [show wR m20 2 6 43 = op1 m20 (1, 2, 6, 43) from rfl]
  obtain ⟨m21, e21⟩ : ∃ z, z = op1 m20 (1, 2, 6, 43) := ⟨_, rfl⟩
  rw [← e21]
  have hN21 : mN m21 = 55 := by rw [e21]; exact hN20
  have r21_2_1 : mR m21 2 1 = some 5 := by rw [e21]; show mR (wR m20 2 6 43) _ _ = _; rw [mR_wR, if_neg (by decide)]; exact r20_2_1
  refine JT_aload_n (q := 0) dX11_init_89 rfl rfl ?_
  refine JT_new (mc := 192) (ms := 10802) (N := 3) dX11_init_90 clX11_48 (by rw [hN21]; exact BS_55) ?_
  rw [hN21]
  rw [show wN m21 = op1 m21 (0, 0, 0, 0) from rfl]
  obtain ⟨m22, e22⟩ : ∃ z, z = op1 m21 (0, 0, 0, 0) := ⟨_, rfl⟩
  rw [← e22]
  have hN22 : mN m22 = 56 := by rw [e22]; show mN m21 + 1 = _; rw [hN21]
  have r22_2_1 : mR m22 2 1 = some 5 := by rw [e22]; exact r21_2_1
  refine JT_dup dX11_init_93 rfl ?_
  refine JT_aload_n (q := 0) dX11_init_94 rfl rfl ?_
  refine JT_getR (x := 5) dX11_init_95 flX11_19 BS_2 (Nat.le_of_ble_eq_true rfl) (by rw [hN22]; decide) (Or.inl ⟨_, ct_11_1⟩) r22_2_1 ?_
  refine JT_callI (d := 2) (mc1 := 109) (ms1 := 5166) (mc := 83) (ms := 5636) (As := [.ref 5]) (rest := [.ref 55, .ref 2]) dX11_init_98 cvX11_50 okX2_init rfl (Nat.le_of_ble_eq_true rfl) BS_55 (Nat.le_of_ble_eq_true rfl) (by rw [hN22]; decide) hci_2 rfl (Nat.le_of_ble_eq_true rfl) (JT_room (d2 := 2) (kX2_init_55 m22 hN22) (Nat.le_of_ble_eq_true rfl) (Nat.le_refl _) (Nat.le_refl _)) (fun v mz hq => ?_)
  obtain ⟨rfl, rfl⟩ := hq
  show JT _ _ _ _ _ _ [.ref 55, .ref 2] _ _
  obtain ⟨m23, e23⟩ : ∃ z, z = List.foldl op1 m22 kX2_init_55o := ⟨_, rfl⟩
  rw [← e23]
  have hN23 : mN m23 = 165 := by rw [e23, mN_fold, hN22]; rfl
  have r23_2_1 : mR m23 2 1 = some 5 := by rw [e23]; exact (mR_fold _ _ 2 rfl _).trans r22_2_1
  refine JT_putF dX11_init_101 flX11_51 BS_2 (Nat.le_of_ble_eq_true rfl) (by rw [hN23]; decide) (Or.inl ⟨_, ct_11_7⟩) rfl (fun _ h => by cases h; rfl) ?_
  rw [show wR m23 2 7 55 = op1 m23 (1, 2, 7, 55) from rfl]
  obtain ⟨m24, e24⟩ : ∃ z, z = op1 m23 (1, 2, 7, 55) := ⟨_, rfl⟩
  rw [← e24]
  have hN24 : mN m24 = 165 := by rw [e24]; exact hN23
  have r24_2_1 : mR m24 2 1 = some 5 := by rw [e24]; show mR (wR m23 2 7 55) _ _ = _; rw [mR_wR, if_neg (by decide)]; exact r23_2_1
  refine JT_aload_n (q := 0) dX11_init_104 rfl rfl ?_
  refine JT_iconst (v := 2) dX11_init_105 (by decide) ?_
  refine JT_anewa (mc := 82) (ms := 5634) (N := 2) dX11_init_106 caX11_55 ao_Image (by rw [hN24]; exact BS_165) (by decide) (by decide) (by decide) ?_
  rw [hN24]
  rw [show wN m24 = op1 m24 (0, 0, 0, 0) from rfl]
  obtain ⟨m25, e25⟩ : ∃ z, z = op1 m24 (0, 0, 0, 0) := ⟨_, rfl⟩
  rw [← e25]
  have hN25 : mN m25 = 166 := by rw [e25]; show mN m24 + 1 = _; rw [hN24]
  have r25_2_1 : mR m25 2 1 = some 5 := by rw [e25]; exact r24_2_1
  refine JT_dup dX11_init_109 rfl ?_
  refine JT_iconst (v := 0) dX11_init_110 (by decide) ?_
  refine JT_new (mc := 81) (ms := 5630) (N := 4) dX11_init_111 clX11_55 (by rw [hN25]; exact BS_166) ?_
  rw [hN25]
  rw [show wN m25 = op1 m25 (0, 0, 0, 0) from rfl]
  obtain ⟨m26, e26⟩ : ∃ z, z = op1 m25 (0, 0, 0, 0) := ⟨_, rfl⟩
  rw [← e26]
  have hN26 : mN m26 = 167 := by rw [e26]; show mN m25 + 1 = _; rw [hN25]
  have r26_2_1 : mR m26 2 1 = some 5 := by rw [e26]; exact r25_2_1
  refine JT_dup dX11_init_114 rfl ?_
  refine JT_callIN (d := 2) (mc1 := 25) (ms1 := 838) (mc := 56) (ms := 4792) (As := []) (rest := [.ref 166, .int (0), .ref 165, .ref 165, .ref 2]) dX11_init_115 cvX11_57 okX3_init rfl (Nat.le_of_ble_eq_true rfl) BS_166 (Nat.le_of_ble_eq_true rfl) (by rw [hN26]; decide) hci_3 rfl (Nat.le_of_ble_eq_true rfl) (JT_room (d2 := 2) (kX3_init_166 m26 hN26) (Nat.le_of_ble_eq_true rfl) (Nat.le_refl _) (Nat.le_refl _)) (fun v mz hq => ?_)
  obtain ⟨rfl, rfl⟩ := hq
  show JT _ _ _ _ _ _ [.ref 166, .int (0), .ref 165, .ref 165, .ref 2] _ _
  obtain ⟨m27, e27⟩ : ∃ z, z = List.foldl op1 m26 kX3_init_166o := ⟨_, rfl⟩
  rw [← e27]
  have hN27 : mN m27 = 192 := by rw [e27, mN_fold, hN26]; rfl
  have r27_2_1 : mR m27 2 1 = some 5 := by rw [e27]; exact (mR_fold _ _ 2 rfl _).trans r26_2_1
  refine JT_aast (ci := 3) (r := (RX3, TX3, 4)) dX11_init_118 BS_165 (Nat.le_of_ble_eq_true rfl) (by rw [hN27]; decide) (by unfold vp_in; decide) BS_166 (Nat.le_of_ble_eq_true rfl) (by rw [hN27]; decide) rfl ?_
  rw [show ((0 : Int32)).toNatClampNeg = 0 from by decide]
  rw [show wR m27 165 0 166 = op1 m27 (1, 165, 0, 166) from rfl]
  obtain ⟨m28, e28⟩ : ∃ z, z = op1 m27 (1, 165, 0, 166) := ⟨_, rfl⟩
  rw [← e28]
  have hN28 : mN m28 = 192 := by rw [e28]; exact hN27
  have r28_2_1 : mR m28 2 1 = some 5 := by rw [e28]; show mR (wR m27 165 0 166) _ _ = _; rw [mR_wR, if_neg (by decide)]; exact r27_2_1
  refine JT_dup dX11_init_119 rfl ?_
  refine JT_iconst (v := 1) dX11_init_120 (by decide) ?_
  refine JT_new (mc := 55) (ms := 4788) (N := 4) dX11_init_121 clX11_55 (by rw [hN28]; exact BS_192) ?_
  rw [hN28]
  rw [show wN m28 = op1 m28 (0, 0, 0, 0) from rfl]
  obtain ⟨m29, e29⟩ : ∃ z, z = op1 m28 (0, 0, 0, 0) := ⟨_, rfl⟩
  rw [← e29]
  have hN29 : mN m29 = 193 := by rw [e29]; show mN m28 + 1 = _; rw [hN28]
  have r29_2_1 : mR m29 2 1 = some 5 := by rw [e29]; exact r28_2_1
  refine JT_dup dX11_init_124 rfl ?_
  refine JT_callIN (d := 2) (mc1 := 25) (ms1 := 838) (mc := 30) (ms := 3950) (As := []) (rest := [.ref 192, .int (1), .ref 165, .ref 165, .ref 2]) dX11_init_125 cvX11_57 okX3_init rfl (Nat.le_of_ble_eq_true rfl) BS_192 (Nat.le_of_ble_eq_true rfl) (by rw [hN29]; decide) hci_3 rfl (Nat.le_of_ble_eq_true rfl) (JT_room (d2 := 2) (kX3_init_192 m29 hN29) (Nat.le_of_ble_eq_true rfl) (Nat.le_refl _) (Nat.le_refl _)) (fun v mz hq => ?_)
  obtain ⟨rfl, rfl⟩ := hq
  show JT _ _ _ _ _ _ [.ref 192, .int (1), .ref 165, .ref 165, .ref 2] _ _
  obtain ⟨m30, e30⟩ : ∃ z, z = List.foldl op1 m29 kX3_init_192o := ⟨_, rfl⟩
  rw [← e30]
  have hN30 : mN m30 = 218 := by rw [e30, mN_fold, hN29]; rfl
  have r30_2_1 : mR m30 2 1 = some 5 := by rw [e30]; exact (mR_fold _ _ 2 rfl _).trans r29_2_1
  refine JT_aast (ci := 3) (r := (RX3, TX3, 4)) dX11_init_128 BS_165 (Nat.le_of_ble_eq_true rfl) (by rw [hN30]; decide) (by unfold vp_in; decide) BS_192 (Nat.le_of_ble_eq_true rfl) (by rw [hN30]; decide) rfl ?_
  rw [show ((1 : Int32)).toNatClampNeg = 1 from by decide]
  rw [show wR m30 165 1 192 = op1 m30 (1, 165, 1, 192) from rfl]
  obtain ⟨m31, e31⟩ : ∃ z, z = op1 m30 (1, 165, 1, 192) := ⟨_, rfl⟩
  rw [← e31]
  have hN31 : mN m31 = 218 := by rw [e31]; exact hN30
  have r31_2_1 : mR m31 2 1 = some 5 := by rw [e31]; show mR (wR m30 165 1 192) _ _ = _; rw [mR_wR, if_neg (by decide)]; exact r30_2_1
  refine JT_putF dX11_init_129 flX11_58 BS_2 (Nat.le_of_ble_eq_true rfl) (by rw [hN31]; decide) (Or.inr ⟨_, ct_11_8⟩) rfl (fun _ h => by cases h; rfl) ?_
  rw [show wR m31 2 8 165 = op1 m31 (1, 2, 8, 165) from rfl]
  obtain ⟨m32, e32⟩ : ∃ z, z = op1 m31 (1, 2, 8, 165) := ⟨_, rfl⟩
  rw [← e32]
  have hN32 : mN m32 = 218 := by rw [e32]; exact hN31
  have r32_2_1 : mR m32 2 1 = some 5 := by rw [e32]; show mR (wR m31 2 8 165) _ _ = _; rw [mR_wR, if_neg (by decide)]; exact r31_2_1
  refine JT_aload_n (q := 0) dX11_init_132 rfl rfl ?_
  refine JT_new (mc := 29) (ms := 3938) (N := 12) dX11_init_133 clX11_62 (by rw [hN32]; exact BS_218) ?_
  rw [hN32]
  rw [show wN m32 = op1 m32 (0, 0, 0, 0) from rfl]
  obtain ⟨m33, e33⟩ : ∃ z, z = op1 m32 (0, 0, 0, 0) := ⟨_, rfl⟩
  rw [← e33]
  have hN33 : mN m33 = 219 := by rw [e33]; show mN m32 + 1 = _; rw [hN32]
  have r33_2_1 : mR m33 2 1 = some 5 := by rw [e33]; exact r32_2_1
  refine JT_dup dX11_init_136 rfl ?_
  refine JT_callIN (d := 2) (mc1 := 6) (ms1 := 148) (mc := 23) (ms := 3790) (As := []) (rest := [.ref 218, .ref 2]) dX11_init_137 cvX11_64 okX7_init rfl (Nat.le_of_ble_eq_true rfl) BS_218 (Nat.le_of_ble_eq_true rfl) (by rw [hN33]; decide) hci_7 rfl (Nat.le_of_ble_eq_true rfl) (JT_room (d2 := 1) (kX7_init_218 m33 hN33) (Nat.le_of_ble_eq_true rfl) (Nat.le_refl _) (Nat.le_refl _)) (fun v mz hq => ?_)
  obtain ⟨rfl, rfl⟩ := hq
  show JT _ _ _ _ _ _ [.ref 218, .ref 2] _ _
  obtain ⟨m34, e34⟩ : ∃ z, z = List.foldl op1 m33 kX7_init_218o := ⟨_, rfl⟩
  rw [← e34]
  have hN34 : mN m34 = 225 := by rw [e34, mN_fold, hN33]; rfl
  have r34_2_1 : mR m34 2 1 = some 5 := by rw [e34]; exact (mR_fold _ _ 2 rfl _).trans r33_2_1
  refine JT_putF dX11_init_140 flX11_65 BS_2 (Nat.le_of_ble_eq_true rfl) (by rw [hN34]; decide) (Or.inl ⟨_, ct_11_9⟩) rfl (fun _ h => by cases h; rfl) ?_
  rw [show wR m34 2 9 218 = op1 m34 (1, 2, 9, 218) from rfl]
  obtain ⟨m35, e35⟩ : ∃ z, z = op1 m34 (1, 2, 9, 218) := ⟨_, rfl⟩
  rw [← e35]
  have hN35 : mN m35 = 225 := by rw [e35]; exact hN34
  have r35_2_1 : mR m35 2 1 = some 5 := by rw [e35]; show mR (wR m34 2 9 218) _ _ = _; rw [mR_wR, if_neg (by decide)]; exact r34_2_1
  refine JT_aload_n (q := 0) dX11_init_143 rfl rfl ?_
  refine JT_new (mc := 22) (ms := 3779) (N := 11) dX11_init_144 clX11_69 (by rw [hN35]; exact BS_225) ?_
  rw [hN35]
  rw [show wN m35 = op1 m35 (0, 0, 0, 0) from rfl]
  obtain ⟨m36, e36⟩ : ∃ z, z = op1 m35 (0, 0, 0, 0) := ⟨_, rfl⟩
  rw [← e36]
  have hN36 : mN m36 = 226 := by rw [e36]; show mN m35 + 1 = _; rw [hN35]
  have r36_2_1 : mR m36 2 1 = some 5 := by rw [e36]; exact r35_2_1
  refine JT_dup dX11_init_147 rfl ?_
  refine JT_callIN (d := 2) (mc1 := 7) (ms1 := 45) (mc := 15) (ms := 3734) (As := []) (rest := [.ref 225, .ref 2]) dX11_init_148 cvX11_71 okX5_init rfl (Nat.le_of_ble_eq_true rfl) BS_225 (Nat.le_of_ble_eq_true rfl) (by rw [hN36]; decide) hci_5 rfl (Nat.le_of_ble_eq_true rfl) (JT_room (d2 := 1) (kX5_init_225 m36 hN36) (Nat.le_of_ble_eq_true rfl) (Nat.le_refl _) (Nat.le_refl _)) (fun v mz hq => ?_)
  obtain ⟨rfl, rfl⟩ := hq
  show JT _ _ _ _ _ _ [.ref 225, .ref 2] _ _
  obtain ⟨m37, e37⟩ : ∃ z, z = List.foldl op1 m36 kX5_init_225o := ⟨_, rfl⟩
  rw [← e37]
  have hN37 : mN m37 = 233 := by rw [e37, mN_fold, hN36]; rfl
  have r37_2_1 : mR m37 2 1 = some 5 := by rw [e37]; exact (mR_fold _ _ 2 rfl _).trans r36_2_1
  refine JT_putF dX11_init_151 flX11_72 BS_2 (Nat.le_of_ble_eq_true rfl) (by rw [hN37]; decide) (Or.inl ⟨_, ct_11_10⟩) rfl (fun _ h => by cases h; rfl) ?_
  rw [show wR m37 2 10 225 = op1 m37 (1, 2, 10, 225) from rfl]
  obtain ⟨m38, e38⟩ : ∃ z, z = op1 m37 (1, 2, 10, 225) := ⟨_, rfl⟩
  rw [← e38]
  have hN38 : mN m38 = 233 := by rw [e38]; exact hN37
  have r38_2_1 : mR m38 2 1 = some 5 := by rw [e38]; show mR (wR m37 2 10 225) _ _ = _; rw [mR_wR, if_neg (by decide)]; exact r37_2_1
  refine JT_aload_n (q := 0) dX11_init_154 rfl rfl ?_
  refine JT_new (mc := 14) (ms := 3722) (N := 12) dX11_init_155 clX11_76 (by rw [hN38]; exact BS_233) ?_
  rw [hN38]
  rw [show wN m38 = op1 m38 (0, 0, 0, 0) from rfl]
  obtain ⟨m39, e39⟩ : ∃ z, z = op1 m38 (0, 0, 0, 0) := ⟨_, rfl⟩
  rw [← e39]
  have hN39 : mN m39 = 234 := by rw [e39]; show mN m38 + 1 = _; rw [hN38]
  have r39_2_1 : mR m39 2 1 = some 5 := by rw [e39]; exact r38_2_1
  refine JT_dup dX11_init_158 rfl ?_
  refine JT_callIN (d := 2) (mc1 := 6) (ms1 := 34) (mc := 8) (ms := 3688) (As := []) (rest := [.ref 233, .ref 2]) dX11_init_159 cvX11_78 okX1_init rfl (Nat.le_of_ble_eq_true rfl) BS_233 (Nat.le_of_ble_eq_true rfl) (by rw [hN39]; decide) hci_1 rfl (Nat.le_of_ble_eq_true rfl) (JT_room (d2 := 1) (kX1_init_233 m39 hN39) (Nat.le_of_ble_eq_true rfl) (Nat.le_refl _) (Nat.le_refl _)) (fun v mz hq => ?_)
  obtain ⟨rfl, rfl⟩ := hq
  show JT _ _ _ _ _ _ [.ref 233, .ref 2] _ _
  obtain ⟨m40, e40⟩ : ∃ z, z = List.foldl op1 m39 kX1_init_233o := ⟨_, rfl⟩
  rw [← e40]
  have hN40 : mN m40 = 240 := by rw [e40, mN_fold, hN39]; rfl
  have r40_2_1 : mR m40 2 1 = some 5 := by rw [e40]; exact (mR_fold _ _ 2 rfl _).trans r39_2_1
  refine JT_putF dX11_init_162 flX11_79 BS_2 (Nat.le_of_ble_eq_true rfl) (by rw [hN40]; decide) (Or.inl ⟨_, ct_11_11⟩) rfl (fun _ h => by cases h; rfl) ?_
  rw [show wR m40 2 11 233 = op1 m40 (1, 2, 11, 233) from rfl]
  obtain ⟨m41, e41⟩ : ∃ z, z = op1 m40 (1, 2, 11, 233) := ⟨_, rfl⟩
  rw [← e41]
  have hN41 : mN m41 = 240 := by rw [e41]; exact hN40
  have r41_2_1 : mR m41 2 1 = some 5 := by rw [e41]; show mR (wR m40 2 11 233) _ _ = _; rw [mR_wR, if_neg (by decide)]; exact r40_2_1
  refine JT_aload_n (q := 0) dX11_init_165 rfl rfl ?_
  refine JT_new (mc := 7) (ms := 3685) (N := 3) dX11_init_166 clX11_83 (by rw [hN41]; exact BS_240) ?_
  rw [hN41]
  rw [show wN m41 = op1 m41 (0, 0, 0, 0) from rfl]
  obtain ⟨m42, e42⟩ : ∃ z, z = op1 m41 (0, 0, 0, 0) := ⟨_, rfl⟩
  rw [← e42]
  have hN42 : mN m42 = 241 := by rw [e42]; show mN m41 + 1 = _; rw [hN41]
  have r42_2_1 : mR m42 2 1 = some 5 := by rw [e42]; exact r41_2_1
  refine JT_dup dX11_init_169 rfl ?_
  refine JT_callIN (d := 2) (mc1 := 3) (ms1 := 1033) (mc := 4) (ms := 2652) (As := []) (rest := [.ref 240, .ref 2]) dX11_init_170 cvX11_85 okX8_init rfl (Nat.le_of_ble_eq_true rfl) BS_240 (Nat.le_of_ble_eq_true rfl) (by rw [hN42]; decide) hci_8 rfl (Nat.le_of_ble_eq_true rfl) (JT_room (d2 := 1) (kX8_init_240 m42 hN42) (Nat.le_of_ble_eq_true rfl) (Nat.le_refl _) (Nat.le_refl _)) (fun v mz hq => ?_)
  obtain ⟨rfl, rfl⟩ := hq
  show JT _ _ _ _ _ _ [.ref 240, .ref 2] _ _
  obtain ⟨m43, e43⟩ : ∃ z, z = List.foldl op1 m42 kX8_init_240o := ⟨_, rfl⟩
  rw [← e43]
  have hN43 : mN m43 = 244 := by rw [e43, mN_fold, hN42]; rfl
  have r43_2_1 : mR m43 2 1 = some 5 := by rw [e43]; exact (mR_fold _ _ 2 rfl _).trans r42_2_1
  refine JT_putF dX11_init_173 flX11_86 BS_2 (Nat.le_of_ble_eq_true rfl) (by rw [hN43]; decide) (Or.inl ⟨_, ct_11_12⟩) rfl (fun _ h => by cases h; rfl) ?_
  rw [show wR m43 2 12 240 = op1 m43 (1, 2, 12, 240) from rfl]
  obtain ⟨m44, e44⟩ : ∃ z, z = op1 m43 (1, 2, 12, 240) := ⟨_, rfl⟩
  rw [← e44]
  have hN44 : mN m44 = 244 := by rw [e44]; exact hN43
  have r44_2_1 : mR m44 2 1 = some 5 := by rw [e44]; show mR (wR m43 2 12 240) _ _ = _; rw [mR_wR, if_neg (by decide)]; exact r43_2_1
  refine JT_aload_n (q := 0) dX11_init_176 rfl rfl ?_
  refine JT_new (mc := 3) (ms := 2650) (N := 2) dX11_init_177 clX11_90 (by rw [hN44]; exact BS_244) ?_
  rw [hN44]
  rw [show wN m44 = op1 m44 (0, 0, 0, 0) from rfl]
  obtain ⟨m45, e45⟩ : ∃ z, z = op1 m44 (0, 0, 0, 0) := ⟨_, rfl⟩
  rw [← e45]
  have hN45 : mN m45 = 245 := by rw [e45]; show mN m44 + 1 = _; rw [hN44]
  have r45_2_1 : mR m45 2 1 = some 5 := by rw [e45]; exact r44_2_1
  refine JT_dup dX11_init_180 rfl ?_
  refine JT_callIN (d := 2) (mc1 := 1) (ms1 := 2640) (mc := 2) (ms := 10) (As := []) (rest := [.ref 244, .ref 2]) dX11_init_181 cvX11_92 okX10_init rfl (Nat.le_of_ble_eq_true rfl) BS_244 (Nat.le_of_ble_eq_true rfl) (by rw [hN45]; decide) hci_10 rfl (Nat.le_of_ble_eq_true rfl) (JT_room (d2 := 1) (kX10_init_244 m45 hN45) (Nat.le_of_ble_eq_true rfl) (Nat.le_refl _) (Nat.le_refl _)) (fun v mz hq => ?_)
  obtain ⟨rfl, rfl⟩ := hq
  show JT _ _ _ _ _ _ [.ref 244, .ref 2] _ _
  obtain ⟨m46, e46⟩ : ∃ z, z = List.foldl op1 m45 kX10_init_244o := ⟨_, rfl⟩
  rw [← e46]
  have hN46 : mN m46 = 246 := by rw [e46, mN_fold, hN45]; rfl
  have r46_2_1 : mR m46 2 1 = some 5 := by rw [e46]; exact (mR_fold _ _ 2 rfl _).trans r45_2_1
  refine JT_putF dX11_init_184 flX11_93 BS_2 (Nat.le_of_ble_eq_true rfl) (by rw [hN46]; decide) (Or.inl ⟨_, ct_11_13⟩) rfl (fun _ h => by cases h; rfl) ?_
  rw [show wR m46 2 13 244 = op1 m46 (1, 2, 13, 244) from rfl]
  obtain ⟨m47, e47⟩ : ∃ z, z = op1 m46 (1, 2, 13, 244) := ⟨_, rfl⟩
  rw [← e47]
  have hN47 : mN m47 = 246 := by rw [e47]; exact hN46
  have r47_2_1 : mR m47 2 1 = some 5 := by rw [e47]; show mR (wR m46 2 13 244) _ _ = _; rw [mR_wR, if_neg (by decide)]; exact r46_2_1
  refine JT_aload_n (q := 0) dX11_init_187 rfl rfl ?_
  refine JT_iconst (v := 5) dX11_init_188 (by decide) ?_
  refine JT_newa_int (mc := 1) (ms := 5) (N := 5) dX11_init_189 aw_int (by rw [hN47]; exact BS_246) (by decide) (by decide) (by decide) ?_
  rw [hN47]
  rw [show wN m47 = op1 m47 (0, 0, 0, 0) from rfl]
  obtain ⟨m48, e48⟩ : ∃ z, z = op1 m47 (0, 0, 0, 0) := ⟨_, rfl⟩
  rw [← e48]
  have hN48 : mN m48 = 247 := by rw [e48]; show mN m47 + 1 = _; rw [hN47]
  have r48_2_1 : mR m48 2 1 = some 5 := by rw [e48]; exact r47_2_1
  refine JT_putF dX11_init_191 flX11_97 BS_2 (Nat.le_of_ble_eq_true rfl) (by rw [hN48]; decide) (Or.inr ⟨_, ct_11_14⟩) rfl (fun _ h => by cases h; rfl) ?_
  rw [show wR m48 2 14 246 = op1 m48 (1, 2, 14, 246) from rfl]
  obtain ⟨m49, e49⟩ : ∃ z, z = op1 m48 (1, 2, 14, 246) := ⟨_, rfl⟩
  rw [← e49]
  have hN49 : mN m49 = 247 := by rw [e49]; exact hN48
  have r49_2_1 : mR m49 2 1 = some 5 := by rw [e49]; show mR (wR m48 2 14 246) _ _ = _; rw [mR_wR, if_neg (by decide)]; exact r48_2_1
  refine JT_aload_n (q := 0) dX11_init_194 rfl rfl ?_
  refine JT_iconst (v := 5) dX11_init_195 (by decide) ?_
  refine JT_newa_int (mc := 0) (ms := 0) (N := 5) dX11_init_196 aw_int (by rw [hN49]; exact BS_247) (by decide) (by decide) (by decide) ?_
  rw [hN49]
  rw [show wN m49 = op1 m49 (0, 0, 0, 0) from rfl]
  obtain ⟨m50, e50⟩ : ∃ z, z = op1 m49 (0, 0, 0, 0) := ⟨_, rfl⟩
  rw [← e50]
  have hN50 : mN m50 = 248 := by rw [e50]; show mN m49 + 1 = _; rw [hN49]
  have r50_2_1 : mR m50 2 1 = some 5 := by rw [e50]; exact r49_2_1
  refine JT_putF dX11_init_198 flX11_101 BS_2 (Nat.le_of_ble_eq_true rfl) (by rw [hN50]; decide) (Or.inr ⟨_, ct_11_16⟩) rfl (fun _ h => by cases h; rfl) ?_
  rw [show wR m50 2 16 247 = op1 m50 (1, 2, 16, 247) from rfl]
  obtain ⟨m51, e51⟩ : ∃ z, z = op1 m50 (1, 2, 16, 247) := ⟨_, rfl⟩
  rw [← e51]
  have hN51 : mN m51 = 248 := by rw [e51]; exact hN50
  have r51_2_1 : mR m51 2 1 = some 5 := by rw [e51]; show mR (wR m50 2 16 247) _ _ = _; rw [mR_wR, if_neg (by decide)]; exact r50_2_1
  refine JT_vret (st := []) dX11_init_201 rfl ⟨trivial, rfl, ?_⟩
  rw [e51, e50, e49, e48, e47, e46, e45, e44, e43, e42, e41, e40, e39, e38, e37, e36, e35, e34, e33, e32, e31, e30, e29, e28, e27, e26, e25, e24, e23, e22, e21, e20, e19, e18, e17, e16, e15, e14, e13, e12, e11, e10, e9, e8, e7, e6, e5, e4, e3, e2, e1]
  simp only [kX11_init_2o, List.foldl_append, List.foldl_cons, List.foldl_nil]
set_option maxRecDepth 1000000 in
def kX12_init_248o : List OpT := [(0, 0, 0, 0), (1, 248, 1, 249), (0, 0, 0, 0), (1, 248, 6, 250), (0, 0, 0, 0), (1, 248, 7, 251), (0, 0, 0, 0), (1, 248, 8, 252), (0, 0, 0, 0), (1, 248, 9, 253), (0, 0, 0, 0), (1, 248, 10, 254), (0, 0, 0, 0), (1, 248, 24, 255), (0, 0, 0, 0), (1, 248, 26, 256), (0, 0, 0, 0), (1, 248, 27, 257), (0, 0, 0, 0), (1, 248, 28, 258), (0, 0, 0, 0), (1, 248, 31, 259), (0, 0, 0, 0), (1, 248, 32, 260), (0, 0, 0, 0), (1, 248, 33, 261), (0, 0, 0, 0), (1, 248, 34, 262), (0, 0, 0, 0), (1, 248, 37, 263), (0, 0, 0, 0), (1, 248, 39, 264), (0, 0, 0, 0), (1, 248, 40, 265), (0, 0, 0, 0), (1, 248, 41, 266), (0, 0, 0, 0), (1, 248, 42, 267), (0, 0, 0, 0), (1, 248, 43, 268), (0, 0, 0, 0), (1, 248, 44, 269), (2, 248, 46, -1), (2, 248, 47, -1), (0, 0, 0, 0), (1, 248, 48, 270), (0, 0, 0, 0), (1, 248, 49, 271), (0, 0, 0, 0), (1, 248, 50, 272), (0, 0, 0, 0), (1, 248, 51, 273), (0, 0, 0, 0), (1, 248, 52, 274), (0, 0, 0, 0), (1, 248, 55, 275), (0, 0, 0, 0), (1, 248, 56, 276), (0, 0, 0, 0), (1, 248, 57, 277), (3, 254, 0, 1651467385), (3, 254, 1, 7039342), (3, 254, 2, 1802071652), (3, 254, 3, 28270047624193380), (3, 254, 4, 114767640814948), (3, 254, 5, 439721161573), (3, 254, 6, 457135713908), (3, 254, 7, 1818848869), (3, 254, 8, 6582132), (3, 254, 9, 1684365676), (3, 254, 10, 126943972911973), (3, 254, 11, 1935892850), (3, 254, 12, 109342978500980), (3, 254, 13, 1684365940), (3, 254, 14, 1919512167), (3, 254, 15, 1684628851), (3, 254, 16, 2036687218), (2, 250, 2, 1)]
set_option maxHeartbeats 20000000 in
set_option maxRecDepth 1000000 in
theorem kX12_init_248 (m : JMem) (hN : mN m = 249) : JC MX12_init 1 29 12519 [.ref 248] m (fun v m1 => v = none ∧ m1 = List.foldl op1 m kX12_init_248o) := by
  show JT MX12_init 1 29 12519 0 [(0, .ref 248)] [] m _
  refine JT_aload_n (q := 0) dX12_init_0 rfl rfl ?_
  refine JT_obj (d2 := 0) dX12_init_1 mlX12_27 (Nat.le_of_ble_eq_true rfl) rfl ?_
  refine JT_aload_n (q := 0) dX12_init_4 rfl rfl ?_
  refine JT_sipush (v := 640) dX12_init_5 (by decide) ?_
  refine JT_newa_byte (mc := 28) (ms := 11879) (N := 640) dX12_init_8 aw_byte (by rw [hN]; exact BS_249) (by decide) (by decide) (by decide) ?_
  rw [hN]
  rw [show wN m = op1 m (0, 0, 0, 0) from rfl]
  obtain ⟨m1, e1⟩ : ∃ z, z = op1 m (0, 0, 0, 0) := ⟨_, rfl⟩
  rw [← e1]
  have hN1 : mN m1 = 250 := by rw [e1]; show mN m + 1 = _; rw [hN]
  refine JT_putF dX12_init_10 flX12_14 BS_248 (Nat.le_of_ble_eq_true rfl) (by rw [hN1]; decide) (Or.inr ⟨_, ct_12_1⟩) rfl (fun _ h => by cases h; rfl) ?_
  rw [show wR m1 248 1 249 = op1 m1 (1, 248, 1, 249) from rfl]
  obtain ⟨m2, e2⟩ : ∃ z, z = op1 m1 (1, 248, 1, 249) := ⟨_, rfl⟩
  rw [← e2]
  have hN2 : mN m2 = 250 := by rw [e2]; exact hN1
  refine JT_aload_n (q := 0) dX12_init_13 rfl rfl ?_
  refine JT_sipush (v := 787) dX12_init_14 (by decide) ?_
  refine JT_newa_int (mc := 27) (ms := 11092) (N := 787) dX12_init_17 aw_int (by rw [hN2]; exact BS_250) (by decide) (by decide) (by decide) ?_
  rw [hN2]
  rw [show wN m2 = op1 m2 (0, 0, 0, 0) from rfl]
  obtain ⟨m3, e3⟩ : ∃ z, z = op1 m2 (0, 0, 0, 0) := ⟨_, rfl⟩
  rw [← e3]
  have hN3 : mN m3 = 251 := by rw [e3]; show mN m2 + 1 = _; rw [hN2]
  refine JT_putF dX12_init_19 flX12_33 BS_248 (Nat.le_of_ble_eq_true rfl) (by rw [hN3]; decide) (Or.inr ⟨_, ct_12_6⟩) rfl (fun _ h => by cases h; rfl) ?_
  rw [show wR m3 248 6 250 = op1 m3 (1, 248, 6, 250) from rfl]
  obtain ⟨m4, e4⟩ : ∃ z, z = op1 m3 (1, 248, 6, 250) := ⟨_, rfl⟩
  rw [← e4]
  have hN4 : mN m4 = 251 := by rw [e4]; exact hN3
  have r4_248_6 : mR m4 248 6 = some 250 := by rw [e4]; show mR (wR m3 248 6 250) _ _ = _; rw [mR_wR, if_pos ⟨rfl, rfl⟩]
  refine JT_aload_n (q := 0) dX12_init_22 rfl rfl ?_
  refine JT_bipush (v := 34) dX12_init_23 (by decide) ?_
  refine JT_newa_int (mc := 26) (ms := 11058) (N := 34) dX12_init_25 aw_int (by rw [hN4]; exact BS_251) (by decide) (by decide) (by decide) ?_
  rw [hN4]
  rw [show wN m4 = op1 m4 (0, 0, 0, 0) from rfl]
  obtain ⟨m5, e5⟩ : ∃ z, z = op1 m4 (0, 0, 0, 0) := ⟨_, rfl⟩
  rw [← e5]
  have hN5 : mN m5 = 252 := by rw [e5]; show mN m4 + 1 = _; rw [hN4]
  have r5_248_6 : mR m5 248 6 = some 250 := by rw [e5]; exact r4_248_6
  refine JT_putF dX12_init_27 flX12_37 BS_248 (Nat.le_of_ble_eq_true rfl) (by rw [hN5]; decide) (Or.inr ⟨_, ct_12_7⟩) rfl (fun _ h => by cases h; rfl) ?_
  rw [show wR m5 248 7 251 = op1 m5 (1, 248, 7, 251) from rfl]
  obtain ⟨m6, e6⟩ : ∃ z, z = op1 m5 (1, 248, 7, 251) := ⟨_, rfl⟩
  rw [← e6]
  have hN6 : mN m6 = 252 := by rw [e6]; exact hN5
  have r6_248_6 : mR m6 248 6 = some 250 := by rw [e6]; show mR (wR m5 248 7 251) _ _ = _; rw [mR_wR, if_neg (by decide)]; exact r5_248_6
  refine JT_aload_n (q := 0) dX12_init_30 rfl rfl ?_
  refine JT_sipush (v := 201) dX12_init_31 (by decide) ?_
  refine JT_newa_int (mc := 25) (ms := 10857) (N := 201) dX12_init_34 aw_int (by rw [hN6]; exact BS_252) (by decide) (by decide) (by decide) ?_
  rw [hN6]
  rw [show wN m6 = op1 m6 (0, 0, 0, 0) from rfl]
  obtain ⟨m7, e7⟩ : ∃ z, z = op1 m6 (0, 0, 0, 0) := ⟨_, rfl⟩
  rw [← e7]
  have hN7 : mN m7 = 253 := by rw [e7]; show mN m6 + 1 = _; rw [hN6]
  have r7_248_6 : mR m7 248 6 = some 250 := by rw [e7]; exact r6_248_6
  refine JT_putF dX12_init_36 flX12_40 BS_248 (Nat.le_of_ble_eq_true rfl) (by rw [hN7]; decide) (Or.inr ⟨_, ct_12_8⟩) rfl (fun _ h => by cases h; rfl) ?_
  rw [show wR m7 248 8 252 = op1 m7 (1, 248, 8, 252) from rfl]
  obtain ⟨m8, e8⟩ : ∃ z, z = op1 m7 (1, 248, 8, 252) := ⟨_, rfl⟩
  rw [← e8]
  have hN8 : mN m8 = 253 := by rw [e8]; exact hN7
  have r8_248_6 : mR m8 248 6 = some 250 := by rw [e8]; show mR (wR m7 248 8 252) _ _ = _; rw [mR_wR, if_neg (by decide)]; exact r7_248_6
  refine JT_aload_n (q := 0) dX12_init_39 rfl rfl ?_
  refine JT_bipush (v := 30) dX12_init_40 (by decide) ?_
  refine JT_newa_long (mc := 24) (ms := 10827) (N := 30) dX12_init_42 aw_long (by rw [hN8]; exact BS_253) (by decide) (by decide) (by decide) ?_
  rw [hN8]
  rw [show wN m8 = op1 m8 (0, 0, 0, 0) from rfl]
  obtain ⟨m9, e9⟩ : ∃ z, z = op1 m8 (0, 0, 0, 0) := ⟨_, rfl⟩
  rw [← e9]
  have hN9 : mN m9 = 254 := by rw [e9]; show mN m8 + 1 = _; rw [hN8]
  have r9_248_6 : mR m9 248 6 = some 250 := by rw [e9]; exact r8_248_6
  refine JT_putF dX12_init_44 flX12_43 BS_248 (Nat.le_of_ble_eq_true rfl) (by rw [hN9]; decide) (Or.inr ⟨_, ct_12_9⟩) rfl (fun _ h => by cases h; rfl) ?_
  rw [show wR m9 248 9 253 = op1 m9 (1, 248, 9, 253) from rfl]
  obtain ⟨m10, e10⟩ : ∃ z, z = op1 m9 (1, 248, 9, 253) := ⟨_, rfl⟩
  rw [← e10]
  have hN10 : mN m10 = 254 := by rw [e10]; exact hN9
  have r10_248_6 : mR m10 248 6 = some 250 := by rw [e10]; show mR (wR m9 248 9 253) _ _ = _; rw [mR_wR, if_neg (by decide)]; exact r9_248_6
  refine JT_aload_n (q := 0) dX12_init_47 rfl rfl ?_
  refine JT_bipush (v := 17) dX12_init_48 (by decide) ?_
  refine JT_newa_long (mc := 23) (ms := 10810) (N := 17) dX12_init_50 aw_long (by rw [hN10]; exact BS_254) (by decide) (by decide) (by decide) ?_
  rw [hN10]
  rw [show wN m10 = op1 m10 (0, 0, 0, 0) from rfl]
  obtain ⟨m11, e11⟩ : ∃ z, z = op1 m10 (0, 0, 0, 0) := ⟨_, rfl⟩
  rw [← e11]
  have hN11 : mN m11 = 255 := by rw [e11]; show mN m10 + 1 = _; rw [hN10]
  have r11_248_6 : mR m11 248 6 = some 250 := by rw [e11]; exact r10_248_6
  refine JT_putF dX12_init_52 flX12_47 BS_248 (Nat.le_of_ble_eq_true rfl) (by rw [hN11]; decide) (Or.inr ⟨_, ct_12_10⟩) rfl (fun _ h => by cases h; rfl) ?_
  rw [show wR m11 248 10 254 = op1 m11 (1, 248, 10, 254) from rfl]
  obtain ⟨m12, e12⟩ : ∃ z, z = op1 m11 (1, 248, 10, 254) := ⟨_, rfl⟩
  rw [← e12]
  have hN12 : mN m12 = 255 := by rw [e12]; exact hN11
  have r12_248_6 : mR m12 248 6 = some 250 := by rw [e12]; show mR (wR m11 248 10 254) _ _ = _; rw [mR_wR, if_neg (by decide)]; exact r11_248_6
  have r12_248_10 : mR m12 248 10 = some 254 := by rw [e12]; show mR (wR m11 248 10 254) _ _ = _; rw [mR_wR, if_pos ⟨rfl, rfl⟩]
  refine JT_aload_n (q := 0) dX12_init_55 rfl rfl ?_
  refine JT_sipush (v := 4416) dX12_init_56 (by decide) ?_
  refine JT_newa_int (mc := 22) (ms := 6394) (N := 4416) dX12_init_59 aw_int (by rw [hN12]; exact BS_255) (by decide) (by decide) (by decide) ?_
  rw [hN12]
  rw [show wN m12 = op1 m12 (0, 0, 0, 0) from rfl]
  obtain ⟨m13, e13⟩ : ∃ z, z = op1 m12 (0, 0, 0, 0) := ⟨_, rfl⟩
  rw [← e13]
  have hN13 : mN m13 = 256 := by rw [e13]; show mN m12 + 1 = _; rw [hN12]
  have r13_248_6 : mR m13 248 6 = some 250 := by rw [e13]; exact r12_248_6
  have r13_248_10 : mR m13 248 10 = some 254 := by rw [e13]; exact r12_248_10
  refine JT_putF dX12_init_61 flX12_50 BS_248 (Nat.le_of_ble_eq_true rfl) (by rw [hN13]; decide) (Or.inr ⟨_, ct_12_24⟩) rfl (fun _ h => by cases h; rfl) ?_
  rw [show wR m13 248 24 255 = op1 m13 (1, 248, 24, 255) from rfl]
  obtain ⟨m14, e14⟩ : ∃ z, z = op1 m13 (1, 248, 24, 255) := ⟨_, rfl⟩
  rw [← e14]
  have hN14 : mN m14 = 256 := by rw [e14]; exact hN13
  have r14_248_6 : mR m14 248 6 = some 250 := by rw [e14]; show mR (wR m13 248 24 255) _ _ = _; rw [mR_wR, if_neg (by decide)]; exact r13_248_6
  have r14_248_10 : mR m14 248 10 = some 254 := by rw [e14]; show mR (wR m13 248 24 255) _ _ = _; rw [mR_wR, if_neg (by decide)]; exact r13_248_10
  refine JT_aload_n (q := 0) dX12_init_64 rfl rfl ?_
  refine JT_iconst (v := 5) dX12_init_65 (by decide) ?_
  refine JT_newa_int (mc := 21) (ms := 6389) (N := 5) dX12_init_66 aw_int (by rw [hN14]; exact BS_256) (by decide) (by decide) (by decide) ?_
  rw [hN14]
  rw [show wN m14 = op1 m14 (0, 0, 0, 0) from rfl]
  obtain ⟨m15, e15⟩ : ∃ z, z = op1 m14 (0, 0, 0, 0) := ⟨_, rfl⟩
  rw [← e15]
  have hN15 : mN m15 = 257 := by rw [e15]; show mN m14 + 1 = _; rw [hN14]
  have r15_248_6 : mR m15 248 6 = some 250 := by rw [e15]; exact r14_248_6
  have r15_248_10 : mR m15 248 10 = some 254 := by rw [e15]; exact r14_248_10
  refine JT_putF dX12_init_68 flX12_53 BS_248 (Nat.le_of_ble_eq_true rfl) (by rw [hN15]; decide) (Or.inr ⟨_, ct_12_26⟩) rfl (fun _ h => by cases h; rfl) ?_
  rw [show wR m15 248 26 256 = op1 m15 (1, 248, 26, 256) from rfl]
  obtain ⟨m16, e16⟩ : ∃ z, z = op1 m15 (1, 248, 26, 256) := ⟨_, rfl⟩
  rw [← e16]
  have hN16 : mN m16 = 257 := by rw [e16]; exact hN15
  have r16_248_6 : mR m16 248 6 = some 250 := by rw [e16]; show mR (wR m15 248 26 256) _ _ = _; rw [mR_wR, if_neg (by decide)]; exact r15_248_6
  have r16_248_10 : mR m16 248 10 = some 254 := by rw [e16]; show mR (wR m15 248 26 256) _ _ = _; rw [mR_wR, if_neg (by decide)]; exact r15_248_10
  refine JT_aload_n (q := 0) dX12_init_71 rfl rfl ?_
  refine JT_iconst (v := 5) dX12_init_72 (by decide) ?_
  refine JT_newa_int (mc := 20) (ms := 6384) (N := 5) dX12_init_73 aw_int (by rw [hN16]; exact BS_257) (by decide) (by decide) (by decide) ?_
  rw [hN16]
  rw [show wN m16 = op1 m16 (0, 0, 0, 0) from rfl]
  obtain ⟨m17, e17⟩ : ∃ z, z = op1 m16 (0, 0, 0, 0) := ⟨_, rfl⟩
  rw [← e17]
  have hN17 : mN m17 = 258 := by rw [e17]; show mN m16 + 1 = _; rw [hN16]
  have r17_248_6 : mR m17 248 6 = some 250 := by rw [e17]; exact r16_248_6
  have r17_248_10 : mR m17 248 10 = some 254 := by rw [e17]; exact r16_248_10
  refine JT_putF dX12_init_75 flX12_56 BS_248 (Nat.le_of_ble_eq_true rfl) (by rw [hN17]; decide) (Or.inr ⟨_, ct_12_27⟩) rfl (fun _ h => by cases h; rfl) ?_
  rw [show wR m17 248 27 257 = op1 m17 (1, 248, 27, 257) from rfl]
  obtain ⟨m18, e18⟩ : ∃ z, z = op1 m17 (1, 248, 27, 257) := ⟨_, rfl⟩
  rw [← e18]
  have hN18 : mN m18 = 258 := by rw [e18]; exact hN17
  have r18_248_6 : mR m18 248 6 = some 250 := by rw [e18]; show mR (wR m17 248 27 257) _ _ = _; rw [mR_wR, if_neg (by decide)]; exact r17_248_6
  have r18_248_10 : mR m18 248 10 = some 254 := by rw [e18]; show mR (wR m17 248 27 257) _ _ = _; rw [mR_wR, if_neg (by decide)]; exact r17_248_10
  refine JT_aload_n (q := 0) dX12_init_78 rfl rfl ?_
  refine JT_iconst (v := 5) dX12_init_79 (by decide) ?_
  refine JT_newa_int (mc := 19) (ms := 6379) (N := 5) dX12_init_80 aw_int (by rw [hN18]; exact BS_258) (by decide) (by decide) (by decide) ?_
  rw [hN18]
  rw [show wN m18 = op1 m18 (0, 0, 0, 0) from rfl]
  obtain ⟨m19, e19⟩ : ∃ z, z = op1 m18 (0, 0, 0, 0) := ⟨_, rfl⟩
  rw [← e19]
  have hN19 : mN m19 = 259 := by rw [e19]; show mN m18 + 1 = _; rw [hN18]
  have r19_248_6 : mR m19 248 6 = some 250 := by rw [e19]; exact r18_248_6
  have r19_248_10 : mR m19 248 10 = some 254 := by rw [e19]; exact r18_248_10
  refine JT_putF dX12_init_82 flX12_59 BS_248 (Nat.le_of_ble_eq_true rfl) (by rw [hN19]; decide) (Or.inr ⟨_, ct_12_28⟩) rfl (fun _ h => by cases h; rfl) ?_
  rw [show wR m19 248 28 258 = op1 m19 (1, 248, 28, 258) from rfl]
  obtain ⟨m20, e20⟩ : ∃ z, z = op1 m19 (1, 248, 28, 258) := ⟨_, rfl⟩
  rw [← e20]
  have hN20 : mN m20 = 259 := by rw [e20]; exact hN19
  have r20_248_6 : mR m20 248 6 = some 250 := by rw [e20]; show mR (wR m19 248 28 258) _ _ = _; rw [mR_wR, if_neg (by decide)]; exact r19_248_6
  have r20_248_10 : mR m20 248 10 = some 254 := by rw [e20]; show mR (wR m19 248 28 258) _ _ = _; rw [mR_wR, if_neg (by decide)]; exact r19_248_10
  refine JT_aload_n (q := 0) dX12_init_85 rfl rfl ?_
  refine JT_sipush (v := 552) dX12_init_86 (by decide) ?_
  refine JT_newa_int (mc := 18) (ms := 5827) (N := 552) dX12_init_89 aw_int (by rw [hN20]; exact BS_259) (by decide) (by decide) (by decide) ?_
  rw [hN20]
  rw [show wN m20 = op1 m20 (0, 0, 0, 0) from rfl]
  obtain ⟨m21, e21⟩ : ∃ z, z = op1 m20 (0, 0, 0, 0) := ⟨_, rfl⟩
  rw [← e21]
  have hN21 : mN m21 = 260 := by rw [e21]; show mN m20 + 1 = _; rw [hN20]
  have r21_248_6 : mR m21 248 6 = some 250 := by rw [e21]; exact r20_248_6
  have r21_248_10 : mR m21 248 10 = some 254 := by rw [e21]; exact r20_248_10
  refine JT_putF dX12_init_91 flX12_62 BS_248 (Nat.le_of_ble_eq_true rfl) (by rw [hN21]; decide) (Or.inr ⟨_, ct_12_31⟩) rfl (fun _ h => by cases h; rfl) ?_
  rw [show wR m21 248 31 259 = op1 m21 (1, 248, 31, 259) from rfl]
  obtain ⟨m22, e22⟩ : ∃ z, z = op1 m21 (1, 248, 31, 259) := ⟨_, rfl⟩
  rw [← e22]
  have hN22 : mN m22 = 260 := by rw [e22]; exact hN21
  have r22_248_6 : mR m22 248 6 = some 250 := by rw [e22]; show mR (wR m21 248 31 259) _ _ = _; rw [mR_wR, if_neg (by decide)]; exact r21_248_6
  have r22_248_10 : mR m22 248 10 = some 254 := by rw [e22]; show mR (wR m21 248 31 259) _ _ = _; rw [mR_wR, if_neg (by decide)]; exact r21_248_10
  refine JT_aload_n (q := 0) dX12_init_94 rfl rfl ?_
  refine JT_sipush (v := 512) dX12_init_95 (by decide) ?_
  refine JT_newa_int (mc := 17) (ms := 5315) (N := 512) dX12_init_98 aw_int (by rw [hN22]; exact BS_260) (by decide) (by decide) (by decide) ?_
  rw [hN22]
  rw [show wN m22 = op1 m22 (0, 0, 0, 0) from rfl]
  obtain ⟨m23, e23⟩ : ∃ z, z = op1 m22 (0, 0, 0, 0) := ⟨_, rfl⟩
  rw [← e23]
  have hN23 : mN m23 = 261 := by rw [e23]; show mN m22 + 1 = _; rw [hN22]
  have r23_248_6 : mR m23 248 6 = some 250 := by rw [e23]; exact r22_248_6
  have r23_248_10 : mR m23 248 10 = some 254 := by rw [e23]; exact r22_248_10
  refine JT_putF dX12_init_100 flX12_65 BS_248 (Nat.le_of_ble_eq_true rfl) (by rw [hN23]; decide) (Or.inr ⟨_, ct_12_32⟩) rfl (fun _ h => by cases h; rfl) ?_
  rw [show wR m23 248 32 260 = op1 m23 (1, 248, 32, 260) from rfl]
  obtain ⟨m24, e24⟩ : ∃ z, z = op1 m23 (1, 248, 32, 260) := ⟨_, rfl⟩
  rw [← e24]
  have hN24 : mN m24 = 261 := by rw [e24]; exact hN23
  have r24_248_6 : mR m24 248 6 = some 250 := by rw [e24]; show mR (wR m23 248 32 260) _ _ = _; rw [mR_wR, if_neg (by decide)]; exact r23_248_6
  have r24_248_10 : mR m24 248 10 = some 254 := by rw [e24]; show mR (wR m23 248 32 260) _ _ = _; rw [mR_wR, if_neg (by decide)]; exact r23_248_10
  refine JT_aload_n (q := 0) dX12_init_103 rfl rfl ?_
  refine JT_bipush (v := 9) dX12_init_104 (by decide) ?_
  refine JT_newa_int (mc := 16) (ms := 5306) (N := 9) dX12_init_106 aw_int (by rw [hN24]; exact BS_261) (by decide) (by decide) (by decide) ?_
  rw [hN24]
  rw [show wN m24 = op1 m24 (0, 0, 0, 0) from rfl]
  obtain ⟨m25, e25⟩ : ∃ z, z = op1 m24 (0, 0, 0, 0) := ⟨_, rfl⟩
  rw [← e25]
  have hN25 : mN m25 = 262 := by rw [e25]; show mN m24 + 1 = _; rw [hN24]
  have r25_248_6 : mR m25 248 6 = some 250 := by rw [e25]; exact r24_248_6
  have r25_248_10 : mR m25 248 10 = some 254 := by rw [e25]; exact r24_248_10
  refine JT_putF dX12_init_108 flX12_68 BS_248 (Nat.le_of_ble_eq_true rfl) (by rw [hN25]; decide) (Or.inr ⟨_, ct_12_33⟩) rfl (fun _ h => by cases h; rfl) ?_
  rw [show wR m25 248 33 261 = op1 m25 (1, 248, 33, 261) from rfl]
  obtain ⟨m26, e26⟩ : ∃ z, z = op1 m25 (1, 248, 33, 261) := ⟨_, rfl⟩
  rw [← e26]
  have hN26 : mN m26 = 262 := by rw [e26]; exact hN25
  have r26_248_6 : mR m26 248 6 = some 250 := by rw [e26]; show mR (wR m25 248 33 261) _ _ = _; rw [mR_wR, if_neg (by decide)]; exact r25_248_6
  have r26_248_10 : mR m26 248 10 = some 254 := by rw [e26]; show mR (wR m25 248 33 261) _ _ = _; rw [mR_wR, if_neg (by decide)]; exact r25_248_10
  refine JT_aload_n (q := 0) dX12_init_111 rfl rfl ?_
  refine JT_sipush (v := 3600) dX12_init_112 (by decide) ?_
  refine JT_newa_byte (mc := 15) (ms := 1706) (N := 3600) dX12_init_115 aw_byte (by rw [hN26]; exact BS_262) (by decide) (by decide) (by decide) ?_
  rw [hN26]
  rw [show wN m26 = op1 m26 (0, 0, 0, 0) from rfl]
  obtain ⟨m27, e27⟩ : ∃ z, z = op1 m26 (0, 0, 0, 0) := ⟨_, rfl⟩
  rw [← e27]
  have hN27 : mN m27 = 263 := by rw [e27]; show mN m26 + 1 = _; rw [hN26]
  have r27_248_6 : mR m27 248 6 = some 250 := by rw [e27]; exact r26_248_6
  have r27_248_10 : mR m27 248 10 = some 254 := by rw [e27]; exact r26_248_10
  refine JT_putF dX12_init_117 flX12_71 BS_248 (Nat.le_of_ble_eq_true rfl) (by rw [hN27]; decide) (Or.inr ⟨_, ct_12_34⟩) rfl (fun _ h => by cases h; rfl) ?_
  rw [show wR m27 248 34 262 = op1 m27 (1, 248, 34, 262) from rfl]
  obtain ⟨m28, e28⟩ : ∃ z, z = op1 m27 (1, 248, 34, 262) := ⟨_, rfl⟩
  rw [← e28]
  have hN28 : mN m28 = 263 := by rw [e28]; exact hN27
  have r28_248_6 : mR m28 248 6 = some 250 := by rw [e28]; show mR (wR m27 248 34 262) _ _ = _; rw [mR_wR, if_neg (by decide)]; exact r27_248_6
  have r28_248_10 : mR m28 248 10 = some 254 := by rw [e28]; show mR (wR m27 248 34 262) _ _ = _; rw [mR_wR, if_neg (by decide)]; exact r27_248_10
  refine JT_aload_n (q := 0) dX12_init_120 rfl rfl ?_
  refine JT_iconst (v := 5) dX12_init_121 (by decide) ?_
  refine JT_newa_int (mc := 14) (ms := 1701) (N := 5) dX12_init_122 aw_int (by rw [hN28]; exact BS_263) (by decide) (by decide) (by decide) ?_
  rw [hN28]
  rw [show wN m28 = op1 m28 (0, 0, 0, 0) from rfl]
  obtain ⟨m29, e29⟩ : ∃ z, z = op1 m28 (0, 0, 0, 0) := ⟨_, rfl⟩
  rw [← e29]
  have hN29 : mN m29 = 264 := by rw [e29]; show mN m28 + 1 = _; rw [hN28]
  have r29_248_6 : mR m29 248 6 = some 250 := by rw [e29]; exact r28_248_6
  have r29_248_10 : mR m29 248 10 = some 254 := by rw [e29]; exact r28_248_10
  refine JT_putF dX12_init_124 flX12_74 BS_248 (Nat.le_of_ble_eq_true rfl) (by rw [hN29]; decide) (Or.inr ⟨_, ct_12_37⟩) rfl (fun _ h => by cases h; rfl) ?_
  rw [show wR m29 248 37 263 = op1 m29 (1, 248, 37, 263) from rfl]
  obtain ⟨m30, e30⟩ : ∃ z, z = op1 m29 (1, 248, 37, 263) := ⟨_, rfl⟩
  rw [← e30]
  have hN30 : mN m30 = 264 := by rw [e30]; exact hN29
  have r30_248_6 : mR m30 248 6 = some 250 := by rw [e30]; show mR (wR m29 248 37 263) _ _ = _; rw [mR_wR, if_neg (by decide)]; exact r29_248_6
  have r30_248_10 : mR m30 248 10 = some 254 := by rw [e30]; show mR (wR m29 248 37 263) _ _ = _; rw [mR_wR, if_neg (by decide)]; exact r29_248_10
  refine JT_aload_n (q := 0) dX12_init_127 rfl rfl ?_
  refine JT_bipush (v := 18) dX12_init_128 (by decide) ?_
  refine JT_newa_int (mc := 13) (ms := 1683) (N := 18) dX12_init_130 aw_int (by rw [hN30]; exact BS_264) (by decide) (by decide) (by decide) ?_
  rw [hN30]
  rw [show wN m30 = op1 m30 (0, 0, 0, 0) from rfl]
  obtain ⟨m31, e31⟩ : ∃ z, z = op1 m30 (0, 0, 0, 0) := ⟨_, rfl⟩
  rw [← e31]
  have hN31 : mN m31 = 265 := by rw [e31]; show mN m30 + 1 = _; rw [hN30]
  have r31_248_6 : mR m31 248 6 = some 250 := by rw [e31]; exact r30_248_6
  have r31_248_10 : mR m31 248 10 = some 254 := by rw [e31]; exact r30_248_10
  refine JT_putF dX12_init_132 flX12_77 BS_248 (Nat.le_of_ble_eq_true rfl) (by rw [hN31]; decide) (Or.inr ⟨_, ct_12_39⟩) rfl (fun _ h => by cases h; rfl) ?_
  rw [show wR m31 248 39 264 = op1 m31 (1, 248, 39, 264) from rfl]
  obtain ⟨m32, e32⟩ : ∃ z, z = op1 m31 (1, 248, 39, 264) := ⟨_, rfl⟩
  rw [← e32]
  have hN32 : mN m32 = 265 := by rw [e32]; exact hN31
  have r32_248_6 : mR m32 248 6 = some 250 := by rw [e32]; show mR (wR m31 248 39 264) _ _ = _; rw [mR_wR, if_neg (by decide)]; exact r31_248_6
  have r32_248_10 : mR m32 248 10 = some 254 := by rw [e32]; show mR (wR m31 248 39 264) _ _ = _; rw [mR_wR, if_neg (by decide)]; exact r31_248_10
  refine JT_aload_n (q := 0) dX12_init_135 rfl rfl ?_
  refine JT_bipush (v := 18) dX12_init_136 (by decide) ?_
  refine JT_newa_int (mc := 12) (ms := 1665) (N := 18) dX12_init_138 aw_int (by rw [hN32]; exact BS_265) (by decide) (by decide) (by decide) ?_
  rw [hN32]
  rw [show wN m32 = op1 m32 (0, 0, 0, 0) from rfl]
  obtain ⟨m33, e33⟩ : ∃ z, z = op1 m32 (0, 0, 0, 0) := ⟨_, rfl⟩
  rw [← e33]
  have hN33 : mN m33 = 266 := by rw [e33]; show mN m32 + 1 = _; rw [hN32]
  have r33_248_6 : mR m33 248 6 = some 250 := by rw [e33]; exact r32_248_6
  have r33_248_10 : mR m33 248 10 = some 254 := by rw [e33]; exact r32_248_10
  refine JT_putF dX12_init_140 flX12_80 BS_248 (Nat.le_of_ble_eq_true rfl) (by rw [hN33]; decide) (Or.inr ⟨_, ct_12_40⟩) rfl (fun _ h => by cases h; rfl) ?_
  rw [show wR m33 248 40 265 = op1 m33 (1, 248, 40, 265) from rfl]
  obtain ⟨m34, e34⟩ : ∃ z, z = op1 m33 (1, 248, 40, 265) := ⟨_, rfl⟩
  rw [← e34]
  have hN34 : mN m34 = 266 := by rw [e34]; exact hN33
  have r34_248_6 : mR m34 248 6 = some 250 := by rw [e34]; show mR (wR m33 248 40 265) _ _ = _; rw [mR_wR, if_neg (by decide)]; exact r33_248_6
  have r34_248_10 : mR m34 248 10 = some 254 := by rw [e34]; show mR (wR m33 248 40 265) _ _ = _; rw [mR_wR, if_neg (by decide)]; exact r33_248_10
  refine JT_aload_n (q := 0) dX12_init_143 rfl rfl ?_
  refine JT_bipush (v := 6) dX12_init_144 (by decide) ?_
  refine JT_newa_int (mc := 11) (ms := 1659) (N := 6) dX12_init_146 aw_int (by rw [hN34]; exact BS_266) (by decide) (by decide) (by decide) ?_
  rw [hN34]
  rw [show wN m34 = op1 m34 (0, 0, 0, 0) from rfl]
  obtain ⟨m35, e35⟩ : ∃ z, z = op1 m34 (0, 0, 0, 0) := ⟨_, rfl⟩
  rw [← e35]
  have hN35 : mN m35 = 267 := by rw [e35]; show mN m34 + 1 = _; rw [hN34]
  have r35_248_6 : mR m35 248 6 = some 250 := by rw [e35]; exact r34_248_6
  have r35_248_10 : mR m35 248 10 = some 254 := by rw [e35]; exact r34_248_10
  refine JT_putF dX12_init_148 flX12_83 BS_248 (Nat.le_of_ble_eq_true rfl) (by rw [hN35]; decide) (Or.inr ⟨_, ct_12_41⟩) rfl (fun _ h => by cases h; rfl) ?_
  rw [show wR m35 248 41 266 = op1 m35 (1, 248, 41, 266) from rfl]
  obtain ⟨m36, e36⟩ : ∃ z, z = op1 m35 (1, 248, 41, 266) := ⟨_, rfl⟩
  rw [← e36]
  have hN36 : mN m36 = 267 := by rw [e36]; exact hN35
  have r36_248_6 : mR m36 248 6 = some 250 := by rw [e36]; show mR (wR m35 248 41 266) _ _ = _; rw [mR_wR, if_neg (by decide)]; exact r35_248_6
  have r36_248_10 : mR m36 248 10 = some 254 := by rw [e36]; show mR (wR m35 248 41 266) _ _ = _; rw [mR_wR, if_neg (by decide)]; exact r35_248_10
  refine JT_aload_n (q := 0) dX12_init_151 rfl rfl ?_
  refine JT_bipush (v := 6) dX12_init_152 (by decide) ?_
  refine JT_newa_int (mc := 10) (ms := 1653) (N := 6) dX12_init_154 aw_int (by rw [hN36]; exact BS_267) (by decide) (by decide) (by decide) ?_
  rw [hN36]
  rw [show wN m36 = op1 m36 (0, 0, 0, 0) from rfl]
  obtain ⟨m37, e37⟩ : ∃ z, z = op1 m36 (0, 0, 0, 0) := ⟨_, rfl⟩
  rw [← e37]
  have hN37 : mN m37 = 268 := by rw [e37]; show mN m36 + 1 = _; rw [hN36]
  have r37_248_6 : mR m37 248 6 = some 250 := by rw [e37]; exact r36_248_6
  have r37_248_10 : mR m37 248 10 = some 254 := by rw [e37]; exact r36_248_10
  refine JT_putF dX12_init_156 flX12_86 BS_248 (Nat.le_of_ble_eq_true rfl) (by rw [hN37]; decide) (Or.inr ⟨_, ct_12_42⟩) rfl (fun _ h => by cases h; rfl) ?_
  rw [show wR m37 248 42 267 = op1 m37 (1, 248, 42, 267) from rfl]
  obtain ⟨m38, e38⟩ : ∃ z, z = op1 m37 (1, 248, 42, 267) := ⟨_, rfl⟩
  rw [← e38]
  have hN38 : mN m38 = 268 := by rw [e38]; exact hN37
  have r38_248_6 : mR m38 248 6 = some 250 := by rw [e38]; show mR (wR m37 248 42 267) _ _ = _; rw [mR_wR, if_neg (by decide)]; exact r37_248_6
  have r38_248_10 : mR m38 248 10 = some 254 := by rw [e38]; show mR (wR m37 248 42 267) _ _ = _; rw [mR_wR, if_neg (by decide)]; exact r37_248_10
  refine JT_aload_n (q := 0) dX12_init_159 rfl rfl ?_
  refine JT_bipush (v := 6) dX12_init_160 (by decide) ?_
  refine JT_newa_int (mc := 9) (ms := 1647) (N := 6) dX12_init_162 aw_int (by rw [hN38]; exact BS_268) (by decide) (by decide) (by decide) ?_
  rw [hN38]
  rw [show wN m38 = op1 m38 (0, 0, 0, 0) from rfl]
  obtain ⟨m39, e39⟩ : ∃ z, z = op1 m38 (0, 0, 0, 0) := ⟨_, rfl⟩
  rw [← e39]
  have hN39 : mN m39 = 269 := by rw [e39]; show mN m38 + 1 = _; rw [hN38]
  have r39_248_6 : mR m39 248 6 = some 250 := by rw [e39]; exact r38_248_6
  have r39_248_10 : mR m39 248 10 = some 254 := by rw [e39]; exact r38_248_10
  refine JT_putF dX12_init_164 flX12_89 BS_248 (Nat.le_of_ble_eq_true rfl) (by rw [hN39]; decide) (Or.inr ⟨_, ct_12_43⟩) rfl (fun _ h => by cases h; rfl) ?_
  rw [show wR m39 248 43 268 = op1 m39 (1, 248, 43, 268) from rfl]
  obtain ⟨m40, e40⟩ : ∃ z, z = op1 m39 (1, 248, 43, 268) := ⟨_, rfl⟩
  rw [← e40]
  have hN40 : mN m40 = 269 := by rw [e40]; exact hN39
  have r40_248_6 : mR m40 248 6 = some 250 := by rw [e40]; show mR (wR m39 248 43 268) _ _ = _; rw [mR_wR, if_neg (by decide)]; exact r39_248_6
  have r40_248_10 : mR m40 248 10 = some 254 := by rw [e40]; show mR (wR m39 248 43 268) _ _ = _; rw [mR_wR, if_neg (by decide)]; exact r39_248_10
  refine JT_aload_n (q := 0) dX12_init_167 rfl rfl ?_
  refine JT_bipush (v := 9) dX12_init_168 (by decide) ?_
  refine JT_newa_int (mc := 8) (ms := 1638) (N := 9) dX12_init_170 aw_int (by rw [hN40]; exact BS_269) (by decide) (by decide) (by decide) ?_
  rw [hN40]
  rw [show wN m40 = op1 m40 (0, 0, 0, 0) from rfl]
  obtain ⟨m41, e41⟩ : ∃ z, z = op1 m40 (0, 0, 0, 0) := ⟨_, rfl⟩
  rw [← e41]
  have hN41 : mN m41 = 270 := by rw [e41]; show mN m40 + 1 = _; rw [hN40]
  have r41_248_6 : mR m41 248 6 = some 250 := by rw [e41]; exact r40_248_6
  have r41_248_10 : mR m41 248 10 = some 254 := by rw [e41]; exact r40_248_10
  refine JT_putF dX12_init_172 flX12_92 BS_248 (Nat.le_of_ble_eq_true rfl) (by rw [hN41]; decide) (Or.inr ⟨_, ct_12_44⟩) rfl (fun _ h => by cases h; rfl) ?_
  rw [show wR m41 248 44 269 = op1 m41 (1, 248, 44, 269) from rfl]
  obtain ⟨m42, e42⟩ : ∃ z, z = op1 m41 (1, 248, 44, 269) := ⟨_, rfl⟩
  rw [← e42]
  have hN42 : mN m42 = 270 := by rw [e42]; exact hN41
  have r42_248_6 : mR m42 248 6 = some 250 := by rw [e42]; show mR (wR m41 248 44 269) _ _ = _; rw [mR_wR, if_neg (by decide)]; exact r41_248_6
  have r42_248_10 : mR m42 248 10 = some 254 := by rw [e42]; show mR (wR m41 248 44 269) _ _ = _; rw [mR_wR, if_neg (by decide)]; exact r41_248_10
  refine JT_aload_n (q := 0) dX12_init_175 rfl rfl ?_
  refine JT_iconst (v := -1) dX12_init_176 (by decide) ?_
  refine JT_putI dX12_init_177 flX12_95 BS_248 (Nat.le_of_ble_eq_true rfl) (by rw [hN42]; decide) ct_12_46 ?_
  rw [show wI m42 248 46 (-1) = op1 m42 (2, 248, 46, -1) from rfl]
  obtain ⟨m43, e43⟩ : ∃ z, z = op1 m42 (2, 248, 46, -1) := ⟨_, rfl⟩
  rw [← e43]
  have hN43 : mN m43 = 270 := by rw [e43]; exact hN42
  have r43_248_6 : mR m43 248 6 = some 250 := by rw [e43]; exact r42_248_6
  have r43_248_10 : mR m43 248 10 = some 254 := by rw [e43]; exact r42_248_10
  refine JT_aload_n (q := 0) dX12_init_180 rfl rfl ?_
  refine JT_iconst (v := -1) dX12_init_181 (by decide) ?_
  refine JT_putI dX12_init_182 flX12_98 BS_248 (Nat.le_of_ble_eq_true rfl) (by rw [hN43]; decide) ct_12_47 ?_
  rw [show wI m43 248 47 (-1) = op1 m43 (2, 248, 47, -1) from rfl]
  obtain ⟨m44, e44⟩ : ∃ z, z = op1 m43 (2, 248, 47, -1) := ⟨_, rfl⟩
  rw [← e44]
  have hN44 : mN m44 = 270 := by rw [e44]; exact hN43
  have r44_248_6 : mR m44 248 6 = some 250 := by rw [e44]; exact r43_248_6
  have r44_248_10 : mR m44 248 10 = some 254 := by rw [e44]; exact r43_248_10
  refine JT_aload_n (q := 0) dX12_init_185 rfl rfl ?_
  refine JT_iconst (v := 4) dX12_init_186 (by decide) ?_
  refine JT_newa_int (mc := 7) (ms := 1634) (N := 4) dX12_init_187 aw_int (by rw [hN44]; exact BS_270) (by decide) (by decide) (by decide) ?_
  rw [hN44]
  rw [show wN m44 = op1 m44 (0, 0, 0, 0) from rfl]
  obtain ⟨m45, e45⟩ : ∃ z, z = op1 m44 (0, 0, 0, 0) := ⟨_, rfl⟩
  rw [← e45]
  have hN45 : mN m45 = 271 := by rw [e45]; show mN m44 + 1 = _; rw [hN44]
  have r45_248_6 : mR m45 248 6 = some 250 := by rw [e45]; exact r44_248_6
  have r45_248_10 : mR m45 248 10 = some 254 := by rw [e45]; exact r44_248_10
  refine JT_putF dX12_init_189 flX12_101 BS_248 (Nat.le_of_ble_eq_true rfl) (by rw [hN45]; decide) (Or.inr ⟨_, ct_12_48⟩) rfl (fun _ h => by cases h; rfl) ?_
  rw [show wR m45 248 48 270 = op1 m45 (1, 248, 48, 270) from rfl]
  obtain ⟨m46, e46⟩ : ∃ z, z = op1 m45 (1, 248, 48, 270) := ⟨_, rfl⟩
  rw [← e46]
  have hN46 : mN m46 = 271 := by rw [e46]; exact hN45
  have r46_248_6 : mR m46 248 6 = some 250 := by rw [e46]; show mR (wR m45 248 48 270) _ _ = _; rw [mR_wR, if_neg (by decide)]; exact r45_248_6
  have r46_248_10 : mR m46 248 10 = some 254 := by rw [e46]; show mR (wR m45 248 48 270) _ _ = _; rw [mR_wR, if_neg (by decide)]; exact r45_248_10
  refine JT_aload_n (q := 0) dX12_init_192 rfl rfl ?_
  refine JT_iconst (v := 4) dX12_init_193 (by decide) ?_
  refine JT_newa_int (mc := 6) (ms := 1630) (N := 4) dX12_init_194 aw_int (by rw [hN46]; exact BS_271) (by decide) (by decide) (by decide) ?_
  rw [hN46]
  rw [show wN m46 = op1 m46 (0, 0, 0, 0) from rfl]
  obtain ⟨m47, e47⟩ : ∃ z, z = op1 m46 (0, 0, 0, 0) := ⟨_, rfl⟩
  rw [← e47]
  have hN47 : mN m47 = 272 := by rw [e47]; show mN m46 + 1 = _; rw [hN46]
  have r47_248_6 : mR m47 248 6 = some 250 := by rw [e47]; exact r46_248_6
  have r47_248_10 : mR m47 248 10 = some 254 := by rw [e47]; exact r46_248_10
  refine JT_putF dX12_init_196 flX12_104 BS_248 (Nat.le_of_ble_eq_true rfl) (by rw [hN47]; decide) (Or.inr ⟨_, ct_12_49⟩) rfl (fun _ h => by cases h; rfl) ?_
  rw [show wR m47 248 49 271 = op1 m47 (1, 248, 49, 271) from rfl]
  obtain ⟨m48, e48⟩ : ∃ z, z = op1 m47 (1, 248, 49, 271) := ⟨_, rfl⟩
  rw [← e48]
  have hN48 : mN m48 = 272 := by rw [e48]; exact hN47
  have r48_248_6 : mR m48 248 6 = some 250 := by rw [e48]; show mR (wR m47 248 49 271) _ _ = _; rw [mR_wR, if_neg (by decide)]; exact r47_248_6
  have r48_248_10 : mR m48 248 10 = some 254 := by rw [e48]; show mR (wR m47 248 49 271) _ _ = _; rw [mR_wR, if_neg (by decide)]; exact r47_248_10
  refine JT_aload_n (q := 0) dX12_init_199 rfl rfl ?_
  refine JT_iconst (v := 4) dX12_init_200 (by decide) ?_
  refine JT_newa_int (mc := 5) (ms := 1626) (N := 4) dX12_init_201 aw_int (by rw [hN48]; exact BS_272) (by decide) (by decide) (by decide) ?_
  rw [hN48]
  rw [show wN m48 = op1 m48 (0, 0, 0, 0) from rfl]
  obtain ⟨m49, e49⟩ : ∃ z, z = op1 m48 (0, 0, 0, 0) := ⟨_, rfl⟩
  rw [← e49]
  have hN49 : mN m49 = 273 := by rw [e49]; show mN m48 + 1 = _; rw [hN48]
  have r49_248_6 : mR m49 248 6 = some 250 := by rw [e49]; exact r48_248_6
  have r49_248_10 : mR m49 248 10 = some 254 := by rw [e49]; exact r48_248_10
  refine JT_putF dX12_init_203 flX12_107 BS_248 (Nat.le_of_ble_eq_true rfl) (by rw [hN49]; decide) (Or.inr ⟨_, ct_12_50⟩) rfl (fun _ h => by cases h; rfl) ?_
  rw [show wR m49 248 50 272 = op1 m49 (1, 248, 50, 272) from rfl]
  obtain ⟨m50, e50⟩ : ∃ z, z = op1 m49 (1, 248, 50, 272) := ⟨_, rfl⟩
  rw [← e50]
  have hN50 : mN m50 = 273 := by rw [e50]; exact hN49
  have r50_248_6 : mR m50 248 6 = some 250 := by rw [e50]; show mR (wR m49 248 50 272) _ _ = _; rw [mR_wR, if_neg (by decide)]; exact r49_248_6
  have r50_248_10 : mR m50 248 10 = some 254 := by rw [e50]; show mR (wR m49 248 50 272) _ _ = _; rw [mR_wR, if_neg (by decide)]; exact r49_248_10
  refine JT_aload_n (q := 0) dX12_init_206 rfl rfl ?_
  refine JT_bipush (v := 9) dX12_init_207 (by decide) ?_
  refine JT_newa_int (mc := 4) (ms := 1617) (N := 9) dX12_init_209 aw_int (by rw [hN50]; exact BS_273) (by decide) (by decide) (by decide) ?_
  rw [hN50]
  rw [show wN m50 = op1 m50 (0, 0, 0, 0) from rfl]
  obtain ⟨m51, e51⟩ : ∃ z, z = op1 m50 (0, 0, 0, 0) := ⟨_, rfl⟩
  rw [← e51]
  have hN51 : mN m51 = 274 := by rw [e51]; show mN m50 + 1 = _; rw [hN50]
  have r51_248_6 : mR m51 248 6 = some 250 := by rw [e51]; exact r50_248_6
  have r51_248_10 : mR m51 248 10 = some 254 := by rw [e51]; exact r50_248_10
  refine JT_putF dX12_init_211 flX12_110 BS_248 (Nat.le_of_ble_eq_true rfl) (by rw [hN51]; decide) (Or.inr ⟨_, ct_12_51⟩) rfl (fun _ h => by cases h; rfl) ?_
  rw [show wR m51 248 51 273 = op1 m51 (1, 248, 51, 273) from rfl]
  obtain ⟨m52, e52⟩ : ∃ z, z = op1 m51 (1, 248, 51, 273) := ⟨_, rfl⟩
  rw [← e52]
  have hN52 : mN m52 = 274 := by rw [e52]; exact hN51
  have r52_248_6 : mR m52 248 6 = some 250 := by rw [e52]; show mR (wR m51 248 51 273) _ _ = _; rw [mR_wR, if_neg (by decide)]; exact r51_248_6
  have r52_248_10 : mR m52 248 10 = some 254 := by rw [e52]; show mR (wR m51 248 51 273) _ _ = _; rw [mR_wR, if_neg (by decide)]; exact r51_248_10
  refine JT_aload_n (q := 0) dX12_init_214 rfl rfl ?_
  refine JT_bipush (v := 9) dX12_init_215 (by decide) ?_
  refine JT_newa_int (mc := 3) (ms := 1608) (N := 9) dX12_init_217 aw_int (by rw [hN52]; exact BS_274) (by decide) (by decide) (by decide) ?_
  rw [hN52]
  rw [show wN m52 = op1 m52 (0, 0, 0, 0) from rfl]
  obtain ⟨m53, e53⟩ : ∃ z, z = op1 m52 (0, 0, 0, 0) := ⟨_, rfl⟩
  rw [← e53]
  have hN53 : mN m53 = 275 := by rw [e53]; show mN m52 + 1 = _; rw [hN52]
  have r53_248_6 : mR m53 248 6 = some 250 := by rw [e53]; exact r52_248_6
  have r53_248_10 : mR m53 248 10 = some 254 := by rw [e53]; exact r52_248_10
  refine JT_putF dX12_init_219 flX12_113 BS_248 (Nat.le_of_ble_eq_true rfl) (by rw [hN53]; decide) (Or.inr ⟨_, ct_12_52⟩) rfl (fun _ h => by cases h; rfl) ?_
  rw [show wR m53 248 52 274 = op1 m53 (1, 248, 52, 274) from rfl]
  obtain ⟨m54, e54⟩ : ∃ z, z = op1 m53 (1, 248, 52, 274) := ⟨_, rfl⟩
  rw [← e54]
  have hN54 : mN m54 = 275 := by rw [e54]; exact hN53
  have r54_248_6 : mR m54 248 6 = some 250 := by rw [e54]; show mR (wR m53 248 52 274) _ _ = _; rw [mR_wR, if_neg (by decide)]; exact r53_248_6
  have r54_248_10 : mR m54 248 10 = some 254 := by rw [e54]; show mR (wR m53 248 52 274) _ _ = _; rw [mR_wR, if_neg (by decide)]; exact r53_248_10
  refine JT_aload_n (q := 0) dX12_init_222 rfl rfl ?_
  refine JT_sipush (v := 1576) dX12_init_223 (by decide) ?_
  refine JT_newa_int (mc := 2) (ms := 32) (N := 1576) dX12_init_226 aw_int (by rw [hN54]; exact BS_275) (by decide) (by decide) (by decide) ?_
  rw [hN54]
  rw [show wN m54 = op1 m54 (0, 0, 0, 0) from rfl]
  obtain ⟨m55, e55⟩ : ∃ z, z = op1 m54 (0, 0, 0, 0) := ⟨_, rfl⟩
  rw [← e55]
  have hN55 : mN m55 = 276 := by rw [e55]; show mN m54 + 1 = _; rw [hN54]
  have r55_248_6 : mR m55 248 6 = some 250 := by rw [e55]; exact r54_248_6
  have r55_248_10 : mR m55 248 10 = some 254 := by rw [e55]; exact r54_248_10
  refine JT_putF dX12_init_228 flX12_116 BS_248 (Nat.le_of_ble_eq_true rfl) (by rw [hN55]; decide) (Or.inr ⟨_, ct_12_55⟩) rfl (fun _ h => by cases h; rfl) ?_
  rw [show wR m55 248 55 275 = op1 m55 (1, 248, 55, 275) from rfl]
  obtain ⟨m56, e56⟩ : ∃ z, z = op1 m55 (1, 248, 55, 275) := ⟨_, rfl⟩
  rw [← e56]
  have hN56 : mN m56 = 276 := by rw [e56]; exact hN55
  have r56_248_6 : mR m56 248 6 = some 250 := by rw [e56]; show mR (wR m55 248 55 275) _ _ = _; rw [mR_wR, if_neg (by decide)]; exact r55_248_6
  have r56_248_10 : mR m56 248 10 = some 254 := by rw [e56]; show mR (wR m55 248 55 275) _ _ = _; rw [mR_wR, if_neg (by decide)]; exact r55_248_10
  refine JT_aload_n (q := 0) dX12_init_231 rfl rfl ?_
  refine JT_bipush (v := 30) dX12_init_232 (by decide) ?_
  refine JT_newa_long (mc := 1) (ms := 2) (N := 30) dX12_init_234 aw_long (by rw [hN56]; exact BS_276) (by decide) (by decide) (by decide) ?_
  rw [hN56]
  rw [show wN m56 = op1 m56 (0, 0, 0, 0) from rfl]
  obtain ⟨m57, e57⟩ : ∃ z, z = op1 m56 (0, 0, 0, 0) := ⟨_, rfl⟩
  rw [← e57]
  have hN57 : mN m57 = 277 := by rw [e57]; show mN m56 + 1 = _; rw [hN56]
  have r57_248_6 : mR m57 248 6 = some 250 := by rw [e57]; exact r56_248_6
  have r57_248_10 : mR m57 248 10 = some 254 := by rw [e57]; exact r56_248_10
  refine JT_putF dX12_init_236 flX12_119 BS_248 (Nat.le_of_ble_eq_true rfl) (by rw [hN57]; decide) (Or.inr ⟨_, ct_12_56⟩) rfl (fun _ h => by cases h; rfl) ?_
  rw [show wR m57 248 56 276 = op1 m57 (1, 248, 56, 276) from rfl]
  obtain ⟨m58, e58⟩ : ∃ z, z = op1 m57 (1, 248, 56, 276) := ⟨_, rfl⟩
  rw [← e58]
  have hN58 : mN m58 = 277 := by rw [e58]; exact hN57
  have r58_248_6 : mR m58 248 6 = some 250 := by rw [e58]; show mR (wR m57 248 56 276) _ _ = _; rw [mR_wR, if_neg (by decide)]; exact r57_248_6
  have r58_248_10 : mR m58 248 10 = some 254 := by rw [e58]; show mR (wR m57 248 56 276) _ _ = _; rw [mR_wR, if_neg (by decide)]; exact r57_248_10
  refine JT_aload_n (q := 0) dX12_init_239 rfl rfl ?_
  refine JT_iconst (v := 2) dX12_init_240 (by decide) ?_
  refine JT_newa_boolean (mc := 0) (ms := 0) (N := 2) dX12_init_241 aw_boolean (by rw [hN58]; exact BS_277) (by decide) (by decide) (by decide) ?_
  rw [hN58]
  rw [show wN m58 = op1 m58 (0, 0, 0, 0) from rfl]
  obtain ⟨m59, e59⟩ : ∃ z, z = op1 m58 (0, 0, 0, 0) := ⟨_, rfl⟩
  rw [← e59]
  have hN59 : mN m59 = 278 := by rw [e59]; show mN m58 + 1 = _; rw [hN58]
  have r59_248_6 : mR m59 248 6 = some 250 := by rw [e59]; exact r58_248_6
  have r59_248_10 : mR m59 248 10 = some 254 := by rw [e59]; exact r58_248_10
  refine JT_putF dX12_init_243 flX12_122 BS_248 (Nat.le_of_ble_eq_true rfl) (by rw [hN59]; decide) (Or.inr ⟨_, ct_12_57⟩) rfl (fun _ h => by cases h; rfl) ?_
  rw [show wR m59 248 57 277 = op1 m59 (1, 248, 57, 277) from rfl]
  obtain ⟨m60, e60⟩ : ∃ z, z = op1 m59 (1, 248, 57, 277) := ⟨_, rfl⟩
  rw [← e60]
  have hN60 : mN m60 = 278 := by rw [e60]; exact hN59
  have r60_248_6 : mR m60 248 6 = some 250 := by rw [e60]; show mR (wR m59 248 57 277) _ _ = _; rw [mR_wR, if_neg (by decide)]; exact r59_248_6
  have r60_248_10 : mR m60 248 10 = some 254 := by rw [e60]; show mR (wR m59 248 57 277) _ _ = _; rw [mR_wR, if_neg (by decide)]; exact r59_248_10
  refine JT_aload_n (q := 0) dX12_init_246 rfl rfl ?_
  refine JT_getR (x := 254) dX12_init_247 flX12_47 BS_248 (Nat.le_of_ble_eq_true rfl) (by rw [hN60]; decide) (Or.inr ⟨_, ct_12_10⟩) r60_248_10 ?_
  refine JT_iconst (v := 0) dX12_init_250 (by decide) ?_
  refine JT_ldc2 dX12_init_251 kwX12_126 ?_
  refine JT_last dX12_init_254 BS_254 (Nat.le_of_ble_eq_true rfl) (by rw [hN60]; decide) (by unfold vp_in; decide) ?_
  rw [show ((0 : Int32)).toNatClampNeg = 0 from by decide]
  rw [show wL m60 254 0 (1651467385) = op1 m60 (3, 254, 0, 1651467385) from rfl]
  obtain ⟨m61, e61⟩ : ∃ z, z = op1 m60 (3, 254, 0, 1651467385) := ⟨_, rfl⟩
  rw [← e61]
  have hN61 : mN m61 = 278 := by rw [e61]; exact hN60
  have r61_248_6 : mR m61 248 6 = some 250 := by rw [e61]; exact r60_248_6
  have r61_248_10 : mR m61 248 10 = some 254 := by rw [e61]; exact r60_248_10
  refine JT_aload_n (q := 0) dX12_init_255 rfl rfl ?_
  refine JT_getR (x := 254) dX12_init_256 flX12_47 BS_248 (Nat.le_of_ble_eq_true rfl) (by rw [hN61]; decide) (Or.inr ⟨_, ct_12_10⟩) r61_248_10 ?_
  refine JT_iconst (v := 1) dX12_init_259 (by decide) ?_
  refine JT_ldc2 dX12_init_260 kwX12_128 ?_
  refine JT_last dX12_init_263 BS_254 (Nat.le_of_ble_eq_true rfl) (by rw [hN61]; decide) (by unfold vp_in; decide) ?_
  rw [show ((1 : Int32)).toNatClampNeg = 1 from by decide]
  rw [show wL m61 254 1 (7039342) = op1 m61 (3, 254, 1, 7039342) from rfl]
  obtain ⟨m62, e62⟩ : ∃ z, z = op1 m61 (3, 254, 1, 7039342) := ⟨_, rfl⟩
  rw [← e62]
  have hN62 : mN m62 = 278 := by rw [e62]; exact hN61
  have r62_248_6 : mR m62 248 6 = some 250 := by rw [e62]; exact r61_248_6
  have r62_248_10 : mR m62 248 10 = some 254 := by rw [e62]; exact r61_248_10
  refine JT_aload_n (q := 0) dX12_init_264 rfl rfl ?_
  refine JT_getR (x := 254) dX12_init_265 flX12_47 BS_248 (Nat.le_of_ble_eq_true rfl) (by rw [hN62]; decide) (Or.inr ⟨_, ct_12_10⟩) r62_248_10 ?_
  refine JT_iconst (v := 2) dX12_init_268 (by decide) ?_
  refine JT_ldc2 dX12_init_269 kwX12_130 ?_
  refine JT_last dX12_init_272 BS_254 (Nat.le_of_ble_eq_true rfl) (by rw [hN62]; decide) (by unfold vp_in; decide) ?_
  rw [show ((2 : Int32)).toNatClampNeg = 2 from by decide]
  rw [show wL m62 254 2 (1802071652) = op1 m62 (3, 254, 2, 1802071652) from rfl]
  obtain ⟨m63, e63⟩ : ∃ z, z = op1 m62 (3, 254, 2, 1802071652) := ⟨_, rfl⟩
  rw [← e63]
  have hN63 : mN m63 = 278 := by rw [e63]; exact hN62
  have r63_248_6 : mR m63 248 6 = some 250 := by rw [e63]; exact r62_248_6
  have r63_248_10 : mR m63 248 10 = some 254 := by rw [e63]; exact r62_248_10
  refine JT_aload_n (q := 0) dX12_init_273 rfl rfl ?_
  refine JT_getR (x := 254) dX12_init_274 flX12_47 BS_248 (Nat.le_of_ble_eq_true rfl) (by rw [hN63]; decide) (Or.inr ⟨_, ct_12_10⟩) r63_248_10 ?_
  refine JT_iconst (v := 3) dX12_init_277 (by decide) ?_
  refine JT_ldc2 dX12_init_278 kwX12_132 ?_
  refine JT_last dX12_init_281 BS_254 (Nat.le_of_ble_eq_true rfl) (by rw [hN63]; decide) (by unfold vp_in; decide) ?_
  rw [show ((3 : Int32)).toNatClampNeg = 3 from by decide]
  rw [show wL m63 254 3 (28270047624193380) = op1 m63 (3, 254, 3, 28270047624193380) from rfl]
  obtain ⟨m64, e64⟩ : ∃ z, z = op1 m63 (3, 254, 3, 28270047624193380) := ⟨_, rfl⟩
  rw [← e64]
  have hN64 : mN m64 = 278 := by rw [e64]; exact hN63
  have r64_248_6 : mR m64 248 6 = some 250 := by rw [e64]; exact r63_248_6
  have r64_248_10 : mR m64 248 10 = some 254 := by rw [e64]; exact r63_248_10
  refine JT_aload_n (q := 0) dX12_init_282 rfl rfl ?_
  refine JT_getR (x := 254) dX12_init_283 flX12_47 BS_248 (Nat.le_of_ble_eq_true rfl) (by rw [hN64]; decide) (Or.inr ⟨_, ct_12_10⟩) r64_248_10 ?_
  refine JT_iconst (v := 4) dX12_init_286 (by decide) ?_
  refine JT_ldc2 dX12_init_287 kwX12_134 ?_
  refine JT_last dX12_init_290 BS_254 (Nat.le_of_ble_eq_true rfl) (by rw [hN64]; decide) (by unfold vp_in; decide) ?_
  rw [show ((4 : Int32)).toNatClampNeg = 4 from by decide]
  rw [show wL m64 254 4 (114767640814948) = op1 m64 (3, 254, 4, 114767640814948) from rfl]
  obtain ⟨m65, e65⟩ : ∃ z, z = op1 m64 (3, 254, 4, 114767640814948) := ⟨_, rfl⟩
  rw [← e65]
  have hN65 : mN m65 = 278 := by rw [e65]; exact hN64
  have r65_248_6 : mR m65 248 6 = some 250 := by rw [e65]; exact r64_248_6
  have r65_248_10 : mR m65 248 10 = some 254 := by rw [e65]; exact r64_248_10
  refine JT_aload_n (q := 0) dX12_init_291 rfl rfl ?_
  refine JT_getR (x := 254) dX12_init_292 flX12_47 BS_248 (Nat.le_of_ble_eq_true rfl) (by rw [hN65]; decide) (Or.inr ⟨_, ct_12_10⟩) r65_248_10 ?_
  refine JT_iconst (v := 5) dX12_init_295 (by decide) ?_
  refine JT_ldc2 dX12_init_296 kwX12_136 ?_
  refine JT_last dX12_init_299 BS_254 (Nat.le_of_ble_eq_true rfl) (by rw [hN65]; decide) (by unfold vp_in; decide) ?_
  rw [show ((5 : Int32)).toNatClampNeg = 5 from by decide]
  rw [show wL m65 254 5 (439721161573) = op1 m65 (3, 254, 5, 439721161573) from rfl]
  obtain ⟨m66, e66⟩ : ∃ z, z = op1 m65 (3, 254, 5, 439721161573) := ⟨_, rfl⟩
  rw [← e66]
  have hN66 : mN m66 = 278 := by rw [e66]; exact hN65
  have r66_248_6 : mR m66 248 6 = some 250 := by rw [e66]; exact r65_248_6
  have r66_248_10 : mR m66 248 10 = some 254 := by rw [e66]; exact r65_248_10
  refine JT_aload_n (q := 0) dX12_init_300 rfl rfl ?_
  refine JT_getR (x := 254) dX12_init_301 flX12_47 BS_248 (Nat.le_of_ble_eq_true rfl) (by rw [hN66]; decide) (Or.inr ⟨_, ct_12_10⟩) r66_248_10 ?_
  refine JT_bipush (v := 6) dX12_init_304 (by decide) ?_
  refine JT_ldc2 dX12_init_306 kwX12_138 ?_
  refine JT_last dX12_init_309 BS_254 (Nat.le_of_ble_eq_true rfl) (by rw [hN66]; decide) (by unfold vp_in; decide) ?_
  rw [show ((6 : Int32)).toNatClampNeg = 6 from by decide]
  rw [show wL m66 254 6 (457135713908) = op1 m66 (3, 254, 6, 457135713908) from rfl]
  obtain ⟨m67, e67⟩ : ∃ z, z = op1 m66 (3, 254, 6, 457135713908) := ⟨_, rfl⟩
  rw [← e67]
  have hN67 : mN m67 = 278 := by rw [e67]; exact hN66
  have r67_248_6 : mR m67 248 6 = some 250 := by rw [e67]; exact r66_248_6
  have r67_248_10 : mR m67 248 10 = some 254 := by rw [e67]; exact r66_248_10
  refine JT_aload_n (q := 0) dX12_init_310 rfl rfl ?_
  refine JT_getR (x := 254) dX12_init_311 flX12_47 BS_248 (Nat.le_of_ble_eq_true rfl) (by rw [hN67]; decide) (Or.inr ⟨_, ct_12_10⟩) r67_248_10 ?_
  refine JT_bipush (v := 7) dX12_init_314 (by decide) ?_
  refine JT_ldc2 dX12_init_316 kwX12_140 ?_
  refine JT_last dX12_init_319 BS_254 (Nat.le_of_ble_eq_true rfl) (by rw [hN67]; decide) (by unfold vp_in; decide) ?_
  rw [show ((7 : Int32)).toNatClampNeg = 7 from by decide]
  rw [show wL m67 254 7 (1818848869) = op1 m67 (3, 254, 7, 1818848869) from rfl]
  obtain ⟨m68, e68⟩ : ∃ z, z = op1 m67 (3, 254, 7, 1818848869) := ⟨_, rfl⟩
  rw [← e68]
  have hN68 : mN m68 = 278 := by rw [e68]; exact hN67
  have r68_248_6 : mR m68 248 6 = some 250 := by rw [e68]; exact r67_248_6
  have r68_248_10 : mR m68 248 10 = some 254 := by rw [e68]; exact r67_248_10
  refine JT_aload_n (q := 0) dX12_init_320 rfl rfl ?_
  refine JT_getR (x := 254) dX12_init_321 flX12_47 BS_248 (Nat.le_of_ble_eq_true rfl) (by rw [hN68]; decide) (Or.inr ⟨_, ct_12_10⟩) r68_248_10 ?_
  refine JT_bipush (v := 8) dX12_init_324 (by decide) ?_
  refine JT_ldc2 dX12_init_326 kwX12_142 ?_
  refine JT_last dX12_init_329 BS_254 (Nat.le_of_ble_eq_true rfl) (by rw [hN68]; decide) (by unfold vp_in; decide) ?_
  rw [show ((8 : Int32)).toNatClampNeg = 8 from by decide]
  rw [show wL m68 254 8 (6582132) = op1 m68 (3, 254, 8, 6582132) from rfl]
  obtain ⟨m69, e69⟩ : ∃ z, z = op1 m68 (3, 254, 8, 6582132) := ⟨_, rfl⟩
  rw [← e69]
  have hN69 : mN m69 = 278 := by rw [e69]; exact hN68
  have r69_248_6 : mR m69 248 6 = some 250 := by rw [e69]; exact r68_248_6
  have r69_248_10 : mR m69 248 10 = some 254 := by rw [e69]; exact r68_248_10
  refine JT_aload_n (q := 0) dX12_init_330 rfl rfl ?_
  refine JT_getR (x := 254) dX12_init_331 flX12_47 BS_248 (Nat.le_of_ble_eq_true rfl) (by rw [hN69]; decide) (Or.inr ⟨_, ct_12_10⟩) r69_248_10 ?_
  refine JT_bipush (v := 9) dX12_init_334 (by decide) ?_
  refine JT_ldc2 dX12_init_336 kwX12_144 ?_
  refine JT_last dX12_init_339 BS_254 (Nat.le_of_ble_eq_true rfl) (by rw [hN69]; decide) (by unfold vp_in; decide) ?_
  rw [show ((9 : Int32)).toNatClampNeg = 9 from by decide]
  rw [show wL m69 254 9 (1684365676) = op1 m69 (3, 254, 9, 1684365676) from rfl]
  obtain ⟨m70, e70⟩ : ∃ z, z = op1 m69 (3, 254, 9, 1684365676) := ⟨_, rfl⟩
  rw [← e70]
  have hN70 : mN m70 = 278 := by rw [e70]; exact hN69
  have r70_248_6 : mR m70 248 6 = some 250 := by rw [e70]; exact r69_248_6
  have r70_248_10 : mR m70 248 10 = some 254 := by rw [e70]; exact r69_248_10
  refine JT_aload_n (q := 0) dX12_init_340 rfl rfl ?_
  refine JT_getR (x := 254) dX12_init_341 flX12_47 BS_248 (Nat.le_of_ble_eq_true rfl) (by rw [hN70]; decide) (Or.inr ⟨_, ct_12_10⟩) r70_248_10 ?_
  refine JT_bipush (v := 10) dX12_init_344 (by decide) ?_
  refine JT_ldc2 dX12_init_346 kwX12_146 ?_
  refine JT_last dX12_init_349 BS_254 (Nat.le_of_ble_eq_true rfl) (by rw [hN70]; decide) (by unfold vp_in; decide) ?_
  rw [show ((10 : Int32)).toNatClampNeg = 10 from by decide]
  rw [show wL m70 254 10 (126943972911973) = op1 m70 (3, 254, 10, 126943972911973) from rfl]
  obtain ⟨m71, e71⟩ : ∃ z, z = op1 m70 (3, 254, 10, 126943972911973) := ⟨_, rfl⟩
  rw [← e71]
  have hN71 : mN m71 = 278 := by rw [e71]; exact hN70
  have r71_248_6 : mR m71 248 6 = some 250 := by rw [e71]; exact r70_248_6
  have r71_248_10 : mR m71 248 10 = some 254 := by rw [e71]; exact r70_248_10
  refine JT_aload_n (q := 0) dX12_init_350 rfl rfl ?_
  refine JT_getR (x := 254) dX12_init_351 flX12_47 BS_248 (Nat.le_of_ble_eq_true rfl) (by rw [hN71]; decide) (Or.inr ⟨_, ct_12_10⟩) r71_248_10 ?_
  refine JT_bipush (v := 11) dX12_init_354 (by decide) ?_
  refine JT_ldc2 dX12_init_356 kwX12_148 ?_
  refine JT_last dX12_init_359 BS_254 (Nat.le_of_ble_eq_true rfl) (by rw [hN71]; decide) (by unfold vp_in; decide) ?_
  rw [show ((11 : Int32)).toNatClampNeg = 11 from by decide]
  rw [show wL m71 254 11 (1935892850) = op1 m71 (3, 254, 11, 1935892850) from rfl]
  obtain ⟨m72, e72⟩ : ∃ z, z = op1 m71 (3, 254, 11, 1935892850) := ⟨_, rfl⟩
  rw [← e72]
  have hN72 : mN m72 = 278 := by rw [e72]; exact hN71
  have r72_248_6 : mR m72 248 6 = some 250 := by rw [e72]; exact r71_248_6
  have r72_248_10 : mR m72 248 10 = some 254 := by rw [e72]; exact r71_248_10
  refine JT_aload_n (q := 0) dX12_init_360 rfl rfl ?_
  refine JT_getR (x := 254) dX12_init_361 flX12_47 BS_248 (Nat.le_of_ble_eq_true rfl) (by rw [hN72]; decide) (Or.inr ⟨_, ct_12_10⟩) r72_248_10 ?_
  refine JT_bipush (v := 12) dX12_init_364 (by decide) ?_
  refine JT_ldc2 dX12_init_366 kwX12_150 ?_
  refine JT_last dX12_init_369 BS_254 (Nat.le_of_ble_eq_true rfl) (by rw [hN72]; decide) (by unfold vp_in; decide) ?_
  rw [show ((12 : Int32)).toNatClampNeg = 12 from by decide]
  rw [show wL m72 254 12 (109342978500980) = op1 m72 (3, 254, 12, 109342978500980) from rfl]
  obtain ⟨m73, e73⟩ : ∃ z, z = op1 m72 (3, 254, 12, 109342978500980) := ⟨_, rfl⟩
  rw [← e73]
  have hN73 : mN m73 = 278 := by rw [e73]; exact hN72
  have r73_248_6 : mR m73 248 6 = some 250 := by rw [e73]; exact r72_248_6
  have r73_248_10 : mR m73 248 10 = some 254 := by rw [e73]; exact r72_248_10
  refine JT_aload_n (q := 0) dX12_init_370 rfl rfl ?_
  refine JT_getR (x := 254) dX12_init_371 flX12_47 BS_248 (Nat.le_of_ble_eq_true rfl) (by rw [hN73]; decide) (Or.inr ⟨_, ct_12_10⟩) r73_248_10 ?_
  refine JT_bipush (v := 13) dX12_init_374 (by decide) ?_
  refine JT_ldc2 dX12_init_376 kwX12_152 ?_
  refine JT_last dX12_init_379 BS_254 (Nat.le_of_ble_eq_true rfl) (by rw [hN73]; decide) (by unfold vp_in; decide) ?_
  rw [show ((13 : Int32)).toNatClampNeg = 13 from by decide]
  rw [show wL m73 254 13 (1684365940) = op1 m73 (3, 254, 13, 1684365940) from rfl]
  obtain ⟨m74, e74⟩ : ∃ z, z = op1 m73 (3, 254, 13, 1684365940) := ⟨_, rfl⟩
  rw [← e74]
  have hN74 : mN m74 = 278 := by rw [e74]; exact hN73
  have r74_248_6 : mR m74 248 6 = some 250 := by rw [e74]; exact r73_248_6
  have r74_248_10 : mR m74 248 10 = some 254 := by rw [e74]; exact r73_248_10
  refine JT_aload_n (q := 0) dX12_init_380 rfl rfl ?_
  refine JT_getR (x := 254) dX12_init_381 flX12_47 BS_248 (Nat.le_of_ble_eq_true rfl) (by rw [hN74]; decide) (Or.inr ⟨_, ct_12_10⟩) r74_248_10 ?_
  refine JT_bipush (v := 14) dX12_init_384 (by decide) ?_
  refine JT_ldc2 dX12_init_386 kwX12_154 ?_
  refine JT_last dX12_init_389 BS_254 (Nat.le_of_ble_eq_true rfl) (by rw [hN74]; decide) (by unfold vp_in; decide) ?_
  rw [show ((14 : Int32)).toNatClampNeg = 14 from by decide]
  rw [show wL m74 254 14 (1919512167) = op1 m74 (3, 254, 14, 1919512167) from rfl]
  obtain ⟨m75, e75⟩ : ∃ z, z = op1 m74 (3, 254, 14, 1919512167) := ⟨_, rfl⟩
  rw [← e75]
  have hN75 : mN m75 = 278 := by rw [e75]; exact hN74
  have r75_248_6 : mR m75 248 6 = some 250 := by rw [e75]; exact r74_248_6
  have r75_248_10 : mR m75 248 10 = some 254 := by rw [e75]; exact r74_248_10
  refine JT_aload_n (q := 0) dX12_init_390 rfl rfl ?_
  refine JT_getR (x := 254) dX12_init_391 flX12_47 BS_248 (Nat.le_of_ble_eq_true rfl) (by rw [hN75]; decide) (Or.inr ⟨_, ct_12_10⟩) r75_248_10 ?_
  refine JT_bipush (v := 15) dX12_init_394 (by decide) ?_
  refine JT_ldc2 dX12_init_396 kwX12_156 ?_
  refine JT_last dX12_init_399 BS_254 (Nat.le_of_ble_eq_true rfl) (by rw [hN75]; decide) (by unfold vp_in; decide) ?_
  rw [show ((15 : Int32)).toNatClampNeg = 15 from by decide]
  rw [show wL m75 254 15 (1684628851) = op1 m75 (3, 254, 15, 1684628851) from rfl]
  obtain ⟨m76, e76⟩ : ∃ z, z = op1 m75 (3, 254, 15, 1684628851) := ⟨_, rfl⟩
  rw [← e76]
  have hN76 : mN m76 = 278 := by rw [e76]; exact hN75
  have r76_248_6 : mR m76 248 6 = some 250 := by rw [e76]; exact r75_248_6
  have r76_248_10 : mR m76 248 10 = some 254 := by rw [e76]; exact r75_248_10
  refine JT_aload_n (q := 0) dX12_init_400 rfl rfl ?_
  refine JT_getR (x := 254) dX12_init_401 flX12_47 BS_248 (Nat.le_of_ble_eq_true rfl) (by rw [hN76]; decide) (Or.inr ⟨_, ct_12_10⟩) r76_248_10 ?_
  refine JT_bipush (v := 16) dX12_init_404 (by decide) ?_
  refine JT_ldc2 dX12_init_406 kwX12_158 ?_
  refine JT_last dX12_init_409 BS_254 (Nat.le_of_ble_eq_true rfl) (by rw [hN76]; decide) (by unfold vp_in; decide) ?_
  rw [show ((16 : Int32)).toNatClampNeg = 16 from by decide]
  rw [show wL m76 254 16 (2036687218) = op1 m76 (3, 254, 16, 2036687218) from rfl]
  obtain ⟨m77, e77⟩ : ∃ z, z = op1 m76 (3, 254, 16, 2036687218) := ⟨_, rfl⟩
  rw [← e77]
  have hN77 : mN m77 = 278 := by rw [e77]; exact hN76
  have r77_248_6 : mR m77 248 6 = some 250 := by rw [e77]; exact r76_248_6
  have r77_248_10 : mR m77 248 10 = some 254 := by rw [e77]; exact r76_248_10
  refine JT_aload_n (q := 0) dX12_init_410 rfl rfl ?_
  refine JT_getR (x := 250) dX12_init_411 flX12_33 BS_248 (Nat.le_of_ble_eq_true rfl) (by rw [hN77]; decide) (Or.inr ⟨_, ct_12_6⟩) r77_248_6 ?_
  refine JT_iconst (v := 2) dX12_init_414 (by decide) ?_
  refine JT_iconst (v := 1) dX12_init_415 (by decide) ?_
  refine JT_iast dX12_init_416 BS_250 (Nat.le_of_ble_eq_true rfl) (by rw [hN77]; decide) (by unfold vp_in; decide) ?_
  rw [show ((2 : Int32)).toNatClampNeg = 2 from by decide]
  rw [show wI m77 250 2 (1) = op1 m77 (2, 250, 2, 1) from rfl]
  obtain ⟨m78, e78⟩ : ∃ z, z = op1 m77 (2, 250, 2, 1) := ⟨_, rfl⟩
  rw [← e78]
  have hN78 : mN m78 = 278 := by rw [e78]; exact hN77
  have r78_248_6 : mR m78 248 6 = some 250 := by rw [e78]; exact r77_248_6
  have r78_248_10 : mR m78 248 10 = some 254 := by rw [e78]; exact r77_248_10
  refine JT_vret (st := []) dX12_init_417 rfl ⟨trivial, rfl, ?_⟩
  rw [e78, e77, e76, e75, e74, e73, e72, e71, e70, e69, e68, e67, e66, e65, e64, e63, e62, e61, e60, e59, e58, e57, e56, e55, e54, e53, e52, e51, e50, e49, e48, e47, e46, e45, e44, e43, e42, e41, e40, e39, e38, e37, e36, e35, e34, e33, e32, e31, e30, e29, e28, e27, e26, e25, e24, e23, e22, e21, e20, e19, e18, e17, e16, e15, e14, e13, e12, e11, e10, e9, e8, e7, e6, e5, e4, e3, e2, e1]
  simp only [kX12_init_248o, List.foldl_append, List.foldl_cons, List.foldl_nil]
