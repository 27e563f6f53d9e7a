-- needs: 69z.feed
/-! the text of a skin -/
def TxY (s : SM) (w : List Int) : Prop := gI s 244 0 = zI (w.length : Int) ∧ ∀ i, i < w.length → gI s 245 i = zI (w.getD i 0)
def TxX (s : SM) (w : List Int) : Prop := gI s 248 35 = zI (w.length : Int) ∧ ∀ i, i < w.length → (gI s 262 i &&& 255) = zI (w.getD i 0)
abbrev TyA (c i : Nat) : Prop := (c = 244 ∧ i = 0) ∨ c = 245
abbrev TxA (c i : Nat) : Prop := (c = 248 ∧ i = 35) ∨ c = 262
theorem TxY_fp {s t : SM} {w : List Int} {A : Nat → Nat → Prop} (h : TxY s w) (hf : Fp A s t) (hA : ∀ c i, TyA c i → ¬ A c i) : TxY t w := ⟨by rw [hf.1 244 0 (hA _ _ (by omega))]; exact h.1, fun i hi => by rw [hf.1 245 i (hA _ _ (by omega))]; exact h.2 i hi⟩
theorem TxX_fp {s t : SM} {w : List Int} {A : Nat → Nat → Prop} (h : TxX s w) (hf : Fp A s t) (hA : ∀ c i, TxA c i → ¬ A c i) : TxX t w := ⟨by rw [hf.1 248 35 (hA _ _ (by omega))]; exact h.1, fun i hi => by rw [hf.1 262 i (hA _ _ (by omega))]; exact h.2 i hi⟩
theorem gd_app (w : List Int) (v : Int) {i : Nat} (h : i < (w ++ [v]).length) : (w ++ [v]).getD i 0 = if i < w.length then w.getD i 0 else v := by
  rw [List.length_append, List.length_singleton] at h
  by_cases hi : i < w.length
  · rw [if_pos hi, List.getD_eq_getElem?_getD, List.getD_eq_getElem?_getD, List.getElem?_append_left hi]
  · obtain rfl : i = w.length := by omega
    rw [if_neg hi, List.getD_eq_getElem?_getD, List.getElem?_concat_length]; rfl
theorem z255 {v : Int} (h : 0 ≤ v ∧ v < 256) : zI v &&& 255 = zI v := by
  obtain ⟨n, rfl⟩ := Int.eq_ofNat_of_zero_le h.1
  have e : (255 : Int32) = zI ((255 : Nat) : Int) := rfl
  have h2 : n < 2 ^ 8 := by omega
  rw [e, zN_and, show (255 : Nat) = 2 ^ 8 - 1 from rfl, Nat.and_two_pow_sub_one_of_lt_two_pow h2]
theorem y_tput {s : SM} {w : List Int} (h : TxY s w) (hn : w.length < 2640) (v : Int) : ∃ t, mX10_add s (zI v) = t ∧ rX10_add s (zI v) ∧ TxY t (w ++ [v]) ∧ Fp TyA s t := by
  have n2 : ¬ 2640 ≤ zI (w.length : Int) := by rw [show (2640 : Int32) = zI 2640 from rfl, z_le (by omega) (by omega)]; omega
  have cj : (zI (w.length : Int)).toNatClampNeg = w.length := by rw [z_cl (by omega)]; exact Int.toNat_natCast _
  have e3 : gI (pI s 245 w.length (zI v)) 244 0 + 1 = zI ((w.length + 1 : Nat) : Int) := by rw [gI_pI, if_neg (by omega), h.1, zl1, z_add]; congr 1
  refine ⟨pI (pI s 245 w.length (zI v)) 244 0 (zI ((w.length + 1 : Nat) : Int)), ?_, ?_, ⟨?_, fun i hi => ?_⟩, ?_⟩
  · unfold mX10_add; rw [h.1, if_neg n2, cj, e3]
  · unfold rX10_add; rw [h.1]; exact fun _ => by rw [z_in (by omega)]; omega
  · rw [gI_pI, if_pos ⟨rfl, rfl⟩, List.length_append, List.length_singleton]
  · rw [gd_app w v hi, gI_pI, if_neg (by omega), gI_pI]
    rw [List.length_append, List.length_singleton] at hi
    by_cases hq : i < w.length
    · rw [if_neg (by omega), if_pos hq]; exact h.2 i hq
    · rw [if_pos ⟨rfl, by omega⟩, if_neg hq]
  · exact Fp_tr (Fp_p _ (by omega)) (Fp_p _ (by omega))
theorem x_tput {s : SM} {w : List Int} (h : TxX s w) (hn : w.length < 2640) {v : Int} (hv : 0 ≤ v ∧ v < 256) : ∃ t, mX12_put s (zI v) = t ∧ rX12_put s (zI v) ∧ TxX t (w ++ [v]) ∧ Fp TxA s t := by
  have cj : (zI (w.length : Int)).toNatClampNeg = w.length := by rw [z_cl (by omega)]; exact Int.toNat_natCast _
  have e3 : gI (pI s 262 w.length (vp_nar .byte (zI v).toInt8.toInt32)) 248 35 + 1 = zI ((w.length + 1 : Nat) : Int) := by rw [gI_pI, if_neg (by omega), h.1, zl1, z_add]; congr 1
  refine ⟨pI (pI s 262 w.length (vp_nar .byte (zI v).toInt8.toInt32)) 248 35 (zI ((w.length + 1 : Nat) : Int)), ?_, ?_, ⟨?_, fun i hi => ?_⟩, ?_⟩
  · unfold mX12_put; rw [h.1, cj, e3]
  · unfold rX12_put; rw [h.1, z_in (by omega)]; omega
  · rw [gI_pI, if_pos ⟨rfl, rfl⟩, List.length_append, List.length_singleton]
  · rw [gd_app w v hi, gI_pI, if_neg (by omega), gI_pI]
    rw [List.length_append, List.length_singleton] at hi
    by_cases hq : i < w.length
    · rw [if_neg (by omega), if_pos hq]; exact h.2 i hq
    · rw [if_pos ⟨rfl, by omega⟩, if_neg hq, nar255, z255 hv]
  · exact Fp_tr (Fp_p _ (by omega)) (Fp_p _ (by omega))
/-! names -/
def obL (b : Int64) (d : Nat) : Int64 := (b >>> ((zI (48 - 8 * (d : Int))).toInt64 &&& 63)) &&& 255
def ob (b : Int64) (d : Nat) : Int := (obL b d).toInt32.toInt
theorem ob_z (b : Int64) (d : Nat) : (obL b d).toInt32 = zI (ob b d) := (zI_tI _).symm
theorem and255L (x : Int64) : (x &&& 255).toBitVec.toNat < 256 := by
  have e : (255 : Int64).toBitVec = 255#64 := rfl
  rw [Int64.toBitVec_and, e, BitVec.toNat_and]
  have := @Nat.and_le_right x.toBitVec.toNat (255#64).toNat
  have e2 : (255#64 : BitVec 64).toNat = 255 := rfl
  omega
theorem toI32_n (x : Int64) (h : x.toBitVec.toNat < 256) : x.toInt32.toInt = x.toBitVec.toNat := by
  have e : x.toInt32.toBitVec.toNat = x.toBitVec.toNat := by
    rw [Int64.toBitVec_toInt32]
    first
    | rw [BitVec.signExtend_eq_setWidth_of_le _ (by omega), BitVec.toNat_setWidth]
    | rw [BitVec.signExtend_eq_setWidth_of_lt _ (by omega), BitVec.toNat_setWidth]
    omega
  have h2 : x.toInt32.toInt = x.toInt32.toBitVec.toInt := rfl
  rw [h2, BitVec.toInt_eq_toNat_cond, e]
  split <;> omega
theorem ob_r (b : Int64) (d : Nat) : 0 ≤ ob b d ∧ ob b d < 256 := by
  have h : (obL b d).toBitVec.toNat < 256 := and255L _
  have e : ob b d = ((obL b d).toBitVec.toNat : Int) := toI32_n _ h
  rw [e]; omega
theorem ob_c (b : Int64) (d : Nat) : lg_cmp (obL b d) (0 : Int64) = 0 ↔ ob b d = 0 := by
  have h : (obL b d).toBitVec.toNat < 256 := and255L _
  have e : ob b d = ((obL b d).toBitVec.toNat : Int) := toI32_n _ h
  have e0 : obL b d = 0 ↔ ob b d = 0 := by
    rw [e]
    constructor
    · intro hq
      rw [hq]; rfl
    · intro hq
      apply Int64.toBitVec_inj.mp
      apply BitVec.eq_of_toNat_eq
      show (obL b d).toBitVec.toNat = 0
      omega
  rw [← e0]
  unfold lg_cmp
  by_cases h1 : obL b d > 0
  · rw [if_pos h1]
    refine ⟨fun hc => absurd hc (by decide), fun hc => ?_⟩
    rw [hc] at h1
    exact absurd h1 (by decide)
  · rw [if_neg h1]
    by_cases h2 : obL b d = 0
    · rw [if_pos h2]; exact ⟨fun _ => h2, fun _ => rfl⟩
    · rw [if_neg h2]; exact ⟨fun hc => absurd hc (by decide), fun hc => absurd hc h2⟩
def nmB (b : Int64) : Nat → List Int
  | 0 => []
  | d + 1 => nmB b d ++ (if ob b d = 0 then [] else [ob b d])
theorem nmB_l (b : Int64) : ∀ d, (nmB b d).length ≤ d := by
  intro d
  induction d with
  | zero => exact Nat.le_refl _
  | succ d ih =>
    unfold nmB
    rw [List.length_append]
    split
    · show _ + 0 ≤ _; omega
    · show _ + 1 ≤ _; omega
theorem y_tname {s : SM} {w : List Int} (h : TxY s w) (hn : w.length + 7 ≤ 2640) (b : Int64) : ∃ t, mX10_addName s b = t ∧ rX10_addName s b ∧ TxY t (w ++ nmB b 7) ∧ Fp TyA s t := by
  obtain ⟨t, ⟨i1, i2⟩, st⟩ := ST_up (B := 1) 7 (fun (d : Nat) (t : SM) => TxY t (w ++ nmB b d) ∧ Fp TyA s t) (fun d t m => lX10_addName m t b (zI (48 - 8 * (d : Int)))) (fun d t m => qX10_addName m t b (zI (48 - 8 * (d : Int)))) (fun d t hd ⟨h1, h2⟩ => by
    have n1 : ¬ zI (48 - 8 * (d : Int)) < 0 := by rw [zl0, z_lt (by omega) (by omega)]; omega
    have e8 : zI (48 - 8 * (d : Int)) + (-8) = zI (48 - 8 * ((d + 1 : Nat) : Int)) := by rw [show (-8 : Int32) = zI (-8) from rfl, z_add]; congr 1; omega
    have eo : (((b >>> ((zI (48 - 8 * (d : Int))).toInt64 &&& 63)) &&& (255 : Int64))).toInt32 = zI (ob b d) := ob_z b d
    have hr := ob_r b d
    have hl := nmB_l b d
    by_cases c0 : ob b d = 0
    · have k0 : zI (ob b d) = 0 := by rw [c0]; rfl
      refine ⟨t, ⟨by unfold nmB; rw [if_pos c0, List.append_nil]; exact h1, h2⟩, ST_1 fun m => ?_⟩
      show tX10_addName_3 _ _ _ _ = _ ∧ (_ → uX10_addName_3 _ _ _ _)
      unfold tX10_addName_3 uX10_addName_3
      rw [if_neg n1, eo, if_pos k0, e8]
      exact ⟨rfl, fun hh _ => ⟨fun _ => hh, fun hc => absurd k0 hc⟩⟩
    · have k0 : ¬ zI (ob b d) = 0 := by rw [zl0, z_eq (by omega) (by omega)]; exact c0
      obtain ⟨t', p1, p2, p3, p4⟩ := y_tput h1 (by rw [List.length_append]; omega) (ob b d)
      refine ⟨t', ⟨by unfold nmB; rw [if_neg c0, ← List.append_assoc]; exact p3, Fp_tr h2 p4⟩, ST_1 fun m => ?_⟩
      show tX10_addName_3 _ _ _ _ = _ ∧ (_ → uX10_addName_3 _ _ _ _)
      unfold tX10_addName_3 uX10_addName_3
      rw [if_neg n1, eo, if_neg k0, e8, p1]
      exact ⟨rfl, fun hh _ => ⟨fun hc => absurd hc k0, fun _ => ⟨p2, hh⟩⟩⟩) 7 0 s (by omega) ⟨by show TxY s (w ++ []); rw [List.append_nil]; exact h, Fp_rf _ _⟩
  obtain ⟨E, R⟩ := ST_fu (ST_trans st (ST_1 (F' := fun _ => t) (C' := fun _ => True) (fun m => by
    show tX10_addName_3 _ _ _ _ = _ ∧ (_ → uX10_addName_3 _ _ _ _)
    unfold tX10_addName_3 uX10_addName_3
    have n1 : zI (48 - 8 * ((7 : Nat) : Int)) < 0 := by rw [zl0, z_lt (by omega) (by omega)]; omega
    rw [if_pos n1]
    exact ⟨rfl, fun _ hc => absurd n1 hc⟩))) (by omega)
  exact ⟨t, E, R, i1, i2⟩
theorem x_tname {s : SM} {w : List Int} (h : TxX s w) (hn : w.length + 7 ≤ 2640) (b : Int64) : ∃ t, mX12_putName s b = t ∧ rX12_putName s b ∧ TxX t (w ++ nmB b 7) ∧ Fp TxA s t := by
  obtain ⟨t, ⟨i1, i2⟩, st⟩ := ST_up (B := 1) 7 (fun (d : Nat) (t : SM) => TxX t (w ++ nmB b d) ∧ Fp TxA s t) (fun d t m => lX12_putName m t b (zI (48 - 8 * (d : Int)))) (fun d t m => qX12_putName m t b (zI (48 - 8 * (d : Int)))) (fun d t hd ⟨h1, h2⟩ => by
    have n1 : ¬ zI (48 - 8 * (d : Int)) < 0 := by rw [zl0, z_lt (by omega) (by omega)]; omega
    have e8 : zI (48 - 8 * (d : Int)) + (-8) = zI (48 - 8 * ((d + 1 : Nat) : Int)) := by rw [show (-8 : Int32) = zI (-8) from rfl, z_add]; congr 1; omega
    have eo : (((b >>> ((zI (48 - 8 * (d : Int))).toInt64 &&& 63)) &&& (255 : Int64))).toInt32 = zI (ob b d) := ob_z b d
    have ec : lg_cmp ((b >>> ((zI (48 - 8 * (d : Int))).toInt64 &&& 63)) &&& (255 : Int64)) (0 : Int64) = 0 ↔ ob b d = 0 := ob_c b d
    have hr := ob_r b d
    have hl := nmB_l b d
    by_cases c0 : ob b d = 0
    · have k0 := ec.mpr c0
      refine ⟨t, ⟨by unfold nmB; rw [if_pos c0, List.append_nil]; exact h1, h2⟩, ST_1 fun m => ?_⟩
      show tX12_putName_3 _ _ _ _ = _ ∧ (_ → uX12_putName_3 _ _ _ _)
      unfold tX12_putName_3 uX12_putName_3
      rw [if_neg n1, if_pos k0, e8]
      exact ⟨rfl, fun hh _ => ⟨fun _ => hh, fun hc => absurd k0 hc⟩⟩
    · have k0 := fun hc => c0 (ec.mp hc)
      obtain ⟨t', p1, p2, p3, p4⟩ := x_tput h1 (by rw [List.length_append]; omega) hr
      refine ⟨t', ⟨by unfold nmB; rw [if_neg c0, ← List.append_assoc]; exact p3, Fp_tr h2 p4⟩, ST_1 fun m => ?_⟩
      show tX12_putName_3 _ _ _ _ = _ ∧ (_ → uX12_putName_3 _ _ _ _)
      unfold tX12_putName_3 uX12_putName_3
      rw [if_neg n1, if_neg k0, eo, e8, p1]
      exact ⟨rfl, fun hh _ => ⟨fun hc => absurd hc k0, fun _ => ⟨p2, hh⟩⟩⟩) 7 0 s (by omega) ⟨by show TxX s (w ++ []); rw [List.append_nil]; exact h, Fp_rf _ _⟩
  obtain ⟨E, R⟩ := ST_fu (ST_trans st (ST_1 (F' := fun _ => t) (C' := fun _ => True) (fun m => by
    show tX12_putName_3 _ _ _ _ = _ ∧ (_ → uX12_putName_3 _ _ _ _)
    unfold tX12_putName_3 uX12_putName_3
    have n1 : zI (48 - 8 * ((7 : Nat) : Int)) < 0 := by rw [zl0, z_lt (by omega) (by omega)]; omega
    rw [if_pos n1]
    exact ⟨rfl, fun _ hc => absurd n1 hc⟩))) (by omega)
  exact ⟨t, E, R, i1, i2⟩
/-! numbers -/
def nuB (m : Int) : List Int := if m ≤ 9 then [48 + m] else [48 + m / 10, 48 + m % 10]
theorem nuB_l (m : Int) : (nuB m).length ≤ 2 := by unfold nuB; split <;> simp
theorem nu10 {m : Int} (h : 0 ≤ m ∧ m ≤ 99) : 48 + zI m / 10 = zI (48 + m / 10) ∧ 48 + (zI m - zI m / 10 * 10) = zI (48 + m % 10) := by
  have e : zI m / 10 = zI (m / 10) := by rw [show (10 : Int32) = zI 10 from rfl, z_div (by omega) (by omega) (by omega), Int.tdiv_eq_ediv_of_nonneg h.1]
  rw [e, show (10 : Int32) = zI 10 from rfl, show (48 : Int32) = zI 48 from rfl, z_mul, z_sub, z_add, z_add]
  exact ⟨rfl, by congr 1; omega⟩
theorem y_tnum {s : SM} {w : List Int} (h : TxY s w) (hn : w.length + 2 ≤ 2640) {m : Int} (hm : 0 ≤ m ∧ m ≤ 99) : ∃ t, mX10_addNumber s (zI m) = t ∧ rX10_addNumber s (zI m) ∧ TxY t (w ++ nuB m) ∧ Fp TyA s t := by
  obtain ⟨e1, e2⟩ := nu10 hm
  have last : ∀ (s : SM) (w : List Int), TxY s w → w.length < 2640 → ∃ t, (lX10_addNumber FU) s (zI m) = t ∧ (qX10_addNumber FU) s (zI m) ∧ TxY t (w ++ [48 + m % 10]) ∧ Fp TyA s t := by
    intro s w h hn
    obtain ⟨t, p1, p2, p3, p4⟩ := y_tput h hn (48 + m % 10)
    obtain ⟨E, R⟩ := ST_fu (ST_1 (F := fun n => lX10_addNumber n s (zI m)) (C := fun n => qX10_addNumber n s (zI m)) (F' := fun _ => t) (C' := fun _ => True) (fun k => by
      show tX10_addNumber_17 _ _ _ = _ ∧ (_ → uX10_addNumber_17 _ _ _)
      unfold tX10_addNumber_17 uX10_addNumber_17
      rw [e2, p1]
      exact ⟨rfl, fun _ => p2⟩)) (by omega)
    exact ⟨t, E, R, p3, p4⟩
  unfold mX10_addNumber fX10_addNumber rX10_addNumber nuB
  by_cases c : m ≤ 9
  · have l : zI m ≤ 9 := by rw [show (9 : Int32) = zI 9 from rfl, z_le (by omega) (by omega)]; exact c
    obtain ⟨t, p1, p2, p3, p4⟩ := last s w h (by omega)
    rw [if_pos l, if_pos c]
    exact ⟨t, p1, ⟨fun _ => p2, fun hc => absurd l hc⟩, by rw [show m % 10 = m by omega] at p3; exact p3, p4⟩
  · have l : ¬ zI m ≤ 9 := by rw [show (9 : Int32) = zI 9 from rfl, z_le (by omega) (by omega)]; exact c
    obtain ⟨t1, p1, p2, p3, p4⟩ := y_tput h (by omega) (48 + m / 10)
    obtain ⟨t, o1, o2, o3, o4⟩ := last t1 _ p3 (by rw [List.length_append, List.length_singleton]; omega)
    rw [if_neg l, if_neg c, e1, p1]
    exact ⟨t, o1, ⟨fun hc => absurd hc l, fun _ => ⟨p2, o2⟩⟩, by rw [List.append_assoc] at o3; exact o3, Fp_tr p4 o4⟩
theorem x_tnum {s : SM} {w : List Int} (h : TxX s w) (hn : w.length + 2 ≤ 2640) {m : Int} (hm : 0 ≤ m ∧ m ≤ 99) : ∃ t, mX12_putNumber s (zI m) = t ∧ rX12_putNumber s (zI m) ∧ TxX t (w ++ nuB m) ∧ Fp TxA s t := by
  obtain ⟨e1, e2⟩ := nu10 hm
  have last : ∀ (s : SM) (w : List Int), TxX s w → w.length < 2640 → ∃ t, (lX12_putNumber FU) s (zI m) = t ∧ (qX12_putNumber FU) s (zI m) ∧ TxX t (w ++ [48 + m % 10]) ∧ Fp TxA s t := by
    intro s w h hn
    obtain ⟨t, p1, p2, p3, p4⟩ := x_tput h hn (v := 48 + m % 10) (by omega)
    obtain ⟨E, R⟩ := ST_fu (ST_1 (F := fun n => lX12_putNumber n s (zI m)) (C := fun n => qX12_putNumber n s (zI m)) (F' := fun _ => t) (C' := fun _ => True) (fun k => by
      show tX12_putNumber_17 _ _ _ = _ ∧ (_ → uX12_putNumber_17 _ _ _)
      unfold tX12_putNumber_17 uX12_putNumber_17
      rw [e2, p1]
      exact ⟨rfl, fun _ => p2⟩)) (by omega)
    exact ⟨t, E, R, p3, p4⟩
  unfold mX12_putNumber fX12_putNumber rX12_putNumber nuB
  by_cases c : m ≤ 9
  · have l : zI m < 10 := by rw [show (10 : Int32) = zI 10 from rfl, z_lt (by omega) (by omega)]; omega
    obtain ⟨t, p1, p2, p3, p4⟩ := last s w h (by omega)
    rw [if_pos l, if_pos c]
    exact ⟨t, p1, ⟨fun _ => p2, fun hc => absurd l hc⟩, by rw [show m % 10 = m by omega] at p3; exact p3, p4⟩
  · have l : ¬ zI m < 10 := by rw [show (10 : Int32) = zI 10 from rfl, z_lt (by omega) (by omega)]; omega
    obtain ⟨t1, p1, p2, p3, p4⟩ := x_tput h (by omega) (v := 48 + m / 10) (by omega)
    obtain ⟨t, o1, o2, o3, o4⟩ := last t1 _ p3 (by rw [List.length_append, List.length_singleton]; omega)
    rw [if_neg l, if_neg c, e1, p1]
    exact ⟨t, o1, ⟨fun hc => absurd hc l, fun _ => ⟨p2, o2⟩⟩, by rw [List.append_assoc] at o3; exact o3, Fp_tr p4 o4⟩
