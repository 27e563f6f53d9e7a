set_option maxRecDepth 1000000 in
def QLaw : Option Value → JMem → Prop := fun v _ => v = some (.int 1)
theorem ls_sub {n : Nat} (h : n ≤ 3072) : (Int32.ofNat n - 6).toInt = n - 6 := by
  rw [show (6 : Int32) = Int32.ofInt 6 from rfl, ← Int32.ofInt_eq_ofNat, ← Int32.ofInt_sub, Int32.toInt_ofInt_of_le (by omega) (by omega)]
theorem ls_add {i : Int32} {k : Int} (h0 : 0 ≤ i.toInt) (h : i.toInt ≤ 4000) (hk : 0 ≤ k) (hk2 : k ≤ 10) : (i + Int32.ofInt k).toInt = i.toInt + k := by
  conv => lhs; rw [← Int32.ofInt_toInt i, ← Int32.ofInt_add]
  rw [Int32.toInt_ofInt_of_le (by omega) (by omega)]
theorem ls_vp {x : Int32} {n : Nat} (h0 : 0 ≤ x.toInt) (h : x.toInt < n) : vp_in x n := by
  unfold vp_in
  rw [Int32.lt_iff_toInt_lt, show x.toNatClampNeg = x.toInt.toNat from rfl, show (0 : Int32).toInt = 0 from rfl]
  omega
theorem ls_in {i : Int32} {n : Nat} {k : Int} (h0 : 0 ≤ i.toInt) (h : i.toInt ≤ 4000) (hk : 0 ≤ k) (hk2 : k ≤ 10) (hn : i.toInt + k < n) : vp_in (i + Int32.ofInt k) n := ls_vp (by rw [ls_add h0 h hk hk2]; omega) (by rw [ls_add h0 h hk hk2]; exact hn)
theorem and63 (x : Int32) : 0 ≤ (x &&& 63).toInt ∧ (x &&& 63).toInt ≤ 63 := by
  have h : (x &&& 63).toBitVec.toNat ≤ 63 := by rw [Int32.toBitVec_and, BitVec.toNat_and]; exact Nat.and_le_right
  have : (x &&& 63).toInt = ((x &&& 63).toBitVec.toNat : Int) := BitVec.toInt_eq_toNat_of_lt (by omega)
  omega
set_option maxRecDepth 1000000 in
theorem law_loop {X : Nat × (Nat → Int32)} {INV : SM → Prop} (hX : ∀ s, INV s → s.2.2.2 = X) (hS : S_all INV) (hL : X.1 ≤ 3072) : ∀ (n : Nat) (s : SM) (i : Int32), INV s → 0 ≤ i.toInt → i.toInt ≤ 3080 → (X.1 : Int) - 5 - i.toInt ≤ 6 * n → JT ML_law 421 n (6 * n) 23 [(4, .int i), (3, .ref 278), (2, .ref 248), (1, .ref 2), (0, .ref 0)] [] (std s) QLaw := by
  intro n
  induction n with
  | zero => 
    intro s i hs h0 h4 hn
    refine JT_iload (q := 0) dL_law_23 rfl ?_
    refine JT_aload_n (q := 4) dL_law_25 rfl rfl ?_
    refine JT_slen dL_law_26 ?_
    rw [show mS (std s) = X from hX s hs]
    refine JT_bipush (v := 6) dL_law_27 (by decide) ?_
    refine JT_isub dL_law_29 ?_
    refine JT_icmp_gt (tgt := 1746) dL_law_30 (by decide) (fun _ => ?_) (fun hle => ?_)
    · refine JT_iconst (v := 1) dL_law_1746 (by decide) ?_
      exact JT_iret (st := []) dL_law_1747 rfl rfl rfl
    have hle2 : i.toInt ≤ (X.1 : Int) - 6 := by
      rw [Int32.not_lt, Int32.le_iff_toInt_le, ls_sub hL] at hle
      exact hle
    omega
  | succ n ih => 
    intro s i hs h0 h4 hn
    refine JT_iload (q := 0) dL_law_23 rfl ?_
    refine JT_aload_n (q := 4) dL_law_25 rfl rfl ?_
    refine JT_slen dL_law_26 ?_
    rw [show mS (std s) = X from hX s hs]
    refine JT_bipush (v := 6) dL_law_27 (by decide) ?_
    refine JT_isub dL_law_29 ?_
    refine JT_icmp_gt (tgt := 1746) dL_law_30 (by decide) (fun _ => ?_) (fun hle => ?_)
    · refine JT_iconst (v := 1) dL_law_1746 (by decide) ?_
      exact JT_iret (st := []) dL_law_1747 rfl rfl rfl
    have hle2 : i.toInt ≤ (X.1 : Int) - 6 := by
      rw [Int32.not_lt, Int32.le_iff_toInt_le, ls_sub hL] at hle
      exact hle
    have hk : ∀ s', INV s' → JT ML_law 421 n (6 * n) 1740 [(4, .int i), (3, .ref 278), (2, .ref 248), (1, .ref 2), (0, .ref 0)] [] (std s') QLaw := fun s' hs' => by
      refine JT_iinc (q := 0) (v := i + Int32.ofInt 6) (lv' := [(4, .int (i + Int32.ofInt 6)), (3, .ref 278), (2, .ref 248), (1, .ref 2), (0, .ref 0)]) dL_law_1740 rfl rfl (Nat.le_of_ble_eq_true rfl) rfl ?_
      refine JT_goto (tgt := 23) dL_law_1743 (by decide) ?_
      exact ih s' _ hs' (by rw [ls_add h0 (by omega) (by decide) (by decide)]; omega) (by rw [ls_add h0 (by omega) (by decide) (by decide)]; omega) (by rw [ls_add h0 (by omega) (by decide) (by decide)]; omega)
    have hin1 : vp_in (i + (1 : Int32)) X.1 := ls_in (k := 1) h0 (by omega) (by decide) (by decide) (by omega)
    have hin2 : vp_in (i + (2 : Int32)) X.1 := ls_in (k := 2) h0 (by omega) (by decide) (by decide) (by omega)
    have hin3 : vp_in (i + (3 : Int32)) X.1 := ls_in (k := 3) h0 (by omega) (by decide) (by decide) (by omega)
    have hin4 : vp_in (i + (4 : Int32)) X.1 := ls_in (k := 4) h0 (by omega) (by decide) (by decide) (by omega)
    have hin5 : vp_in (i + (5 : Int32)) X.1 := ls_in (k := 5) h0 (by omega) (by decide) (by decide) (by omega)
    refine JT_aload_n (q := 4) dL_law_33 rfl rfl ?_
    refine JT_iload (q := 0) dL_law_34 rfl ?_
    refine JT_sld dL_law_36 (by rw [show mS (std s) = X from hX s hs]; exact ls_vp h0 (by omega)) ?_
    rw [show mS (std s) = X from hX s hs]
    refine JT_bipush (v := 63) dL_law_37 (by decide) ?_
    refine JT_iand dL_law_39 ?_
    have hy := and63 (X.2 i.toNatClampNeg)
    generalize (X.2 i.toNatClampNeg &&& 63) = y at hy ⊢
    by_cases h46 : 46 < y.toInt
    · refine JT_tableOut (tgt := 1740) dL_law_40 (Or.inr h46) (by decide) ?_
      exact JT_room (hk s hs) (Nat.le_refl _) (by omega) (by omega)
    rcases (show y.toInt = 0 ∨ y.toInt = 1 ∨ y.toInt = 2 ∨ y.toInt = 3 ∨ y.toInt = 4 ∨ y.toInt = 5 ∨ y.toInt = 6 ∨ y.toInt = 7 ∨ y.toInt = 8 ∨ y.toInt = 9 ∨ y.toInt = 10 ∨ y.toInt = 11 ∨ y.toInt = 12 ∨ y.toInt = 13 ∨ y.toInt = 14 ∨ y.toInt = 15 ∨ y.toInt = 16 ∨ y.toInt = 17 ∨ y.toInt = 18 ∨ y.toInt = 19 ∨ y.toInt = 20 ∨ y.toInt = 21 ∨ y.toInt = 22 ∨ y.toInt = 23 ∨ y.toInt = 24 ∨ y.toInt = 25 ∨ y.toInt = 26 ∨ y.toInt = 27 ∨ y.toInt = 28 ∨ y.toInt = 29 ∨ y.toInt = 30 ∨ y.toInt = 31 ∨ y.toInt = 32 ∨ y.toInt = 33 ∨ y.toInt = 34 ∨ y.toInt = 35 ∨ y.toInt = 36 ∨ y.toInt = 37 ∨ y.toInt = 38 ∨ y.toInt = 39 ∨ y.toInt = 40 ∨ y.toInt = 41 ∨ y.toInt = 42 ∨ y.toInt = 43 ∨ y.toInt = 44 ∨ y.toInt = 45 ∨ y.toInt = 46 by omega) with hc | hc | hc | hc | hc | hc | hc | hc | hc | hc | hc | hc | hc | hc | hc | hc | hc | hc | hc | hc | hc | hc | hc | hc | hc | hc | hc | hc | hc | hc | hc | hc | hc | hc | hc | hc | hc | hc | hc | hc | hc | hc | hc | hc | hc | hc | hc
    · refine JT_tableIn (off := 204) (tgt := 244) dL_law_40 (by omega) (by omega) (by rw [hc]; rfl) (by decide) ?_
      exact JT_room (law_feed hX (hS.1) hs hin1 hin2 hin3 hin4 hin5 hk) (Nat.le_refl _) (by omega) (by omega)
    · refine JT_tableIn (off := 277) (tgt := 317) dL_law_40 (by omega) (by omega) (by rw [hc]; rfl) (by decide) ?_
      exact JT_room (law_end hX (hS.2.1) hs hin1 hin2 hin3 hin4 hin5 hk) (Nat.le_refl _) (by omega) (by omega)
    · refine JT_tableIn (off := 302) (tgt := 342) dL_law_40 (by omega) (by omega) (by rw [hc]; rfl) (by decide) ?_
      exact JT_room (law_port hX (hS.2.2.1) hs hin1 hin2 hin3 hin4 hin5 hk) (Nat.le_refl _) (by omega) (by omega)
    · refine JT_tableIn (off := 315) (tgt := 355) dL_law_40 (by omega) (by omega) (by rw [hc]; rfl) (by decide) ?_
      exact JT_room (law_fault hX (hS.2.2.2.1) hs hin1 hin2 hin3 hin4 hin5 hk) (Nat.le_refl _) (by omega) (by omega)
    · refine JT_tableIn (off := 328) (tgt := 368) dL_law_40 (by omega) (by omega) (by rw [hc]; rfl) (by decide) ?_
      exact JT_room (law_body hX hS.2.2.2.2.2.2.2.2.2.2.2.2.2.2.2.2.2.2.2.2.2.2.2.2.2.2.2.2.2.2.2.2.2.2.2.2.2.2.2.2.2.2.2.2.2.2.2 (hS.2.2.2.2.1) hs hin1 hin2 hin3 hin4 hin5 hk) (Nat.le_refl _) (by omega) (by omega)
    · refine JT_tableIn (off := 396) (tgt := 436) dL_law_40 (by omega) (by omega) (by rw [hc]; rfl) (by decide) ?_
      exact JT_room (law_kind hX hS.2.2.2.2.2.2.2.2.2.2.2.2.2.2.2.2.2.2.2.2.2.2.2.2.2.2.2.2.2.2.2.2.2.2.2.2.2.2.2.2.2.2.2.2.2.2.2 (hS.2.2.2.2.2.1) hs hin1 hin2 hin3 hin4 hin5 hk) (Nat.le_refl _) (by omega) (by omega)
    · refine JT_tableIn (off := 464) (tgt := 504) dL_law_40 (by omega) (by omega) (by rw [hc]; rfl) (by decide) ?_
      exact JT_room (law_deal hX hS.2.2.2.2.2.2.2.2.2.2.2.2.2.2.2.2.2.2.2.2.2.2.2.2.2.2.2.2.2.2.2.2.2.2.2.2.2.2.2.2.2.2.2.2.2.2.2 (hS.2.2.2.2.2.2.1) hs hin1 hin2 hin3 hin4 hin5 hk) (Nat.le_refl _) (by omega) (by omega)
    · refine JT_tableIn (off := 532) (tgt := 572) dL_law_40 (by omega) (by omega) (by rw [hc]; rfl) (by decide) ?_
      exact JT_room (law_read hX (hS.2.2.2.2.2.2.2.1) hs hin1 hin2 hin3 hin4 hin5 hk) (Nat.le_refl _) (by omega) (by omega)
    · refine JT_tableIn (off := 569) (tgt := 609) dL_law_40 (by omega) (by omega) (by rw [hc]; rfl) (by decide) ?_
      exact JT_room (law_mark hX (hS.2.2.2.2.2.2.2.2.1) hs hin1 hin2 hin3 hin4 hin5 hk) (Nat.le_refl _) (by omega) (by omega)
    · refine JT_tableIn (off := 606) (tgt := 646) dL_law_40 (by omega) (by omega) (by rw [hc]; rfl) (by decide) ?_
      exact JT_room (law_write hX (hS.2.2.2.2.2.2.2.2.2.1) hs hin1 hin2 hin3 hin4 hin5 hk) (Nat.le_refl _) (by omega) (by omega)
    · refine JT_tableIn (off := 667) (tgt := 707) dL_law_40 (by omega) (by omega) (by rw [hc]; rfl) (by decide) ?_
      exact JT_room (law_strike hX (hS.2.2.2.2.2.2.2.2.2.2.1) hs hin1 hin2 hin3 hin4 hin5 hk) (Nat.le_refl _) (by omega) (by omega)
    · refine JT_tableIn (off := 692) (tgt := 732) dL_law_40 (by omega) (by omega) (by rw [hc]; rfl) (by decide) ?_
      exact JT_room (law_scar hX (hS.2.2.2.2.2.2.2.2.2.2.2.1) hs hin1 hin2 hin3 hin4 hin5 hk) (Nat.le_refl _) (by omega) (by omega)
    · refine JT_tableIn (off := 729) (tgt := 769) dL_law_40 (by omega) (by omega) (by rw [hc]; rfl) (by decide) ?_
      exact JT_room (law_ring hX (hS.2.2.2.2.2.2.2.2.2.2.2.2.1) hs hin1 hin2 hin3 hin4 hin5 hk) (Nat.le_refl _) (by omega) (by omega)
    · refine JT_tableIn (off := 742) (tgt := 782) dL_law_40 (by omega) (by omega) (by rw [hc]; rfl) (by decide) ?_
      exact JT_room (law_ringAt hX (hS.2.2.2.2.2.2.2.2.2.2.2.2.2.1) hs hin1 hin2 hin3 hin4 hin5 hk) (Nat.le_refl _) (by omega) (by omega)
    · refine JT_tableIn (off := 767) (tgt := 807) dL_law_40 (by omega) (by omega) (by rw [hc]; rfl) (by decide) ?_
      exact JT_room (law_ringOf hX (hS.2.2.2.2.2.2.2.2.2.2.2.2.2.2.1) hs hin1 hin2 hin3 hin4 hin5 hk) (Nat.le_refl _) (by omega) (by omega)
    · refine JT_tableIn (off := 792) (tgt := 832) dL_law_40 (by omega) (by omega) (by rw [hc]; rfl) (by decide) ?_
      exact JT_room (law_cut hX (hS.2.2.2.2.2.2.2.2.2.2.2.2.2.2.2.1) hs hin1 hin2 hin3 hin4 hin5 hk) (Nat.le_refl _) (by omega) (by omega)
    · refine JT_tableIn (off := 805) (tgt := 845) dL_law_40 (by omega) (by omega) (by rw [hc]; rfl) (by decide) ?_
      exact JT_room (law_dies hX (hS.2.2.2.2.2.2.2.2.2.2.2.2.2.2.2.2.1) hs hin1 hin2 hin3 hin4 hin5 hk) (Nat.le_refl _) (by omega) (by omega)
    · refine JT_tableIn (off := 842) (tgt := 882) dL_law_40 (by omega) (by omega) (by rw [hc]; rfl) (by decide) ?_
      exact JT_room (law_year hX (hS.2.2.2.2.2.2.2.2.2.2.2.2.2.2.2.2.2.1) hs hin1 hin2 hin3 hin4 hin5 hk) (Nat.le_refl _) (by omega) (by omega)
    · refine JT_tableIn (off := 855) (tgt := 895) dL_law_40 (by omega) (by omega) (by rw [hc]; rfl) (by decide) ?_
      exact JT_room (law_undo hX (hS.2.2.2.2.2.2.2.2.2.2.2.2.2.2.2.2.2.2.1) hs hin1 hin2 hin3 hin4 hin5 hk) (Nat.le_refl _) (by omega) (by omega)
    · refine JT_tableIn (off := 868) (tgt := 908) dL_law_40 (by omega) (by omega) (by rw [hc]; rfl) (by decide) ?_
      exact JT_room (law_can hX (hS.2.2.2.2.2.2.2.2.2.2.2.2.2.2.2.2.2.2.2.1) hs hin1 hin2 hin3 hin4 hin5 hk) (Nat.le_refl _) (by omega) (by omega)
    · refine JT_tableIn (off := 905) (tgt := 945) dL_law_40 (by omega) (by omega) (by rw [hc]; rfl) (by decide) ?_
      exact JT_room (law_ringsFor hX (hS.2.2.2.2.2.2.2.2.2.2.2.2.2.2.2.2.2.2.2.2.1) hs hin1 hin2 hin3 hin4 hin5 hk) (Nat.le_refl _) (by omega) (by omega)
    · refine JT_tableIn (off := 954) (tgt := 994) dL_law_40 (by omega) (by omega) (by rw [hc]; rfl) (by decide) ?_
      exact JT_room (law_aged hX (hS.2.2.2.2.2.2.2.2.2.2.2.2.2.2.2.2.2.2.2.2.2.1) hs hin1 hin2 hin3 hin4 hin5 hk) (Nat.le_refl _) (by omega) (by omega)
    · refine JT_tableIn (off := 991) (tgt := 1031) dL_law_40 (by omega) (by omega) (by rw [hc]; rfl) (by decide) ?_
      exact JT_room (law_owes hX (hS.2.2.2.2.2.2.2.2.2.2.2.2.2.2.2.2.2.2.2.2.2.2.1) hs hin1 hin2 hin3 hin4 hin5 hk) (Nat.le_refl _) (by omega) (by omega)
    · refine JT_tableIn (off := 1028) (tgt := 1068) dL_law_40 (by omega) (by omega) (by rw [hc]; rfl) (by decide) ?_
      exact JT_room (law_chain hX (hS.2.2.2.2.2.2.2.2.2.2.2.2.2.2.2.2.2.2.2.2.2.2.2.1) hs hin1 hin2 hin3 hin4 hin5 hk) (Nat.le_refl _) (by omega) (by omega)
    · refine JT_tableIn (off := 1065) (tgt := 1105) dL_law_40 (by omega) (by omega) (by rw [hc]; rfl) (by decide) ?_
      exact JT_room (law_fullest hX (hS.2.2.2.2.2.2.2.2.2.2.2.2.2.2.2.2.2.2.2.2.2.2.2.2.1) hs hin1 hin2 hin3 hin4 hin5 hk) (Nat.le_refl _) (by omega) (by omega)
    · refine JT_tableIn (off := 1090) (tgt := 1130) dL_law_40 (by omega) (by omega) (by rw [hc]; rfl) (by decide) ?_
      exact JT_room (law_trade hX (hS.2.2.2.2.2.2.2.2.2.2.2.2.2.2.2.2.2.2.2.2.2.2.2.2.2.1) hs hin1 hin2 hin3 hin4 hin5 hk) (Nat.le_refl _) (by omega) (by omega)
    · refine JT_tableIn (off := 1127) (tgt := 1167) dL_law_40 (by omega) (by omega) (by rw [hc]; rfl) (by decide) ?_
      exact JT_room (law_settled hX (hS.2.2.2.2.2.2.2.2.2.2.2.2.2.2.2.2.2.2.2.2.2.2.2.2.2.2.1) hs hin1 hin2 hin3 hin4 hin5 hk) (Nat.le_refl _) (by omega) (by omega)
    · refine JT_tableIn (off := 1140) (tgt := 1180) dL_law_40 (by omega) (by omega) (by rw [hc]; rfl) (by decide) ?_
      exact JT_room (law_skin hX (hS.2.2.2.2.2.2.2.2.2.2.2.2.2.2.2.2.2.2.2.2.2.2.2.2.2.2.2.1) hs hin1 hin2 hin3 hin4 hin5 hk) (Nat.le_refl _) (by omega) (by omega)
    · refine JT_tableIn (off := 1165) (tgt := 1205) dL_law_40 (by omega) (by omega) (by rw [hc]; rfl) (by decide) ?_
      exact JT_room (law_byteAt hX (hS.2.2.2.2.2.2.2.2.2.2.2.2.2.2.2.2.2.2.2.2.2.2.2.2.2.2.2.2.1) hs hin1 hin2 hin3 hin4 hin5 hk) (Nat.le_refl _) (by omega) (by omega)
    · refine JT_tableIn (off := 1190) (tgt := 1230) dL_law_40 (by omega) (by omega) (by rw [hc]; rfl) (by decide) ?_
      exact JT_room (law_between hX (hS.2.2.2.2.2.2.2.2.2.2.2.2.2.2.2.2.2.2.2.2.2.2.2.2.2.2.2.2.2.1) hs hin1 hin2 hin3 hin4 hin5 hk) (Nat.le_refl _) (by omega) (by omega)
    · refine JT_tableIn (off := 1239) (tgt := 1279) dL_law_40 (by omega) (by omega) (by rw [hc]; rfl) (by decide) ?_
      exact JT_room (law_greatest hX (hS.2.2.2.2.2.2.2.2.2.2.2.2.2.2.2.2.2.2.2.2.2.2.2.2.2.2.2.2.2.2.1) hs hin1 hin2 hin3 hin4 hin5 hk) (Nat.le_refl _) (by omega) (by omega)
    · refine JT_tableIn (off := 1264) (tgt := 1304) dL_law_40 (by omega) (by omega) (by rw [hc]; rfl) (by decide) ?_
      exact JT_room (law_book hX (hS.2.2.2.2.2.2.2.2.2.2.2.2.2.2.2.2.2.2.2.2.2.2.2.2.2.2.2.2.2.2.2.1) hs hin1 hin2 hin3 hin4 hin5 hk) (Nat.le_refl _) (by omega) (by omega)
    · refine JT_tableIn (off := 1277) (tgt := 1317) dL_law_40 (by omega) (by omega) (by rw [hc]; rfl) (by decide) ?_
      exact JT_room (law_judge hX (hS.2.2.2.2.2.2.2.2.2.2.2.2.2.2.2.2.2.2.2.2.2.2.2.2.2.2.2.2.2.2.2.2.1) hs hin1 hin2 hin3 hin4 hin5 hk) (Nat.le_refl _) (by omega) (by omega)
    · refine JT_tableIn (off := 1302) (tgt := 1342) dL_law_40 (by omega) (by omega) (by rw [hc]; rfl) (by decide) ?_
      exact JT_room (law_judged hX (hS.2.2.2.2.2.2.2.2.2.2.2.2.2.2.2.2.2.2.2.2.2.2.2.2.2.2.2.2.2.2.2.2.2.1) hs hin1 hin2 hin3 hin4 hin5 hk) (Nat.le_refl _) (by omega) (by omega)
    · refine JT_tableIn (off := 1327) (tgt := 1367) dL_law_40 (by omega) (by omega) (by rw [hc]; rfl) (by decide) ?_
      exact JT_room (law_pack hX (hS.2.2.2.2.2.2.2.2.2.2.2.2.2.2.2.2.2.2.2.2.2.2.2.2.2.2.2.2.2.2.2.2.2.2.1) hs hin1 hin2 hin3 hin4 hin5 hk) (Nat.le_refl _) (by omega) (by omega)
    · refine JT_tableIn (off := 1340) (tgt := 1380) dL_law_40 (by omega) (by omega) (by rw [hc]; rfl) (by decide) ?_
      exact JT_room (law_packed hX (hS.2.2.2.2.2.2.2.2.2.2.2.2.2.2.2.2.2.2.2.2.2.2.2.2.2.2.2.2.2.2.2.2.2.2.2.1) hs hin1 hin2 hin3 hin4 hin5 hk) (Nat.le_refl _) (by omega) (by omega)
    · refine JT_tableIn (off := 1365) (tgt := 1405) dL_law_40 (by omega) (by omega) (by rw [hc]; rfl) (by decide) ?_
      exact JT_room (law_price hX (hS.2.2.2.2.2.2.2.2.2.2.2.2.2.2.2.2.2.2.2.2.2.2.2.2.2.2.2.2.2.2.2.2.2.2.2.2.1) hs hin1 hin2 hin3 hin4 hin5 hk) (Nat.le_refl _) (by omega) (by omega)
    · refine JT_tableIn (off := 1402) (tgt := 1442) dL_law_40 (by omega) (by omega) (by rw [hc]; rfl) (by decide) ?_
      exact JT_room (law_lost hX (hS.2.2.2.2.2.2.2.2.2.2.2.2.2.2.2.2.2.2.2.2.2.2.2.2.2.2.2.2.2.2.2.2.2.2.2.2.2.1) hs hin1 hin2 hin3 hin4 hin5 hk) (Nat.le_refl _) (by omega) (by omega)
    · refine JT_tableIn (off := 1427) (tgt := 1467) dL_law_40 (by omega) (by omega) (by rw [hc]; rfl) (by decide) ?_
      exact JT_room (law_fits hX (hS.2.2.2.2.2.2.2.2.2.2.2.2.2.2.2.2.2.2.2.2.2.2.2.2.2.2.2.2.2.2.2.2.2.2.2.2.2.2.1) hs hin1 hin2 hin3 hin4 hin5 hk) (Nat.le_refl _) (by omega) (by omega)
    · refine JT_tableIn (off := 1452) (tgt := 1492) dL_law_40 (by omega) (by omega) (by rw [hc]; rfl) (by decide) ?_
      exact JT_room (law_fit hX (hS.2.2.2.2.2.2.2.2.2.2.2.2.2.2.2.2.2.2.2.2.2.2.2.2.2.2.2.2.2.2.2.2.2.2.2.2.2.2.2.1) hs hin1 hin2 hin3 hin4 hin5 hk) (Nat.le_refl _) (by omega) (by omega)
    · refine JT_tableIn (off := 1489) (tgt := 1529) dL_law_40 (by omega) (by omega) (by rw [hc]; rfl) (by decide) ?_
      exact JT_room (law_owed hX (hS.2.2.2.2.2.2.2.2.2.2.2.2.2.2.2.2.2.2.2.2.2.2.2.2.2.2.2.2.2.2.2.2.2.2.2.2.2.2.2.2.1) hs hin1 hin2 hin3 hin4 hin5 hk) (Nat.le_refl _) (by omega) (by omega)
    · refine JT_tableIn (off := 1538) (tgt := 1578) dL_law_40 (by omega) (by omega) (by rw [hc]; rfl) (by decide) ?_
      exact JT_room (law_proof hX (hS.2.2.2.2.2.2.2.2.2.2.2.2.2.2.2.2.2.2.2.2.2.2.2.2.2.2.2.2.2.2.2.2.2.2.2.2.2.2.2.2.2.1) hs hin1 hin2 hin3 hin4 hin5 hk) (Nat.le_refl _) (by omega) (by omega)
    · refine JT_tableIn (off := 1563) (tgt := 1603) dL_law_40 (by omega) (by omega) (by rw [hc]; rfl) (by decide) ?_
      exact JT_room (law_witness hX (hS.2.2.2.2.2.2.2.2.2.2.2.2.2.2.2.2.2.2.2.2.2.2.2.2.2.2.2.2.2.2.2.2.2.2.2.2.2.2.2.2.2.2.1) hs hin1 hin2 hin3 hin4 hin5 hk) (Nat.le_refl _) (by omega) (by omega)
    · refine JT_tableIn (off := 1588) (tgt := 1628) dL_law_40 (by omega) (by omega) (by rw [hc]; rfl) (by decide) ?_
      exact JT_room (law_lasts hX (hS.2.2.2.2.2.2.2.2.2.2.2.2.2.2.2.2.2.2.2.2.2.2.2.2.2.2.2.2.2.2.2.2.2.2.2.2.2.2.2.2.2.2.2.1) hs hin1 hin2 hin3 hin4 hin5 hk) (Nat.le_refl _) (by omega) (by omega)
    · refine JT_tableIn (off := 1625) (tgt := 1665) dL_law_40 (by omega) (by omega) (by rw [hc]; rfl) (by decide) ?_
      exact JT_room (law_image hX (hS.2.2.2.2.2.2.2.2.2.2.2.2.2.2.2.2.2.2.2.2.2.2.2.2.2.2.2.2.2.2.2.2.2.2.2.2.2.2.2.2.2.2.2.2.1) hs hin1 hin2 hin3 hin4 hin5 hk) (Nat.le_refl _) (by omega) (by omega)
    · refine JT_tableIn (off := 1650) (tgt := 1690) dL_law_40 (by omega) (by omega) (by rw [hc]; rfl) (by decide) ?_
      exact JT_room (law_restore hX (hS.2.2.2.2.2.2.2.2.2.2.2.2.2.2.2.2.2.2.2.2.2.2.2.2.2.2.2.2.2.2.2.2.2.2.2.2.2.2.2.2.2.2.2.2.2.1) hs hin1 hin2 hin3 hin4 hin5 hk) (Nat.le_refl _) (by omega) (by omega)
    · refine JT_tableIn (off := 1675) (tgt := 1715) dL_law_40 (by omega) (by omega) (by rw [hc]; rfl) (by decide) ?_
      exact JT_room (law_count hX (hS.2.2.2.2.2.2.2.2.2.2.2.2.2.2.2.2.2.2.2.2.2.2.2.2.2.2.2.2.2.2.2.2.2.2.2.2.2.2.2.2.2.2.2.2.2.2.1) hs hin1 hin2 hin3 hin4 hin5 hk) (Nat.le_refl _) (by omega) (by omega)
def z0 (X : Nat × (Nat → Int32)) : SM := (fun _ _ => 0, fun _ _ => 0, fun _ => none, X)
/-- the memory once all is made -/
def s00 (X : Nat × (Nat → Int32)) : SM := (pL (pL (pL (pL (pL (pL (pL (pL (pL (pL (pL (pL (pL (pL (pL (pL (pL (pI (pI (pI (pI (pI (pI (pI (z0 X) 5 8 (1)) 12 8 (1)) 167 8 (1)) 193 8 (1)) 248 46 (-1)) 248 47 (-1)) 250 2 (1)) 254 0 (1651467385)) 254 1 (7039342)) 254 2 (1802071652)) 254 3 (28270047624193380)) 254 4 (114767640814948)) 254 5 (439721161573)) 254 6 (457135713908)) 254 7 (1818848869)) 254 8 (6582132)) 254 9 (1684365676)) 254 10 (126943972911973)) 254 11 (1935892850)) 254 12 (109342978500980)) 254 13 (1684365940)) 254 14 (1919512167)) 254 15 (1684628851)) 254 16 (2036687218))
def m00 (X : Nat × (Nat → Int32)) : JMem := (fun _ _ => 0, fun _ _ => 0, fun _ _ => none, 2, X)
def opsA : List OpT := (0, 0, 0, 0) :: (kX11_init_2o ++ ((0, 0, 0, 0) :: (kX12_init_248o ++ [(0, 0, 0, 0)])))
def opI (f : Nat → Nat → Int32) (o : OpT) : Nat → Nat → Int32 := if o.1 = 2 then rw1 f o.2.1 (upd (f o.2.1) o.2.2.1 (Int32.ofInt o.2.2.2)) else f
def opL (f : Nat → Nat → Int64) (o : OpT) : Nat → Nat → Int64 := if o.1 = 3 then rw1 f o.2.1 (vp_updL (f o.2.1) o.2.2.1 (Int64.ofInt o.2.2.2)) else f
def opR (a j : Nat) (f : Option Nat) (o : OpT) : Option Nat := if o.1 = 1 ∧ o.2.1 = a ∧ o.2.2.1 = j then some o.2.2.2.toNat else f
theorem opk_le (ops : List OpT) (h : ops.all (fun o => decide (o.1 ≤ 3)) = true) (m : JMem) : mI (List.foldl op1 m ops) = List.foldl opI (mI m) ops ∧ mL (List.foldl op1 m ops) = List.foldl opL (mL m) ops ∧ mS (List.foldl op1 m ops) = mS m ∧ ∀ a j, mR (List.foldl op1 m ops) a j = List.foldl (opR a j) (mR m a j) ops := by
  induction ops generalizing m with
  | nil => exact ⟨rfl, rfl, rfl, fun _ _ => rfl⟩
  | cons o t ih =>
    rw [List.all_cons, Bool.and_eq_true, decide_eq_true_eq] at h
    obtain ⟨k, c, i, v⟩ := o
    have h1 := ih h.2 (op1 m (k, c, i, v))
    simp only [List.foldl_cons]
    have hk : k = 0 ∨ k = 1 ∨ k = 2 ∨ k = 3 := by have := h.1; dsimp only at this; omega
    refine ⟨h1.1.trans ?_, h1.2.1.trans ?_, h1.2.2.1.trans ?_, fun a j => (h1.2.2.2 a j).trans ?_⟩
    · rcases hk with rfl | rfl | rfl | rfl <;> rfl
    · rcases hk with rfl | rfl | rfl | rfl <;> rfl
    · rcases hk with rfl | rfl | rfl | rfl <;> rfl
    · rcases hk with rfl | rfl | rfl | rfl
      · rfl
      · show List.foldl (opR a j) (mR (wR m c i v.toNat) a j) t = List.foldl (opR a j) (opR a j (mR m a j) (1, c, i, v)) t
        rw [mR_wR]
        unfold opR
        by_cases hc : a = c ∧ j = i
        · rw [if_pos hc, if_pos ⟨rfl, hc.1.symm, hc.2.symm⟩]
        · rw [if_neg hc, if_neg (fun h => hc ⟨h.2.1.symm, h.2.2.symm⟩)]
      · rfl
      · rfl
theorem opI_f (ops : List OpT) (f : Nat → Nat → Int32) : List.foldl opI f ops = List.foldl opI f (ops.filter (fun o => o.1 == 2)) := by
  induction ops generalizing f with
  | nil => rfl
  | cons o t ih =>
    rw [List.foldl_cons, List.filter_cons]
    by_cases h : o.1 = 2
    · rw [if_pos (by simp [h]), List.foldl_cons, ih]
    · rw [if_neg (by simp [h]), ← ih, opI, if_neg h]
theorem opL_f (ops : List OpT) (f : Nat → Nat → Int64) : List.foldl opL f ops = List.foldl opL f (ops.filter (fun o => o.1 == 3)) := by
  induction ops generalizing f with
  | nil => rfl
  | cons o t ih =>
    rw [List.foldl_cons, List.filter_cons]
    by_cases h : o.1 = 3
    · rw [if_pos (by simp [h]), List.foldl_cons, ih]
    · rw [if_neg (by simp [h]), ← ih, opL, if_neg h]
theorem opsA_k : opsA.all (fun o => decide (o.1 ≤ 3)) = true := by decide +kernel
theorem opsA_I : opsA.filter (fun o => o.1 == 2) = [(2, 5, 8, 1), (2, 12, 8, 1), (2, 167, 8, 1), (2, 193, 8, 1), (2, 248, 46, -1), (2, 248, 47, -1), (2, 250, 2, 1)] := by decide +kernel
theorem opsA_L : opsA.filter (fun o => o.1 == 3) = [(3, 254, 0, 1651467385), (3, 254, 1, 7039342), (3, 254, 2, 1802071652), (3, 254, 3, 28270047624193380), (3, 254, 4, 114767640814948), (3, 254, 5, 439721161573), (3, 254, 6, 457135713908), (3, 254, 7, 1818848869), (3, 254, 8, 6582132), (3, 254, 9, 1684365676), (3, 254, 10, 126943972911973), (3, 254, 11, 1935892850), (3, 254, 12, 109342978500980), (3, 254, 13, 1684365940), (3, 254, 14, 1919512167), (3, 254, 15, 1684628851), (3, 254, 16, 2036687218)] := by decide +kernel
theorem opsA_N : (opsA.map opN).sum = 277 := by decide +kernel
theorem opsA_R1 : (List.range 279).all (fun a => (List.range 20).all (fun j => List.foldl (opR a j) none opsA == RFd (fun _ => none) a j)) = true := by decide +kernel
theorem opsA_R2 : opsA.all (fun o => decide (o.2.1 < 279) && decide (o.2.2.1 < 20)) = true := by decide +kernel
theorem RFL_l : RFL.length = 279 := by decide +kernel
theorem RFL_r : RFL.all (fun r => decide (r.length ≤ 20)) = true := by decide +kernel
theorem opR_no (ops : List OpT) (a j : Nat) (h : ∀ o ∈ ops, ¬ (o.2.1 = a ∧ o.2.2.1 = j)) (f : Option Nat) : List.foldl (opR a j) f ops = f := by
  induction ops generalizing f with
  | nil => rfl
  | cons o t ih =>
    rw [List.foldl_cons, ih (fun x hx => h x (List.mem_cons_of_mem _ hx))]
    unfold opR
    rw [if_neg (fun hc => h o List.mem_cons_self hc.2)]
theorem m_std (X : Nat × (Nat → Int32)) : List.foldl op1 (m00 X) opsA = std (s00 X) := by
  obtain ⟨h1, h2, h3, h4⟩ := opk_le opsA opsA_k (m00 X)
  have hN : mN (List.foldl op1 (m00 X) opsA) = 279 := by rw [mN_fold, opsA_N]; rfl
  have hI : mI (List.foldl op1 (m00 X) opsA) = gI (s00 X) := by rw [h1, opI_f, opsA_I]; rfl
  have hL : mL (List.foldl op1 (m00 X) opsA) = gL (s00 X) := by rw [h2, opL_f, opsA_L]; rfl
  have hR : mR (List.foldl op1 (m00 X) opsA) = RFd (fun _ => none) := by
    funext a j
    rw [h4 a j]
    show List.foldl (opR a j) none opsA = _
    by_cases hb : a < 279 ∧ j < 20
    · have h5 := List.all_eq_true.mp (List.all_eq_true.mp opsA_R1 a (List.mem_range.mpr hb.1)) j (List.mem_range.mpr hb.2)
      exact eq_of_beq h5
    · rw [opR_no]
      · unfold RFd
        rw [if_neg (by omega), if_neg (by omega), if_neg (by omega)]
        unfold RF
        rw [List.getD_eq_getElem?_getD, List.getD_eq_getElem?_getD]
        rcases Nat.lt_or_ge a 279 with ha | ha
        · have hj : 20 ≤ j := by omega
          have h6 : RFL[a]? = some RFL[a] := List.getElem?_eq_getElem (by rw [RFL_l]; exact ha)
          rw [h6, Option.getD_some]
          have h7 := List.all_eq_true.mp RFL_r _ (List.getElem_mem (by rw [RFL_l]; exact ha))
          rw [decide_eq_true_eq] at h7
          rw [List.getElem?_eq_none (by omega)]
          rfl
        · rw [List.getElem?_eq_none (by rw [RFL_l]; exact ha)]
          rfl
      · intro o ho hc
        have h5 := List.all_eq_true.mp opsA_R2 o ho
        simp only [Bool.and_eq_true, decide_eq_true_eq] at h5
        omega
  generalize List.foldl op1 (m00 X) opsA = M at hN hI hL hR h3
  obtain ⟨a, b, c, d, e⟩ := M
  show (a, b, c, d, e) = (gI (s00 X), gL (s00 X), RFd (s00 X).2.2.1, 279, (s00 X).2.2.2)
  rw [show a = gI (s00 X) from hI, show b = gL (s00 X) from hL, show c = RFd (fun _ => none) from hR, show d = 279 from hN, show e = X from h3]
  rfl
set_option maxRecDepth 1000000 in
theorem law_pre {X : Nat × (Nat → Int32)} {INV : SM → Prop} (hX : ∀ s, INV s → s.2.2.2 = X) (hS : S_all INV) (hL : X.1 ≤ 3072) (h0 : INV (s00 X)) : JT ML_law 421 789 28801 0 [(0, .ref 0)] [] (m00 X) QLaw := by
  refine JT_new (mc := 788) (ms := 28781) (N := 20) dL_law_0 clL_8 (by show BS 2 = _; exact BS_2) ?_
  obtain ⟨m1, e1⟩ : ∃ z, z = wN (m00 X) := ⟨_, rfl⟩
  rw [show mN (m00 X) = 2 from rfl, ← e1]
  have hN1 : mN m1 = 3 := by rw [e1]; rfl
  refine JT_dup dL_law_3 rfl ?_
  refine JT_callI (d := 420) (mc1 := 245) (ms1 := 13131) (mc := 543) (ms := 15650) (As := []) (rest := [.ref 2]) dL_law_4 cvL_21 okX11_init rfl (Nat.le_of_ble_eq_true rfl) BS_2 (Nat.le_of_ble_eq_true rfl) (by rw [hN1]; decide) hci_11 rfl (Nat.le_of_ble_eq_true rfl) (JT_room (d2 := 3) (kX11_init_2 m1 hN1) (Nat.le_of_ble_eq_true rfl) (Nat.le_refl _) (Nat.le_refl _)) (fun v mz hq => ?_)
  obtain ⟨rfl, rfl⟩ := hq
  show JT _ _ _ _ _ _ [.ref 2] _ _
  obtain ⟨m2, e2⟩ : ∃ z, z = List.foldl op1 m1 kX11_init_2o := ⟨_, rfl⟩
  rw [← e2]
  have hN2 : mN m2 = 248 := by rw [e2, mN_fold, hN1]; rfl
  refine JT_astore_n (lv' := [(1, .ref 2), (0, .ref 0)]) dL_law_7 rfl (Nat.le_of_ble_eq_true rfl) rfl ?_
  refine JT_new (mc := 542) (ms := 15592) (N := 58) dL_law_8 clL_22 (by rw [hN2]; exact BS_248) ?_
  obtain ⟨m3, e3⟩ : ∃ z, z = wN m2 := ⟨_, rfl⟩
  rw [hN2, ← e3]
  have hN3 : mN m3 = 249 := by rw [e3, mN_wN, hN2]
  refine JT_dup dL_law_11 rfl ?_
  refine JT_callI (d := 420) (mc1 := 29) (ms1 := 12519) (mc := 513) (ms := 3073) (As := []) (rest := [.ref 248]) dL_law_12 cvL_24 okX12_init rfl (Nat.le_of_ble_eq_true rfl) BS_248 (Nat.le_of_ble_eq_true rfl) (by rw [hN3]; decide) hci_12 rfl (Nat.le_of_ble_eq_true rfl) (JT_room (d2 := 1) (kX12_init_248 m3 hN3) (Nat.le_of_ble_eq_true rfl) (Nat.le_refl _) (Nat.le_refl _)) (fun v mz hq => ?_)
  obtain ⟨rfl, rfl⟩ := hq
  show JT _ _ _ _ _ _ [.ref 248] _ _
  obtain ⟨m4, e4⟩ : ∃ z, z = List.foldl op1 m3 kX12_init_248o := ⟨_, rfl⟩
  rw [← e4]
  have hN4 : mN m4 = 278 := by rw [e4, mN_fold, hN3]; rfl
  refine JT_astore_n (lv' := [(2, .ref 248), (1, .ref 2), (0, .ref 0)]) dL_law_15 rfl (Nat.le_of_ble_eq_true rfl) rfl ?_
  refine JT_iconst (v := 1) dL_law_16 (by decide) ?_
  refine JT_newa_long (mc := 512) (ms := 3072) (N := 1) dL_law_17 aw_long (by rw [hN4]; exact BS_278) (by decide) (by decide) (by decide) ?_
  rw [hN4]
  refine JT_astore_n (lv' := [(3, .ref 278), (2, .ref 248), (1, .ref 2), (0, .ref 0)]) dL_law_19 rfl (Nat.le_of_ble_eq_true rfl) rfl ?_
  refine JT_iconst (v := 0) dL_law_20 (by decide) ?_
  refine JT_istore (lv' := [(4, .int 0), (3, .ref 278), (2, .ref 248), (1, .ref 2), (0, .ref 0)]) dL_law_21 (Nat.le_of_ble_eq_true rfl) rfl ?_
  have hm : wN m4 = std (s00 X) := by
    rw [← m_std, e4, e3, e2, e1]
    simp only [opsA, List.foldl_cons, List.foldl_append]
    rfl
  rw [hm]
  exact law_loop hX hS hL 512 (s00 X) 0 h0 (by decide) (by decide) (by show (X.1 : Int) - 5 - 0 ≤ 6 * 512; omega)
set_option maxRecDepth 1000000 in
theorem nocw : TS.all (fun w => match w with | .codeWith y _ _ _ _ => decide (y ≠ yL_law) | _ => true) = true := by decide +kernel
theorem whole_of {INV : Nat × (Nat → Int32) → SM → Prop} (hXI : ∀ X s, INV X s → s.2.2.2 = X) (hSI : ∀ X, S_all (INV X)) (h0I : ∀ X, INV X (s00 X)) {p : Program} {e : Env} {s : State} {m : MethodId} {below : List Frame} {meth : Method} {c : Code} (l : Launch) (hflags : l.flags = flags0) {b L : Nat} {xs : Nat → Int32} (hL : L ≤ 3072) (C0 : lw_At p s m meth c b L xs) : W p l e room_1 s m #[Value.ref b] below meth c s.heap [] 0 0 (lw_Z below #[Value.ref b] s) (entryFrame m ([Value.ref b] : List Value).toArray 7) := by
  obtain ⟨hx, hb, hr, hml, hown, hts, hX, hbl, hlocks, hgv⟩ := id C0
  have hnA : ∀ a : Nat, a < s.heap.size → ¬ (fun q : Nat => s.heap.size ≤ q) a := fun a h => Nat.not_le.mpr h
  have hf := flat_of_before _ hgv
  have hW1 : (Cond.arrayOf (.static "SkinLedger$Tape" "WORDS" "[J") .long).before #[Value.ref b] s = true := hf _ (by decide +kernel)
  have hW2 : (Cond.eq (.length (.static "SkinLedger$Tape" "WORDS" "[J")) (.int 17)).before #[Value.ref b] s = true := hf _ (by decide +kernel)
  obtain ⟨t, ht1, ht2⟩ := va_Tof (N := 17) (f := fun j => .long (WV j)) (A := fun q : Nat => s.heap.size ≤ q) (by decide) hW1 (va_eqt hW2) (fun j hj => by
    rcases (show j = 0 ∨ j = 1 ∨ j = 2 ∨ j = 3 ∨ j = 4 ∨ j = 5 ∨ j = 6 ∨ j = 7 ∨ j = 8 ∨ j = 9 ∨ j = 10 ∨ j = 11 ∨ j = 12 ∨ j = 13 ∨ j = 14 ∨ j = 15 ∨ j = 16 by omega) with rfl | rfl | rfl | rfl | rfl | rfl | rfl | rfl | rfl | rfl | rfl | rfl | rfl | rfl | rfl | rfl | rfl
    · exact va_eqtl (z := 1651467385) (hf (Cond.eq (.elem (.static "SkinLedger$Tape" "WORDS" "[J") (.int 0)) (.long 1651467385)) (by decide +kernel))
    · exact va_eqtl (z := 7039342) (hf (Cond.eq (.elem (.static "SkinLedger$Tape" "WORDS" "[J") (.int 1)) (.long 7039342)) (by decide +kernel))
    · exact va_eqtl (z := 1802071652) (hf (Cond.eq (.elem (.static "SkinLedger$Tape" "WORDS" "[J") (.int 2)) (.long 1802071652)) (by decide +kernel))
    · exact va_eqtl (z := 28270047624193380) (hf (Cond.eq (.elem (.static "SkinLedger$Tape" "WORDS" "[J") (.int 3)) (.long 28270047624193380)) (by decide +kernel))
    · exact va_eqtl (z := 114767640814948) (hf (Cond.eq (.elem (.static "SkinLedger$Tape" "WORDS" "[J") (.int 4)) (.long 114767640814948)) (by decide +kernel))
    · exact va_eqtl (z := 439721161573) (hf (Cond.eq (.elem (.static "SkinLedger$Tape" "WORDS" "[J") (.int 5)) (.long 439721161573)) (by decide +kernel))
    · exact va_eqtl (z := 457135713908) (hf (Cond.eq (.elem (.static "SkinLedger$Tape" "WORDS" "[J") (.int 6)) (.long 457135713908)) (by decide +kernel))
    · exact va_eqtl (z := 1818848869) (hf (Cond.eq (.elem (.static "SkinLedger$Tape" "WORDS" "[J") (.int 7)) (.long 1818848869)) (by decide +kernel))
    · exact va_eqtl (z := 6582132) (hf (Cond.eq (.elem (.static "SkinLedger$Tape" "WORDS" "[J") (.int 8)) (.long 6582132)) (by decide +kernel))
    · exact va_eqtl (z := 1684365676) (hf (Cond.eq (.elem (.static "SkinLedger$Tape" "WORDS" "[J") (.int 9)) (.long 1684365676)) (by decide +kernel))
    · exact va_eqtl (z := 126943972911973) (hf (Cond.eq (.elem (.static "SkinLedger$Tape" "WORDS" "[J") (.int 10)) (.long 126943972911973)) (by decide +kernel))
    · exact va_eqtl (z := 1935892850) (hf (Cond.eq (.elem (.static "SkinLedger$Tape" "WORDS" "[J") (.int 11)) (.long 1935892850)) (by decide +kernel))
    · exact va_eqtl (z := 109342978500980) (hf (Cond.eq (.elem (.static "SkinLedger$Tape" "WORDS" "[J") (.int 12)) (.long 109342978500980)) (by decide +kernel))
    · exact va_eqtl (z := 1684365940) (hf (Cond.eq (.elem (.static "SkinLedger$Tape" "WORDS" "[J") (.int 13)) (.long 1684365940)) (by decide +kernel))
    · exact va_eqtl (z := 1919512167) (hf (Cond.eq (.elem (.static "SkinLedger$Tape" "WORDS" "[J") (.int 14)) (.long 1919512167)) (by decide +kernel))
    · exact va_eqtl (z := 1684628851) (hf (Cond.eq (.elem (.static "SkinLedger$Tape" "WORDS" "[J") (.int 15)) (.long 1684628851)) (by decide +kernel))
    · exact va_eqtl (z := 2036687218) (hf (Cond.eq (.elem (.static "SkinLedger$Tape" "WORDS" "[J") (.int 16)) (.long 2036687218)) (by decide +kernel))
    ) hnA
  have hZ : va_Z "SkinLedger$Tape" "WORDS" "[J" (.ref t) (fun q : Nat => s.heap.size ≤ q) s s.heap := va_Zof (hts _ (by decide +kernel)) (hts _ (by decide +kernel)) ht1 hnA
  have hU : vx_Zq Bundle.tN "UNASSIGNED_STACK" Bundle.steD (fun q : Nat => s.heap.size ≤ q) s s.heap := vx_Zqof (hts _ (by decide +kernel)) (hts _ (by decide +kernel)) (hf _ (by decide +kernel)) hnA
  have hV : vx_Zq Bundle.tN "SUPPRESSED_SENTINEL" Bundle.listD (fun q : Nat => s.heap.size ≤ q) s s.heap := vx_Zqof (hts _ (by decide +kernel)) (hts _ (by decide +kernel)) (hf _ (by decide +kernel)) hnA
  obtain ⟨c0, i0, k0⟩ := u_known (C := RX0) (T := TX0) (N := 6) (n := 6) hts (by decide +kernel) (hts (.instantiable RX0 6) (by decide +kernel))
  obtain ⟨c1, i1, k1⟩ := u_known (C := RX1) (T := TX1) (N := 12) (n := 12) hts (by decide +kernel) (hts (.instantiable RX1 12) (by decide +kernel))
  obtain ⟨c2, i2, k2⟩ := u_known (C := RX2) (T := TX2) (N := 3) (n := 3) hts (by decide +kernel) (hts (.instantiable RX2 3) (by decide +kernel))
  obtain ⟨c3, i3, k3⟩ := u_known (C := RX3) (T := TX3) (N := 4) (n := 4) hts (by decide +kernel) (hts (.instantiable RX3 4) (by decide +kernel))
  obtain ⟨c4, i4, k4⟩ := u_known (C := RX4) (T := TX4) (N := 15) (n := 15) hts (by decide +kernel) (hts (.instantiable RX4 15) (by decide +kernel))
  obtain ⟨c5, i5, k5⟩ := u_known (C := RX5) (T := TX5) (N := 11) (n := 11) hts (by decide +kernel) (hts (.instantiable RX5 11) (by decide +kernel))
  obtain ⟨c6, i6, k6⟩ := u_known (C := RX6) (T := TX6) (N := 14) (n := 14) hts (by decide +kernel) (hts (.instantiable RX6 14) (by decide +kernel))
  obtain ⟨c7, i7, k7⟩ := u_known (C := RX7) (T := TX7) (N := 12) (n := 12) hts (by decide +kernel) (hts (.instantiable RX7 12) (by decide +kernel))
  obtain ⟨c8, i8, k8⟩ := u_known (C := RX8) (T := TX8) (N := 3) (n := 3) hts (by decide +kernel) (hts (.instantiable RX8 3) (by decide +kernel))
  obtain ⟨c9, i9, k9⟩ := u_known (C := RX9) (T := TX9) (N := 10) (n := 10) hts (by decide +kernel) (hts (.instantiable RX9 10) (by decide +kernel))
  obtain ⟨c10, i10, k10⟩ := u_known (C := RX10) (T := TX10) (N := 2) (n := 2) hts (by decide +kernel) (hts (.instantiable RX10 2) (by decide +kernel))
  obtain ⟨c11, i11, k11⟩ := u_known (C := RX11) (T := TX11) (N := 20) (n := 20) hts (by decide +kernel) (hts (.instantiable RX11 20) (by decide +kernel))
  obtain ⟨c12, i12, k12⟩ := u_known (C := RX12) (T := TX12) (N := 58) (n := 58) hts (by decide +kernel) (hts (.instantiable RX12 58) (by decide +kernel))
  obtain ⟨dC, dI, hKc⟩ : ∃ (dC : Nat → ClassId) (dI : Nat → Nat → Nat), ∀ (k : Nat) (q : vw_C), vwCl[k]? = some q → u_Kn s q.1 q.2.1 q.2.2 (dC k) (dI k) := by
    refine ⟨fun k => match k with | 0 => c0 | 1 => c1 | 2 => c2 | 3 => c3 | 4 => c4 | 5 => c5 | 6 => c6 | 7 => c7 | 8 => c8 | 9 => c9 | 10 => c10 | 11 => c11 | _ => c12, fun k => match k with | 0 => i0 | 1 => i1 | 2 => i2 | 3 => i3 | 4 => i4 | 5 => i5 | 6 => i6 | 7 => i7 | 8 => i8 | 9 => i9 | 10 => i10 | 11 => i11 | _ => i12, ?_⟩
    intro k q hq
    match k, hq with
    | 0, hq => cases hq; exact k0
    | 1, hq => cases hq; exact k1
    | 2, hq => cases hq; exact k2
    | 3, hq => cases hq; exact k3
    | 4, hq => cases hq; exact k4
    | 5, hq => cases hq; exact k5
    | 6, hq => cases hq; exact k6
    | 7, hq => cases hq; exact k7
    | 8, hq => cases hq; exact k8
    | 9, hq => cases hq; exact k9
    | 10, hq => cases hq; exact k10
    | 11, hq => cases hq; exact k11
    | 12, hq => cases hq; exact k12
    | k + 13, hq => simp [vwCl] at hq
  have hK : va_K (dC, dI) vwCl [] s := ⟨hKc, fun k q h => by simp at h⟩
  have hl := lv_entry ([.ref b]) (n := 7) (Nat.le_of_ble_eq_true rfl)
  rw [lg_entry_eq]
  generalize (lg_sl ([.ref b]) ++ List.replicate (7 - (lg_sl ([.ref b])).length) Slot.unset).toArray = ls at hl ⊢
  have hl : lv_has ls 7 [(0, .ref b)] := hl
  have hnt := nt_id hflags
  have J := law_pre (X := (L, xs)) (hXI _) (hSI _) hL (h0I _)
  have J2 := J p l e room_1 s m #[Value.ref b] below meth c s.heap [] 0 0 789 28801 (dC, dI) s.heap.size (b, t) (L, xs) [b, t] [] ls (lw_Z below #[Value.ref b] s) ⟨hx, hb, hml, hown, fun w hw => hts w (List.mem_filter.mp hw).1, hr, hlocks, fun h => absurd h (by decide), fun hh hm => ?_⟩ rfl ⟨hX, hbl, ht2, hZ, Nat.le_refl _, ⟨fun a9 i9 x9 h9 hm9 => ?_, fun C9 hC9 => ?_, fun w hw => va_Nw.of (XW_t w hw) (hts _ (XW_in w hw))⟩, hU, hV⟩ ⟨(Nat.le_of_ble_eq_true rfl), (Nat.le_of_ble_eq_true rfl), by omega, by omega, (Nat.le_of_ble_eq_true rfl), (Nat.le_of_ble_eq_true rfl)⟩ ⟨[], hK, fun k q h => by simp at h, ⟨fun i j p q h => by simp at h, fun k q h => by simp at h⟩, rfl, fun k q h => by simp at h, fun _ _ => ⟨rfl, rfl, rfl⟩⟩ (List.prefix_refl _) va_S.rf hl (fun q hq => by rcases List.mem_singleton.mp hq with rfl; show 0 < 2; omega) (fun v hv => by cases hv) ?_
  · rw [hnt] at J2
    exact J2
  · exact absurd (List.all_eq_true.mp nocw _ hm) (by simp)
  · exact va_Nw.of rfl (hts _ hm9)
  · exact va_AO.of (hts _ hC9)
  · rw [hnt]
    intro v m1 pc H locs cells slots ws1 ls1 cst hQ hE hX1 hc1 hs1 hM1 had hS hls
    obtain rfl : v = some (.int 1) := hQ
    obtain ⟨rfl, hdg, ty, hr0, hn⟩ := hE
    refine va_forget (fun q hq => hS.2.2 q hq) ?_
    refine W.widen (k := 601024) (n := 7293034) (by omega) (by omega) ?_
    exact lw_ret hx hb hr hlocks hdg
