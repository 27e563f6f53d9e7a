set_option maxRecDepth 1000000 in
def QLaw : Option Value → JMem → Prop := fun v _ => v = some (.int 1)
theorem ls_sub {n : Nat} (h : n ≤ 3072) : (Int32.ofNat n - 6).toInt = n - 6 := by
  rw [show (6 : Int32) = Int32.ofInt 6 from rfl, ← Int32.ofInt_eq_ofNat, ← Int32.ofInt_sub, Int32.toInt_ofInt_of_le (by omega) (by omega)]
theorem ls_add {i : Int32} {k : Int} (h0 : 0 ≤ i.toInt) (h : i.toInt ≤ 4000) (hk : 0 ≤ k) (hk2 : k ≤ 10) : (i + Int32.ofInt k).toInt = i.toInt + k := by
  conv => lhs; rw [← Int32.ofInt_toInt i, ← Int32.ofInt_add]
  rw [Int32.toInt_ofInt_of_le (by omega) (by omega)]
theorem ls_vp {x : Int32} {n : Nat} (h0 : 0 ≤ x.toInt) (h : x.toInt < n) : vp_in x n := by
  unfold vp_in
  rw [Int32.lt_iff_toInt_lt, show x.toNatClampNeg = x.toInt.toNat from rfl, show (0 : Int32).toInt = 0 from rfl]
  omega
theorem ls_in {i : Int32} {n : Nat} {k : Int} (h0 : 0 ≤ i.toInt) (h : i.toInt ≤ 4000) (hk : 0 ≤ k) (hk2 : k ≤ 10) (hn : i.toInt + k < n) : vp_in (i + Int32.ofInt k) n := ls_vp (by rw [ls_add h0 h hk hk2]; omega) (by rw [ls_add h0 h hk hk2]; exact hn)
theorem and63 (x : Int32) : 0 ≤ (x &&& 63).toInt ∧ (x &&& 63).toInt ≤ 63 := by
  have h : (x &&& 63).toBitVec.toNat ≤ 63 := by rw [Int32.toBitVec_and, BitVec.toNat_and]; exact Nat.and_le_right
  have : (x &&& 63).toInt = ((x &&& 63).toBitVec.toNat : Int) := BitVec.toInt_eq_toNat_of_lt (by omega)
  omega
set_option maxRecDepth 1000000 in
theorem law_loop {X : Nat × (Nat → Int32)} {INV : Nat → SM → Prop} (hX : ∀ n s, INV n s → s.2.2.2 = X) (hS : ∀ n, S_all (INV (n + 1)) (INV n)) (hM : ∀ n s, INV (n + 1) s → INV n s) (hL : X.1 ≤ 3072) : ∀ (n : Nat) (s : SM) (i : Int32), INV n s → 0 ≤ i.toInt → i.toInt ≤ 3080 → (X.1 : Int) - 5 - i.toInt ≤ 6 * n → JT ML_law 421 n (6 * n) 23 [(4, .int i), (3, .ref 278), (2, .ref 248), (1, .ref 2), (0, .ref 0)] [] (std s) QLaw := by
  intro n
  induction n with
  | zero => 
    intro s i hs h0 h4 hn
    refine JT_iload (q := 0) dL_law_23 rfl ?_
    refine JT_aload_n (q := 4) dL_law_25 rfl rfl ?_
    refine JT_slen dL_law_26 ?_
    rw [show mS (std s) = X from hX _ s hs]
    refine JT_bipush (v := 6) dL_law_27 (by decide) ?_
    refine JT_isub dL_law_29 ?_
    refine JT_icmp_gt (tgt := 1746) dL_law_30 (by decide) (fun _ => ?_) (fun hle => ?_)
    · refine JT_iconst (v := 1) dL_law_1746 (by decide) ?_
      exact JT_iret (st := []) dL_law_1747 rfl rfl rfl
    have hle2 : i.toInt ≤ (X.1 : Int) - 6 := by
      rw [Int32.not_lt, Int32.le_iff_toInt_le, ls_sub hL] at hle
      exact hle
    omega
  | succ n ih => 
    intro s i hs h0 h4 hn
    refine JT_iload (q := 0) dL_law_23 rfl ?_
    refine JT_aload_n (q := 4) dL_law_25 rfl rfl ?_
    refine JT_slen dL_law_26 ?_
    rw [show mS (std s) = X from hX _ s hs]
    refine JT_bipush (v := 6) dL_law_27 (by decide) ?_
    refine JT_isub dL_law_29 ?_
    refine JT_icmp_gt (tgt := 1746) dL_law_30 (by decide) (fun _ => ?_) (fun hle => ?_)
    · refine JT_iconst (v := 1) dL_law_1746 (by decide) ?_
      exact JT_iret (st := []) dL_law_1747 rfl rfl rfl
    have hle2 : i.toInt ≤ (X.1 : Int) - 6 := by
      rw [Int32.not_lt, Int32.le_iff_toInt_le, ls_sub hL] at hle
      exact hle
    have hk : ∀ s', INV n s' → JT ML_law 421 n (6 * n) 1740 [(4, .int i), (3, .ref 278), (2, .ref 248), (1, .ref 2), (0, .ref 0)] [] (std s') QLaw := fun s' hs' => by
      refine JT_iinc (q := 0) (v := i + Int32.ofInt 6) (lv' := [(4, .int (i + Int32.ofInt 6)), (3, .ref 278), (2, .ref 248), (1, .ref 2), (0, .ref 0)]) dL_law_1740 rfl rfl (Nat.le_of_ble_eq_true rfl) rfl ?_
      refine JT_goto (tgt := 23) dL_law_1743 (by decide) ?_
      exact ih s' _ hs' (by rw [ls_add h0 (by omega) (by decide) (by decide)]; omega) (by rw [ls_add h0 (by omega) (by decide) (by decide)]; omega) (by rw [ls_add h0 (by omega) (by decide) (by decide)]; omega)
    have hin1 : vp_in (i + (1 : Int32)) X.1 := ls_in (k := 1) h0 (by omega) (by decide) (by decide) (by omega)
    have hin2 : vp_in (i + (2 : Int32)) X.1 := ls_in (k := 2) h0 (by omega) (by decide) (by decide) (by omega)
    have hin3 : vp_in (i + (3 : Int32)) X.1 := ls_in (k := 3) h0 (by omega) (by decide) (by decide) (by omega)
    have hin4 : vp_in (i + (4 : Int32)) X.1 := ls_in (k := 4) h0 (by omega) (by decide) (by decide) (by omega)
    have hin5 : vp_in (i + (5 : Int32)) X.1 := ls_in (k := 5) h0 (by omega) (by decide) (by decide) (by omega)
    refine JT_aload_n (q := 4) dL_law_33 rfl rfl ?_
    refine JT_iload (q := 0) dL_law_34 rfl ?_
    refine JT_sld dL_law_36 (by rw [show mS (std s) = X from hX _ s hs]; exact ls_vp h0 (by omega)) ?_
    rw [show mS (std s) = X from hX _ s hs]
    refine JT_bipush (v := 63) dL_law_37 (by decide) ?_
    refine JT_iand dL_law_39 ?_
    have hy := and63 (X.2 i.toNatClampNeg)
    generalize (X.2 i.toNatClampNeg &&& 63) = y at hy ⊢
    by_cases h46 : 46 < y.toInt
    · refine JT_tableOut (tgt := 1740) dL_law_40 (Or.inr h46) (by decide) ?_
      exact JT_room (hk s (hM n s hs)) (Nat.le_refl _) (by omega) (by omega)
    rcases (show y.toInt = 0 ∨ y.toInt = 1 ∨ y.toInt = 2 ∨ y.toInt = 3 ∨ y.toInt = 4 ∨ y.toInt = 5 ∨ y.toInt = 6 ∨ y.toInt = 7 ∨ y.toInt = 8 ∨ y.toInt = 9 ∨ y.toInt = 10 ∨ y.toInt = 11 ∨ y.toInt = 12 ∨ y.toInt = 13 ∨ y.toInt = 14 ∨ y.toInt = 15 ∨ y.toInt = 16 ∨ y.toInt = 17 ∨ y.toInt = 18 ∨ y.toInt = 19 ∨ y.toInt = 20 ∨ y.toInt = 21 ∨ y.toInt = 22 ∨ y.toInt = 23 ∨ y.toInt = 24 ∨ y.toInt = 25 ∨ y.toInt = 26 ∨ y.toInt = 27 ∨ y.toInt = 28 ∨ y.toInt = 29 ∨ y.toInt = 30 ∨ y.toInt = 31 ∨ y.toInt = 32 ∨ y.toInt = 33 ∨ y.toInt = 34 ∨ y.toInt = 35 ∨ y.toInt = 36 ∨ y.toInt = 37 ∨ y.toInt = 38 ∨ y.toInt = 39 ∨ y.toInt = 40 ∨ y.toInt = 41 ∨ y.toInt = 42 ∨ y.toInt = 43 ∨ y.toInt = 44 ∨ y.toInt = 45 ∨ y.toInt = 46 by omega) with hc | hc | hc | hc | hc | hc | hc | hc | hc | hc | hc | hc | hc | hc | hc | hc | hc | hc | hc | hc | hc | hc | hc | hc | hc | hc | hc | hc | hc | hc | hc | hc | hc | hc | hc | hc | hc | hc | hc | hc | hc | hc | hc | hc | hc | hc | hc
    · refine JT_tableIn (off := 204) (tgt := 244) dL_law_40 (by omega) (by omega) (by rw [hc]; rfl) (by decide) ?_
      exact JT_room (law_feed (hX (n + 1)) ((hS n).1) hs hin1 hin2 hin3 hin4 hin5 hk) (Nat.le_refl _) (by omega) (by omega)
    · refine JT_tableIn (off := 277) (tgt := 317) dL_law_40 (by omega) (by omega) (by rw [hc]; rfl) (by decide) ?_
      exact JT_room (law_end (hX (n + 1)) ((hS n).2.1) hs hin1 hin2 hin3 hin4 hin5 hk) (Nat.le_refl _) (by omega) (by omega)
    · refine JT_tableIn (off := 302) (tgt := 342) dL_law_40 (by omega) (by omega) (by rw [hc]; rfl) (by decide) ?_
      exact JT_room (law_port (hX (n + 1)) ((hS n).2.2.1) hs hin1 hin2 hin3 hin4 hin5 hk) (Nat.le_refl _) (by omega) (by omega)
    · refine JT_tableIn (off := 315) (tgt := 355) dL_law_40 (by omega) (by omega) (by rw [hc]; rfl) (by decide) ?_
      exact JT_room (law_fault (hX (n + 1)) ((hS n).2.2.2.1) hs hin1 hin2 hin3 hin4 hin5 hk) (Nat.le_refl _) (by omega) (by omega)
    · refine JT_tableIn (off := 328) (tgt := 368) dL_law_40 (by omega) (by omega) (by rw [hc]; rfl) (by decide) ?_
      exact JT_room (law_body (hX (n + 1)) (hS n).2.2.2.2.2.2.2.2.2.2.2.2.2.2.2.2.2.2.2.2.2.2.2.2.2.2.2.2.2.2.2.2.2.2.2.2.2.2.2.2.2.2.2.2.2.2.2 ((hS n).2.2.2.2.1) hs hin1 hin2 hin3 hin4 hin5 hk) (Nat.le_refl _) (by omega) (by omega)
    · refine JT_tableIn (off := 396) (tgt := 436) dL_law_40 (by omega) (by omega) (by rw [hc]; rfl) (by decide) ?_
      exact JT_room (law_kind (hX (n + 1)) (hS n).2.2.2.2.2.2.2.2.2.2.2.2.2.2.2.2.2.2.2.2.2.2.2.2.2.2.2.2.2.2.2.2.2.2.2.2.2.2.2.2.2.2.2.2.2.2.2 ((hS n).2.2.2.2.2.1) hs hin1 hin2 hin3 hin4 hin5 hk) (Nat.le_refl _) (by omega) (by omega)
    · refine JT_tableIn (off := 464) (tgt := 504) dL_law_40 (by omega) (by omega) (by rw [hc]; rfl) (by decide) ?_
      exact JT_room (law_deal (hX (n + 1)) (hS n).2.2.2.2.2.2.2.2.2.2.2.2.2.2.2.2.2.2.2.2.2.2.2.2.2.2.2.2.2.2.2.2.2.2.2.2.2.2.2.2.2.2.2.2.2.2.2 ((hS n).2.2.2.2.2.2.1) hs hin1 hin2 hin3 hin4 hin5 hk) (Nat.le_refl _) (by omega) (by omega)
    · refine JT_tableIn (off := 532) (tgt := 572) dL_law_40 (by omega) (by omega) (by rw [hc]; rfl) (by decide) ?_
      exact JT_room (law_read (hX (n + 1)) ((hS n).2.2.2.2.2.2.2.1) hs hin1 hin2 hin3 hin4 hin5 hk) (Nat.le_refl _) (by omega) (by omega)
    · refine JT_tableIn (off := 569) (tgt := 609) dL_law_40 (by omega) (by omega) (by rw [hc]; rfl) (by decide) ?_
      exact JT_room (law_mark (hX (n + 1)) ((hS n).2.2.2.2.2.2.2.2.1) hs hin1 hin2 hin3 hin4 hin5 hk) (Nat.le_refl _) (by omega) (by omega)
    · refine JT_tableIn (off := 606) (tgt := 646) dL_law_40 (by omega) (by omega) (by rw [hc]; rfl) (by decide) ?_
      exact JT_room (law_write (hX (n + 1)) ((hS n).2.2.2.2.2.2.2.2.2.1) hs hin1 hin2 hin3 hin4 hin5 hk) (Nat.le_refl _) (by omega) (by omega)
    · refine JT_tableIn (off := 667) (tgt := 707) dL_law_40 (by omega) (by omega) (by rw [hc]; rfl) (by decide) ?_
      exact JT_room (law_strike (hX (n + 1)) ((hS n).2.2.2.2.2.2.2.2.2.2.1) hs hin1 hin2 hin3 hin4 hin5 hk) (Nat.le_refl _) (by omega) (by omega)
    · refine JT_tableIn (off := 692) (tgt := 732) dL_law_40 (by omega) (by omega) (by rw [hc]; rfl) (by decide) ?_
      exact JT_room (law_scar (hX (n + 1)) ((hS n).2.2.2.2.2.2.2.2.2.2.2.1) hs hin1 hin2 hin3 hin4 hin5 hk) (Nat.le_refl _) (by omega) (by omega)
    · refine JT_tableIn (off := 729) (tgt := 769) dL_law_40 (by omega) (by omega) (by rw [hc]; rfl) (by decide) ?_
      exact JT_room (law_ring (hX (n + 1)) ((hS n).2.2.2.2.2.2.2.2.2.2.2.2.1) hs hin1 hin2 hin3 hin4 hin5 hk) (Nat.le_refl _) (by omega) (by omega)
    · refine JT_tableIn (off := 742) (tgt := 782) dL_law_40 (by omega) (by omega) (by rw [hc]; rfl) (by decide) ?_
      exact JT_room (law_ringAt (hX (n + 1)) ((hS n).2.2.2.2.2.2.2.2.2.2.2.2.2.1) hs hin1 hin2 hin3 hin4 hin5 hk) (Nat.le_refl _) (by omega) (by omega)
    · refine JT_tableIn (off := 767) (tgt := 807) dL_law_40 (by omega) (by omega) (by rw [hc]; rfl) (by decide) ?_
      exact JT_room (law_ringOf (hX (n + 1)) ((hS n).2.2.2.2.2.2.2.2.2.2.2.2.2.2.1) hs hin1 hin2 hin3 hin4 hin5 hk) (Nat.le_refl _) (by omega) (by omega)
    · refine JT_tableIn (off := 792) (tgt := 832) dL_law_40 (by omega) (by omega) (by rw [hc]; rfl) (by decide) ?_
      exact JT_room (law_cut (hX (n + 1)) ((hS n).2.2.2.2.2.2.2.2.2.2.2.2.2.2.2.1) hs hin1 hin2 hin3 hin4 hin5 hk) (Nat.le_refl _) (by omega) (by omega)
    · refine JT_tableIn (off := 805) (tgt := 845) dL_law_40 (by omega) (by omega) (by rw [hc]; rfl) (by decide) ?_
      exact JT_room (law_dies (hX (n + 1)) ((hS n).2.2.2.2.2.2.2.2.2.2.2.2.2.2.2.2.1) hs hin1 hin2 hin3 hin4 hin5 hk) (Nat.le_refl _) (by omega) (by omega)
    · refine JT_tableIn (off := 842) (tgt := 882) dL_law_40 (by omega) (by omega) (by rw [hc]; rfl) (by decide) ?_
      exact JT_room (law_year (hX (n + 1)) ((hS n).2.2.2.2.2.2.2.2.2.2.2.2.2.2.2.2.2.1) hs hin1 hin2 hin3 hin4 hin5 hk) (Nat.le_refl _) (by omega) (by omega)
    · refine JT_tableIn (off := 855) (tgt := 895) dL_law_40 (by omega) (by omega) (by rw [hc]; rfl) (by decide) ?_
      exact JT_room (law_undo (hX (n + 1)) ((hS n).2.2.2.2.2.2.2.2.2.2.2.2.2.2.2.2.2.2.1) hs hin1 hin2 hin3 hin4 hin5 hk) (Nat.le_refl _) (by omega) (by omega)
    · refine JT_tableIn (off := 868) (tgt := 908) dL_law_40 (by omega) (by omega) (by rw [hc]; rfl) (by decide) ?_
      exact JT_room (law_can (hX (n + 1)) ((hS n).2.2.2.2.2.2.2.2.2.2.2.2.2.2.2.2.2.2.2.1) hs hin1 hin2 hin3 hin4 hin5 hk) (Nat.le_refl _) (by omega) (by omega)
    · refine JT_tableIn (off := 905) (tgt := 945) dL_law_40 (by omega) (by omega) (by rw [hc]; rfl) (by decide) ?_
      exact JT_room (law_ringsFor (hX (n + 1)) ((hS n).2.2.2.2.2.2.2.2.2.2.2.2.2.2.2.2.2.2.2.2.1) hs hin1 hin2 hin3 hin4 hin5 hk) (Nat.le_refl _) (by omega) (by omega)
    · refine JT_tableIn (off := 954) (tgt := 994) dL_law_40 (by omega) (by omega) (by rw [hc]; rfl) (by decide) ?_
      exact JT_room (law_aged (hX (n + 1)) ((hS n).2.2.2.2.2.2.2.2.2.2.2.2.2.2.2.2.2.2.2.2.2.1) hs hin1 hin2 hin3 hin4 hin5 hk) (Nat.le_refl _) (by omega) (by omega)
    · refine JT_tableIn (off := 991) (tgt := 1031) dL_law_40 (by omega) (by omega) (by rw [hc]; rfl) (by decide) ?_
      exact JT_room (law_owes (hX (n + 1)) ((hS n).2.2.2.2.2.2.2.2.2.2.2.2.2.2.2.2.2.2.2.2.2.2.1) hs hin1 hin2 hin3 hin4 hin5 hk) (Nat.le_refl _) (by omega) (by omega)
    · refine JT_tableIn (off := 1028) (tgt := 1068) dL_law_40 (by omega) (by omega) (by rw [hc]; rfl) (by decide) ?_
      exact JT_room (law_chain (hX (n + 1)) ((hS n).2.2.2.2.2.2.2.2.2.2.2.2.2.2.2.2.2.2.2.2.2.2.2.1) hs hin1 hin2 hin3 hin4 hin5 hk) (Nat.le_refl _) (by omega) (by omega)
    · refine JT_tableIn (off := 1065) (tgt := 1105) dL_law_40 (by omega) (by omega) (by rw [hc]; rfl) (by decide) ?_
      exact JT_room (law_fullest (hX (n + 1)) ((hS n).2.2.2.2.2.2.2.2.2.2.2.2.2.2.2.2.2.2.2.2.2.2.2.2.1) hs hin1 hin2 hin3 hin4 hin5 hk) (Nat.le_refl _) (by omega) (by omega)
    · refine JT_tableIn (off := 1090) (tgt := 1130) dL_law_40 (by omega) (by omega) (by rw [hc]; rfl) (by decide) ?_
      exact JT_room (law_trade (hX (n + 1)) ((hS n).2.2.2.2.2.2.2.2.2.2.2.2.2.2.2.2.2.2.2.2.2.2.2.2.2.1) hs hin1 hin2 hin3 hin4 hin5 hk) (Nat.le_refl _) (by omega) (by omega)
    · refine JT_tableIn (off := 1127) (tgt := 1167) dL_law_40 (by omega) (by omega) (by rw [hc]; rfl) (by decide) ?_
      exact JT_room (law_settled (hX (n + 1)) ((hS n).2.2.2.2.2.2.2.2.2.2.2.2.2.2.2.2.2.2.2.2.2.2.2.2.2.2.1) hs hin1 hin2 hin3 hin4 hin5 hk) (Nat.le_refl _) (by omega) (by omega)
    · refine JT_tableIn (off := 1140) (tgt := 1180) dL_law_40 (by omega) (by omega) (by rw [hc]; rfl) (by decide) ?_
      exact JT_room (law_skin (hX (n + 1)) ((hS n).2.2.2.2.2.2.2.2.2.2.2.2.2.2.2.2.2.2.2.2.2.2.2.2.2.2.2.1) hs hin1 hin2 hin3 hin4 hin5 hk) (Nat.le_refl _) (by omega) (by omega)
    · refine JT_tableIn (off := 1165) (tgt := 1205) dL_law_40 (by omega) (by omega) (by rw [hc]; rfl) (by decide) ?_
      exact JT_room (law_byteAt (hX (n + 1)) ((hS n).2.2.2.2.2.2.2.2.2.2.2.2.2.2.2.2.2.2.2.2.2.2.2.2.2.2.2.2.1) hs hin1 hin2 hin3 hin4 hin5 hk) (Nat.le_refl _) (by omega) (by omega)
    · refine JT_tableIn (off := 1190) (tgt := 1230) dL_law_40 (by omega) (by omega) (by rw [hc]; rfl) (by decide) ?_
      exact JT_room (law_between (hX (n + 1)) ((hS n).2.2.2.2.2.2.2.2.2.2.2.2.2.2.2.2.2.2.2.2.2.2.2.2.2.2.2.2.2.1) hs hin1 hin2 hin3 hin4 hin5 hk) (Nat.le_refl _) (by omega) (by omega)
    · refine JT_tableIn (off := 1239) (tgt := 1279) dL_law_40 (by omega) (by omega) (by rw [hc]; rfl) (by decide) ?_
      exact JT_room (law_greatest (hX (n + 1)) ((hS n).2.2.2.2.2.2.2.2.2.2.2.2.2.2.2.2.2.2.2.2.2.2.2.2.2.2.2.2.2.2.1) hs hin1 hin2 hin3 hin4 hin5 hk) (Nat.le_refl _) (by omega) (by omega)
    · refine JT_tableIn (off := 1264) (tgt := 1304) dL_law_40 (by omega) (by omega) (by rw [hc]; rfl) (by decide) ?_
      exact JT_room (law_book (hX (n + 1)) ((hS n).2.2.2.2.2.2.2.2.2.2.2.2.2.2.2.2.2.2.2.2.2.2.2.2.2.2.2.2.2.2.2.1) hs hin1 hin2 hin3 hin4 hin5 hk) (Nat.le_refl _) (by omega) (by omega)
    · refine JT_tableIn (off := 1277) (tgt := 1317) dL_law_40 (by omega) (by omega) (by rw [hc]; rfl) (by decide) ?_
      exact JT_room (law_judge (hX (n + 1)) ((hS n).2.2.2.2.2.2.2.2.2.2.2.2.2.2.2.2.2.2.2.2.2.2.2.2.2.2.2.2.2.2.2.2.1) hs hin1 hin2 hin3 hin4 hin5 hk) (Nat.le_refl _) (by omega) (by omega)
    · refine JT_tableIn (off := 1302) (tgt := 1342) dL_law_40 (by omega) (by omega) (by rw [hc]; rfl) (by decide) ?_
      exact JT_room (law_judged (hX (n + 1)) ((hS n).2.2.2.2.2.2.2.2.2.2.2.2.2.2.2.2.2.2.2.2.2.2.2.2.2.2.2.2.2.2.2.2.2.1) hs hin1 hin2 hin3 hin4 hin5 hk) (Nat.le_refl _) (by omega) (by omega)
    · refine JT_tableIn (off := 1327) (tgt := 1367) dL_law_40 (by omega) (by omega) (by rw [hc]; rfl) (by decide) ?_
      exact JT_room (law_pack (hX (n + 1)) ((hS n).2.2.2.2.2.2.2.2.2.2.2.2.2.2.2.2.2.2.2.2.2.2.2.2.2.2.2.2.2.2.2.2.2.2.1) hs hin1 hin2 hin3 hin4 hin5 hk) (Nat.le_refl _) (by omega) (by omega)
    · refine JT_tableIn (off := 1340) (tgt := 1380) dL_law_40 (by omega) (by omega) (by rw [hc]; rfl) (by decide) ?_
      exact JT_room (law_packed (hX (n + 1)) ((hS n).2.2.2.2.2.2.2.2.2.2.2.2.2.2.2.2.2.2.2.2.2.2.2.2.2.2.2.2.2.2.2.2.2.2.2.1) hs hin1 hin2 hin3 hin4 hin5 hk) (Nat.le_refl _) (by omega) (by omega)
    · refine JT_tableIn (off := 1365) (tgt := 1405) dL_law_40 (by omega) (by omega) (by rw [hc]; rfl) (by decide) ?_
      exact JT_room (law_price (hX (n + 1)) ((hS n).2.2.2.2.2.2.2.2.2.2.2.2.2.2.2.2.2.2.2.2.2.2.2.2.2.2.2.2.2.2.2.2.2.2.2.2.1) hs hin1 hin2 hin3 hin4 hin5 hk) (Nat.le_refl _) (by omega) (by omega)
    · refine JT_tableIn (off := 1402) (tgt := 1442) dL_law_40 (by omega) (by omega) (by rw [hc]; rfl) (by decide) ?_
      exact JT_room (law_lost (hX (n + 1)) ((hS n).2.2.2.2.2.2.2.2.2.2.2.2.2.2.2.2.2.2.2.2.2.2.2.2.2.2.2.2.2.2.2.2.2.2.2.2.2.1) hs hin1 hin2 hin3 hin4 hin5 hk) (Nat.le_refl _) (by omega) (by omega)
    · refine JT_tableIn (off := 1427) (tgt := 1467) dL_law_40 (by omega) (by omega) (by rw [hc]; rfl) (by decide) ?_
      exact JT_room (law_fits (hX (n + 1)) ((hS n).2.2.2.2.2.2.2.2.2.2.2.2.2.2.2.2.2.2.2.2.2.2.2.2.2.2.2.2.2.2.2.2.2.2.2.2.2.2.1) hs hin1 hin2 hin3 hin4 hin5 hk) (Nat.le_refl _) (by omega) (by omega)
    · refine JT_tableIn (off := 1452) (tgt := 1492) dL_law_40 (by omega) (by omega) (by rw [hc]; rfl) (by decide) ?_
      exact JT_room (law_fit (hX (n + 1)) ((hS n).2.2.2.2.2.2.2.2.2.2.2.2.2.2.2.2.2.2.2.2.2.2.2.2.2.2.2.2.2.2.2.2.2.2.2.2.2.2.2.1) hs hin1 hin2 hin3 hin4 hin5 hk) (Nat.le_refl _) (by omega) (by omega)
    · refine JT_tableIn (off := 1489) (tgt := 1529) dL_law_40 (by omega) (by omega) (by rw [hc]; rfl) (by decide) ?_
      exact JT_room (law_owed (hX (n + 1)) ((hS n).2.2.2.2.2.2.2.2.2.2.2.2.2.2.2.2.2.2.2.2.2.2.2.2.2.2.2.2.2.2.2.2.2.2.2.2.2.2.2.2.1) hs hin1 hin2 hin3 hin4 hin5 hk) (Nat.le_refl _) (by omega) (by omega)
    · refine JT_tableIn (off := 1538) (tgt := 1578) dL_law_40 (by omega) (by omega) (by rw [hc]; rfl) (by decide) ?_
      exact JT_room (law_proof (hX (n + 1)) ((hS n).2.2.2.2.2.2.2.2.2.2.2.2.2.2.2.2.2.2.2.2.2.2.2.2.2.2.2.2.2.2.2.2.2.2.2.2.2.2.2.2.2.1) hs hin1 hin2 hin3 hin4 hin5 hk) (Nat.le_refl _) (by omega) (by omega)
    · refine JT_tableIn (off := 1563) (tgt := 1603) dL_law_40 (by omega) (by omega) (by rw [hc]; rfl) (by decide) ?_
      exact JT_room (law_witness (hX (n + 1)) ((hS n).2.2.2.2.2.2.2.2.2.2.2.2.2.2.2.2.2.2.2.2.2.2.2.2.2.2.2.2.2.2.2.2.2.2.2.2.2.2.2.2.2.2.1) hs hin1 hin2 hin3 hin4 hin5 hk) (Nat.le_refl _) (by omega) (by omega)
    · refine JT_tableIn (off := 1588) (tgt := 1628) dL_law_40 (by omega) (by omega) (by rw [hc]; rfl) (by decide) ?_
      exact JT_room (law_lasts (hX (n + 1)) ((hS n).2.2.2.2.2.2.2.2.2.2.2.2.2.2.2.2.2.2.2.2.2.2.2.2.2.2.2.2.2.2.2.2.2.2.2.2.2.2.2.2.2.2.2.1) hs hin1 hin2 hin3 hin4 hin5 hk) (Nat.le_refl _) (by omega) (by omega)
    · refine JT_tableIn (off := 1625) (tgt := 1665) dL_law_40 (by omega) (by omega) (by rw [hc]; rfl) (by decide) ?_
      exact JT_room (law_image (hX (n + 1)) ((hS n).2.2.2.2.2.2.2.2.2.2.2.2.2.2.2.2.2.2.2.2.2.2.2.2.2.2.2.2.2.2.2.2.2.2.2.2.2.2.2.2.2.2.2.2.1) hs hin1 hin2 hin3 hin4 hin5 hk) (Nat.le_refl _) (by omega) (by omega)
    · refine JT_tableIn (off := 1650) (tgt := 1690) dL_law_40 (by omega) (by omega) (by rw [hc]; rfl) (by decide) ?_
      exact JT_room (law_restore (hX (n + 1)) ((hS n).2.2.2.2.2.2.2.2.2.2.2.2.2.2.2.2.2.2.2.2.2.2.2.2.2.2.2.2.2.2.2.2.2.2.2.2.2.2.2.2.2.2.2.2.2.1) hs hin1 hin2 hin3 hin4 hin5 hk) (Nat.le_refl _) (by omega) (by omega)
    · refine JT_tableIn (off := 1675) (tgt := 1715) dL_law_40 (by omega) (by omega) (by rw [hc]; rfl) (by decide) ?_
      exact JT_room (law_count (hX (n + 1)) ((hS n).2.2.2.2.2.2.2.2.2.2.2.2.2.2.2.2.2.2.2.2.2.2.2.2.2.2.2.2.2.2.2.2.2.2.2.2.2.2.2.2.2.2.2.2.2.2.1) hs hin1 hin2 hin3 hin4 hin5 hk) (Nat.le_refl _) (by omega) (by omega)
