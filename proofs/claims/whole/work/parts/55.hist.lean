-- needs: 42.qa 51.fr 54.copy
theorem rf_all : ∀ r ∈ List.range 9, RF 56 r = some (57 + 12 * r) ∧ rfx 56 r = 57 + 12 * r ∧ rfx (57 + 12 * r) 8 = 5 ∧ (57 + 12 * r, 5) ∈ LX := by decide +kernel
theorem rf_r {r : Nat} (h : r < 9) : RF 56 r = some (57 + 12 * r) ∧ rfx 56 r = 57 + 12 * r ∧ rfx (57 + 12 * r) 8 = 5 ∧ (57 + 12 * r, 5) ∈ LX := rf_all r (List.mem_range.mpr h)
/-- the row of History that holds the j-th of the kept -/
def rowL (nt kp j : Nat) : Nat := 57 + 12 * ((nt + 9 - kp + j) % 9)
def HRow (s : SM) (g : Nat → Int) (nt kp j : Nat) : Prop := ∃ u : Nat → Int, (WF u ∧ WA u) ∧ SP g u ∧ LdS s (rowL nt kp j) u ∧ ∀ k, k < 552 → gI s 255 (552 * j + k) = zI (u (34 + k))
def HIx (s : SM) (g : Nat → Int) (nt kp : Nat) : Prop := nt < 9 ∧ kp ≤ 8 ∧ gI s 55 1 = zI (nt : Int) ∧ gI s 55 2 = zI (kp : Int) ∧ gI s 248 25 = zI (kp : Int) ∧ (∀ j, j < kp → HRow s g nt kp j) ∧ WA g
def HI (s : SM) (g : Nat → Int) : Prop := ∃ nt kp, HIx s g nt kp
theorem WA_sq {g g' : Nat → Int} (hw : WF g) (h : WA g) (hs : SQ g g') : WA g' := by
  have h0 := hw.w0
  refine WA_mo (hs 36 (by omega)) (fun d hd => ?_) h
  have h1 : 0 ≤ d ∧ d < g' 34 := hd.1
  rw [hs 34 (by omega)] at h1
  have h5 := hd.2
  rw [SQ_oZ hs (by omega)] at h5
  exact ⟨⟨h1, h5⟩, SQ_oZ hs (by omega), SQ_oZ hs (by omega)⟩
theorem HI_wa {s : SM} {g : Nat → Int} (h : HI s g) : WA g := by
  obtain ⟨nt, kp, i1, i2, i3, i4, i5, i6, i7⟩ := h
  exact i7
theorem HRow_fr {s t : SM} {g g' : Nat → Int} {nt kp j : Nat} (h : HRow s g nt kp j) (hg : SP g g') (hL : ∀ c, rowL nt kp j ≤ c → c ≤ rowL nt kp j + 11 → gI t c = gI s c) (h5 : gI t 255 = gI s 255) : HRow t g' nt kp j := by
  obtain ⟨u, u1, u2, u3, u4⟩ := h
  refine ⟨u, u1, fun k hk => by rw [u2 k hk, hg k hk], ?_, fun k hk => by rw [h5]; exact u4 k hk⟩
  refine ⟨?_, fun b hb => ?_, fun d hd => ?_⟩
  · rw [hL _ (by omega) (by omega)]; exact u3.1
  · unfold LdB; rw [hL _ (by omega) (by omega), hL _ (by omega) (by omega)]; exact u3.2.1 b hb
  · unfold LdD; rw [hL _ (by omega) (by omega), hL _ (by omega) (by omega), hL _ (by omega) (by omega), hL _ (by omega) (by omega), hL _ (by omega) (by omega), hL _ (by omega) (by omega), hL _ (by omega) (by omega), hL _ (by omega) (by omega), hL _ (by omega) (by omega)]; exact u3.2.2 d hd
section
variable {s t : SM} {g : Nat → Int} {L P : Nat}
theorem y_note {nt : Nat} (h : LdR s 31 5 g) (hw : WF g) (hn : nt < 9) (h55 : gI s 55 1 = zI (nt : Int)) : LdS (mX2_note s 31 5) (57 + 12 * nt) g ∧ Fr (InL (57 + 12 * nt)) s (mX2_note s 31 5) ∧ rX2_note s 31 5 := by
  obtain ⟨r1, r2, r3, r4⟩ := rf_r hn
  have cN : (zI (nt : Int)).toNatClampNeg = nt := by rw [z_cl (by omega)]; exact Int.toNat_natCast nt
  have vN : vp_in (zI (nt : Int)) 9 := by rw [z_in (by omega)]; omega
  unfold mX2_note rX2_note
  rw [h55, cN, r2, r3, r1]
  obtain ⟨c1, c2, c3⟩ := y_copy (P0 := 5) (P1 := 5) (L0 := 57 + 12 * nt) h.2 hw (by omega)
  exact ⟨c1, c2, vN, rfl, r4, c3⟩
/-- an act refused: only the row that is not kept was written -/
theorem HIx_note {nt kp : Nat} (h : LdR s 31 5 g) (hw : WF g) (hi : HIx s g nt kp) : HIx (mX2_note s 31 5) g nt kp ∧ LdS (mX2_note s 31 5) (57 + 12 * nt) g ∧ Fr (InL (57 + 12 * nt)) s (mX2_note s 31 5) ∧ LdR (mX2_note s 31 5) 31 5 g ∧ rX2_note s 31 5 := by
  obtain ⟨i1, i2, i3, i4, i5, i6, i7⟩ := hi
  obtain ⟨n1, n2, n3⟩ := y_note h hw i1 i3
  have e := n2.1
  refine ⟨⟨i1, i2, ?_, ?_, ?_, fun j hj => ?_, i7⟩, n1, n2, LdR_fr h n2 (fun c hc => by omega), n3⟩
  · rw [e 55 (by omega)]; exact i3
  · rw [e 55 (by omega)]; exact i4
  · rw [e 248 (by omega)]; exact i5
  · refine HRow_fr (i6 j hj) (fun _ _ => rfl) (fun c h1 h2 => e c ?_) (e 255 (by omega))
    unfold rowL at h1 h2
    omega
theorem x_keep (s : SM) {kp : Nat} (hk : kp ≤ 8) (h25 : gI s 248 25 = zI (kp : Int)) : ∃ t, mX12_keep s = t ∧ rX12_keep s ∧ Fr (fun c => c = 248 ∨ c = 255) s t ∧ (∀ i, i ≠ 25 → gI t 248 i = gI s 248 i) ∧ gI t 248 25 = zI ((if kp = 8 then 8 else kp + 1 : Nat) : Int) ∧ (∀ k, k < 552 → gI t 255 (552 * (if kp = 8 then 7 else kp) + k) = gI s 250 (34 + k)) ∧ (∀ j, j < (if kp = 8 then 7 else kp) → ∀ k, k < 552 → gI t 255 (552 * j + k) = gI s 255 (552 * (if kp = 8 then j + 1 else j) + k)) := by
  -- the second loop, from any memory
  have two : ∀ (a : SM) (q : Nat), q < 8 → gI a 248 25 = zI (q : Int) → ∃ t, (lX12_keep FU).2 a (zI 0) = t ∧ (qX12_keep FU).2 a (zI 0) ∧ ST 553 (fun n => (lX12_keep n).2 a (zI 0)) (fun n => (qX12_keep n).2 a (zI 0)) (fun _ => t) (fun _ => True) ∧ Fr (fun c => c = 248 ∨ c = 255) a t ∧ (∀ i, i ≠ 25 → gI t 248 i = gI a 248 i) ∧ gI t 248 25 = zI ((q : Int) + 1) ∧ (∀ k, k < 552 → gI t 255 (552 * q + k) = gI a 250 (34 + k)) ∧ (∀ i, i < 552 * q → gI t 255 i = gI a 255 i) := by
    intro a q hq hq2
    have up := ST_up (B := 1) 552 (fun k (b : SM) => Fr (fun c => c = 255) a b ∧ (∀ i, i < k → gI b 255 (552 * q + i) = gI a 250 (34 + i)) ∧ (∀ i, i < 552 * q → gI b 255 i = gI a 255 i))
      (fun k b n => (lX12_keep n).2 b (zI (k : Int))) (fun k b n => (qX12_keep n).2 b (zI (k : Int))) (by
      rintro k b hk ⟨f1, f2, f3⟩
      have e25 : gI b 248 25 = zI (q : Int) := by rw [f1.1 248 (by omega)]; exact hq2
      have n1 : ((552 : Int) ≤ (k : Int)) = False := eq_false (by omega)
      have v1 : vp_in (zI (34 + (k : Int))) 787 := by rw [z_in (by omega)]; omega
      have v2 : vp_in (zI (552 * (q : Int) + (k : Int))) 4416 := by rw [z_in (by omega)]; omega
      have c1 : (zI (34 + (k : Int))).toNatClampNeg = 34 + k := by rw [z_cl (by omega)]; omega
      have c2 : (zI (552 * (q : Int) + (k : Int))).toNatClampNeg = 552 * q + k := by rw [z_cl (by omega)]; omega
      refine ⟨pI b 255 (552 * q + k) (gI b 250 (34 + k)), ⟨Fr_p f1 rfl, fun i hi => ?_, fun i hi => ?_⟩, ?_⟩
      · rw [gI_s]
        by_cases hik : i = k
        · subst hik; rw [if_pos rfl, f1.1 250 (by omega)]
        · rw [if_neg (by omega)]; exact f2 i (by omega)
      · rw [gI_s, if_neg (by omega)]; exact f3 i hi
      ·
        (refine ⟨1, by decide, fun n => ?_⟩; dsimp only []; rw [lpX12_keep_48 (n), qpX12_keep_48 (n)]; generalize hlK : lX12_keep (n) = K; generalize hqK : qX12_keep (n) = Q; simp (disch := omega) only [tX12_keep_48, uX12_keep_48, e25, zl0, zl1, zl34, zl552, z_mul, z_add, z_le, n1, v1, v2, c1, c2, Int.natCast_succ, Int.reduceAdd, Int.reduceSub, Int.reduceMul, Int.reduceNeg, Int.reduceLT, Int.reduceLE, Int.reduceToNat, Int.reduceEq, if_true, if_false, true_and, and_true, not_true, not_false_eq_true, false_implies, true_implies, imp_self, and_self, and_false, false_and, or_true, true_or, or_false, false_or, ite_self, implies_true]; done)
      )
    obtain ⟨b, ⟨f1, f2, f3⟩, stb⟩ := up 552 0 a (by omega) ⟨Fr_rf _ a, fun i hi => by omega, fun i hi => rfl⟩
    have e25 : gI b 248 25 = zI (q : Int) := by rw [f1.1 248 (by omega)]; exact hq2
    have n552 : (((552 : Nat) : Int)) = 552 := rfl
    rw [n552] at stb
    have st2 : ST 1 (fun n => (lX12_keep n).2 b (zI 552)) (fun n => (qX12_keep n).2 b (zI 552)) (fun _ => pI b 248 25 (zI ((q : Int) + 1))) (fun _ => True) := by
      (refine ⟨1, by decide, fun n => ?_⟩; dsimp only []; rw [lpX12_keep_48 (n), qpX12_keep_48 (n)]; generalize hlK : lX12_keep (n) = K; generalize hqK : qX12_keep (n) = Q; simp (disch := omega) only [tX12_keep_48, uX12_keep_48, e25, zl0, zl1, zl34, zl552, z_add, z_le, Int.le_refl, Int.reduceAdd, Int.reduceSub, Int.reduceMul, Int.reduceNeg, Int.reduceLT, Int.reduceLE, Int.reduceToNat, Int.reduceEq, if_true, if_false, true_and, and_true, not_true, not_false_eq_true, false_implies, true_implies, imp_self, and_self, and_false, false_and, or_true, true_or, or_false, false_or, ite_self, implies_true]; done)
    have sta := ST_trans stb st2
    obtain ⟨E, R⟩ := ST_fu sta (by omega)
    refine ⟨_, E, R, ST_mono sta (by omega), Fr_p (Fr_mo f1 (fun c hc => Or.inr hc)) (Or.inl rfl), fun i hi => ?_, ?_, fun k hk => ?_, fun i hi => ?_⟩
    · rw [gI_s, if_neg hi, f1.1 248 (by omega)]
    · rw [gI_s, if_pos rfl]
    · rw [gI_n _ _ _ _ (by omega)]; exact f2 k hk
    · rw [gI_n _ _ _ _ (by omega)]; exact f3 i hi
  by_cases h8 : kp = 8
  · subst h8
    have up := ST_up (B := 1) 3864 (fun k (b : SM) => Fr (fun c => c = 255) s b ∧ (∀ i, i < k → gI b 255 i = gI s 255 (i + 552)) ∧ (∀ i, k ≤ i → gI b 255 i = gI s 255 i))
      (fun k b n => (lX12_keep n).1 b (zI (k : Int))) (fun k b n => (qX12_keep n).1 b (zI (k : Int))) (by
      rintro k b hk ⟨f1, f2, f3⟩
      have n1 : ((3864 : Int) ≤ (k : Int)) = False := eq_false (by omega)
      have v1 : vp_in (zI ((k : Int) + 552)) 4416 := by rw [z_in (by omega)]; omega
      have v2 : vp_in (zI (k : Int)) 4416 := by rw [z_in (by omega)]; omega
      have c1 : (zI ((k : Int) + 552)).toNatClampNeg = k + 552 := by rw [z_cl (by omega)]; omega
      have c2 : (zI (k : Int)).toNatClampNeg = k := by rw [z_cl (by omega)]; omega
      refine ⟨pI b 255 k (gI b 255 (k + 552)), ⟨Fr_p f1 rfl, fun i hi => ?_, fun i hi => ?_⟩, ?_⟩
      · rw [gI_s]
        by_cases hik : i = k
        · subst hik; rw [if_pos rfl]; exact f3 _ (by omega)
        · rw [if_neg (by omega)]; exact f2 i (by omega)
      · rw [gI_s, if_neg (by omega)]; exact f3 i (by omega)
      ·
        (refine ⟨1, by decide, fun n => ?_⟩; dsimp only []; rw [lpX12_keep_11 (n), qpX12_keep_11 (n)]; generalize hlK : lX12_keep (n) = K; generalize hqK : qX12_keep (n) = Q; simp (disch := omega) only [tX12_keep_11, uX12_keep_11, show (3864 : Int32) = zI 3864 from rfl, zl0, zl1, zl34, zl552, z_mul, z_add, z_le, n1, v1, v2, c1, c2, Int.natCast_succ, Int.reduceAdd, Int.reduceSub, Int.reduceMul, Int.reduceNeg, Int.reduceLT, Int.reduceLE, Int.reduceToNat, Int.reduceEq, if_true, if_false, true_and, and_true, not_true, not_false_eq_true, false_implies, true_implies, imp_self, and_self, and_false, false_and, or_true, true_or, or_false, false_or, ite_self, implies_true]; done)
      )
    obtain ⟨b, ⟨f1, f2, f3⟩, stb⟩ := up 3864 0 s (by omega) ⟨Fr_rf _ s, fun i hi => by omega, fun i hi => rfl⟩
    have n3 : (((3864 : Nat) : Int)) = 3864 := rfl
    rw [n3] at stb
    obtain ⟨t, -, -, st3, t1, t2, t3, t4, t5⟩ := two (pI b 248 25 (zI 7)) 7 (by omega) (by rw [gI_s, if_pos rfl]; rfl)
    have st2 : ST 1 (fun n => (lX12_keep n).1 b (zI 3864)) (fun n => (qX12_keep n).1 b (zI 3864)) (fun n => (lX12_keep n).2 (pI b 248 25 (zI 7)) (zI 0)) (fun n => (qX12_keep n).2 (pI b 248 25 (zI 7)) (zI 0)) := by
      (refine ⟨1, by decide, fun n => ?_⟩; dsimp only []; rw [lpX12_keep_11 (n), qpX12_keep_11 (n)]; generalize hlK : lX12_keep (n) = K; generalize hqK : qX12_keep (n) = Q; simp (disch := omega) only [tX12_keep_11, uX12_keep_11, show (3864 : Int32) = zI 3864 from rfl, zl0, zl1, zl7, z_le, Int.le_refl, Int.reduceAdd, Int.reduceSub, Int.reduceMul, Int.reduceNeg, Int.reduceLT, Int.reduceLE, Int.reduceToNat, Int.reduceEq, if_true, if_false, true_and, and_true, not_true, not_false_eq_true, false_implies, true_implies, imp_self, and_self, and_false, false_and, or_true, true_or, or_false, false_or, ite_self, implies_true]; done)
    obtain ⟨E, R⟩ := ST_fu (ST_trans stb (ST_trans st2 st3)) (by omega)
    have e8 : gI s 248 25 = 8 := h25
    unfold mX12_keep rX12_keep fX12_keep
    rw [if_pos e8]
    refine ⟨t, E, ⟨fun hc => absurd e8 hc, fun _ => R⟩, Fr_tr (Fr_p (Fr_mo f1 (fun c hc => Or.inr hc)) (Or.inl rfl)) t1, fun i hi => ?_, t3, fun k hk => ?_, fun j hj k hk => ?_⟩
    · rw [t2 i hi, gI_s, if_neg hi, f1.1 248 (by omega)]
    · rw [if_pos rfl, t4 k hk, gI_n _ _ _ _ (by omega), f1.1 250 (by omega)]
    · rw [if_pos rfl] at hj ⊢
      rw [t5 _ (by omega), gI_n _ _ _ _ (by omega), f2 _ (by omega)]
      congr 1; omega
  · obtain ⟨t, E, R, -, t1, t2, t3, t4, t5⟩ := two s kp (by omega) h25
    have e8 : ¬ gI s 248 25 = 8 := by rw [h25, zl8, z_eq (by omega) (by omega)]; omega
    unfold mX12_keep rX12_keep fX12_keep
    rw [if_neg e8]
    refine ⟨t, E, ⟨fun _ => R, fun hc => absurd hc e8⟩, t1, t2, ?_, fun k hk => ?_, fun j hj k hk => ?_⟩
    · rw [if_neg h8]; exact t3
    · rw [if_neg h8]; exact t4 k hk
    · rw [if_neg h8] at hj ⊢
      exact t5 _ (by omega)
theorem y_keepNoted {nt kp : Nat} (hn : nt < 9) (hk : kp ≤ 8) (h1 : gI s 55 1 = zI (nt : Int)) (h2 : gI s 55 2 = zI (kp : Int)) : Fr (fun c => c = 55) s (mX2_keepNoted s) ∧ gI (mX2_keepNoted s) 55 1 = zI (((nt + 1) % 9 : Nat) : Int) ∧ gI (mX2_keepNoted s) 55 2 = zI ((if kp = 8 then 8 else kp + 1 : Nat) : Int) := by
  have e1 : (gI s 55 1 + 1) - (gI s 55 1 + 1) / 9 * 9 = zI (((nt + 1) % 9 : Nat) : Int) := by
    rw [h1, zl1, zl9, z_add, z_div (by omega) (by omega) (by omega), Int.tdiv_eq_ediv_of_nonneg (by omega), z_mul, z_sub]
    congr 1; omega
  unfold mX2_keepNoted
  rw [e1]
  dsimp only []
  have a2 : gI (pI s 55 1 (zI (((nt + 1) % 9 : Nat) : Int))) 55 2 = zI (kp : Int) := by rw [gI_s, if_neg (show ¬ 2 = 1 by decide)]; exact h2
  rw [a2]
  have a3 : (if 8 < zI (kp : Int) + 1 then (8 : Int32) else zI (kp : Int) + 1) = zI ((if kp = 8 then 8 else kp + 1 : Nat) : Int) := by
    by_cases h8 : kp = 8
    · subst h8; rfl
    · rw [if_neg h8, zl1, zl8, z_add, if_neg (by rw [z_lt (by omega) (by omega)]; omega)]; rfl
  rw [a3]
  refine ⟨Fr_p (Fr_pI s _ _ rfl) rfl, ?_, ?_⟩
  · rw [gI_s, if_neg (show ¬ 1 = 2 by decide), gI_s, if_pos rfl]
  · rw [gI_s, if_pos rfl]
end
