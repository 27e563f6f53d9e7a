-- needs: 42.qa 51.fr 54.copy 55.hist
abbrev kpN (kp : Nat) : Nat := if kp = 8 then 8 else kp + 1
abbrev kpL (kp : Nat) : Nat := if kp = 8 then 7 else kp
theorem HI_new {s t : SM} {g g' : Nat → Int} {nt kp : Nat} (hw : WF g) (hi : HIx s g nt kp) (hg : SP g g') (hwa : WA g') (h1 : gI t 55 1 = zI (((nt + 1) % 9 : Nat) : Int)) (h2 : gI t 55 2 = zI (kpN kp : Int)) (h3 : gI t 248 25 = zI (kpN kp : Int)) (hN : ∀ k, k < 552 → gI t 255 (552 * kpL kp + k) = zI (g (34 + k))) (hO : ∀ j, j < kpL kp → ∀ k, k < 552 → gI t 255 (552 * j + k) = gI s 255 (552 * (if kp = 8 then j + 1 else j) + k)) (hL : LdS t (57 + 12 * nt) g) (hC : ∀ c, 57 ≤ c → c ≤ 164 → (c < 57 + 12 * nt ∨ 57 + 12 * nt + 11 < c) → gI t c = gI s c) : HIx t g' ((nt + 1) % 9) (kpN kp) := by
  obtain ⟨i1, i2, i3, i4, i5, i6, i7⟩ := hi
  refine ⟨Nat.mod_lt _ (by omega), by unfold kpN; split <;> omega, h1, h2, h3, fun j hj => ?_, hwa⟩
  unfold kpN at hj
  unfold kpL at hN hO
  by_cases hjl : j = (if kp = 8 then 7 else kp)
  · -- the new row
    refine ⟨g, ⟨hw, i7⟩, fun k hk => (hg k hk).symm, ?_, fun k hk => by rw [hjl]; exact hN k hk⟩
    have e : rowL ((nt + 1) % 9) (kpN kp) j = 57 + 12 * nt := by
      unfold rowL kpN
      by_cases h8 : kp = 8
      · rw [if_pos h8] at hjl ⊢; omega
      · rw [if_neg h8] at hjl ⊢; omega
    rw [e]; exact hL
  · by_cases h8 : kp = 8
    · rw [if_pos h8] at hj hjl hN hO
      have e : rowL ((nt + 1) % 9) (kpN kp) j = rowL nt kp (j + 1) := by
        unfold rowL kpN
        rw [if_pos h8]; omega
      obtain ⟨u, u1, u2, u3, u4⟩ := i6 (j + 1) (by omega)
      refine ⟨u, u1, fun k hk => by rw [u2 k hk, hg k hk], ?_, fun k hk => by rw [hO j (by omega) k hk, if_pos h8]; exact u4 k hk⟩
      rw [e]
      have hr : 57 ≤ rowL nt kp (j + 1) ∧ rowL nt kp (j + 1) + 11 ≤ 164 ∧ (rowL nt kp (j + 1) + 11 < 57 + 12 * nt ∨ 57 + 12 * nt + 11 < rowL nt kp (j + 1)) := by unfold rowL; omega
      exact LdS_fr (A := fun c => c < rowL nt kp (j + 1) ∨ rowL nt kp (j + 1) + 11 < c) (s := (gI s, gL t, gD t, t.2.2.2)) (L := rowL nt kp (j + 1)) u3 ⟨fun c hc => hC c (by omega) (by omega) (by omega), rfl, rfl⟩ (fun c _ _ => by omega)
    · rw [if_neg h8] at hj hjl hN hO
      have e : rowL ((nt + 1) % 9) (kpN kp) j = rowL nt kp j := by
        unfold rowL kpN
        rw [if_neg h8]; omega
      obtain ⟨u, u1, u2, u3, u4⟩ := i6 j (by omega)
      refine ⟨u, u1, fun k hk => by rw [u2 k hk, hg k hk], ?_, fun k hk => by rw [hO j (by omega) k hk, if_neg h8]; exact u4 k hk⟩
      rw [e]
      have hr : 57 ≤ rowL nt kp j ∧ rowL nt kp j + 11 ≤ 164 ∧ (rowL nt kp j + 11 < 57 + 12 * nt ∨ 57 + 12 * nt + 11 < rowL nt kp j) := by unfold rowL; omega
      exact LdS_fr (A := fun c => c < rowL nt kp j ∨ rowL nt kp j + 11 < c) (s := (gI s, gL t, gD t, t.2.2.2)) (L := rowL nt kp j) u3 ⟨fun c hc => hC c (by omega) (by omega) (by omega), rfl, rfl⟩ (fun c _ _ => by omega)
/-- what acts touch -/
def ActC (c i : Nat) : Prop := (31 ≤ c ∧ c ≤ 42) ∨ (57 ≤ c ∧ c ≤ 164) ∨ c = 55 ∨ c = 250 ∨ c = 255 ∨ (c = 248 ∧ (i = 0 ∨ i = 25))
/-- what stays, place by place -/
def Fp (A : Nat → Nat → Prop) (s t : SM) : Prop := (∀ c i, ¬ A c i → gI t c i = gI s c i) ∧ gL t = gL s ∧ t.2.2.2 = s.2.2.2
theorem Fp_rf (A : Nat → Nat → Prop) (s : SM) : Fp A s s := ⟨fun _ _ _ => rfl, rfl, rfl⟩
theorem Fp_tr {A : Nat → Nat → Prop} {s t u : SM} (h1 : Fp A s t) (h2 : Fp A t u) : Fp A s u := ⟨fun c i hc => (h2.1 c i hc).trans (h1.1 c i hc), h2.2.1.trans h1.2.1, h2.2.2.trans h1.2.2⟩
theorem Fp_fr {A : Nat → Nat → Prop} {B : Nat → Prop} {s t : SM} (h : Fr B s t) (hAB : ∀ c, B c → ∀ i, A c i) : Fp A s t := ⟨fun c i hc => by rw [h.1 c (fun hb => hc (hAB c hb i))], h.2⟩
theorem Fp_p {A : Nat → Nat → Prop} (s : SM) {c i : Nat} {v : Int32} (h : A c i) : Fp A s (pI s c i v) := ⟨fun c' i' hc => by rw [gI_pI, if_neg (fun hq => hc (by rw [hq.1, hq.2]; exact h))], rfl, rfl⟩
theorem Fp_mo {A B : Nat → Nat → Prop} {s t : SM} (h : Fp A s t) (hAB : ∀ c i, A c i → B c i) : Fp B s t := ⟨fun c i hc => h.1 c i (fun ha => hc (hAB c i ha)), h.2⟩
section
variable {s : SM} {g : Nat → Int}
/-- an act refused: the row that isn't kept was written, and the reference said that nothing is thrown -/
theorem act_no (h : LdR s 31 5 g) (h2 : RR s g) (hw : WF g) (hi : HI s g) {t : SM} (ht : Fr (fun _ => False) (mX2_note s 31 5) t) : LdR (Th t) 31 5 g ∧ RR (Th t) g ∧ HI (Th t) g ∧ Fp ActC s (Th t) := by
  obtain ⟨nt, kp, hi⟩ := hi
  obtain ⟨n1, n2, n3, n4, n5⟩ := HIx_note h hw hi
  have f := Fr_tr (Fr_mo n3 (B := fun c => InL (57 + 12 * nt) c ∨ c = 248) (fun c hc => Or.inl hc)) (Fr_mo ht (fun c hc => absurd hc (fun h => h)))
  have f2 : Fr (fun c => InL (57 + 12 * nt) c ∨ c = 248) s (Th t) := Fr_p f (Or.inr rfl)
  have hnt := hi.1
  have e : ∀ c, c ≠ 248 → gI (Th t) c = gI (mX2_note s 31 5) c := fun c hc => by
    funext i; rw [gI_n _ _ _ _ hc]; exact congrFun (ht.1 c (fun h => h)) i
  refine ⟨LdR_fr h f2 (fun c hc => by omega), RR_fr h2 f2 (by omega), ⟨nt, kp, ?_⟩, ?_⟩
  · obtain ⟨i1, i2, i3, i4, i5, i6, i7⟩ := n1
    refine ⟨i1, i2, ?_, ?_, ?_, fun j hj => HRow_fr (i6 j hj) (fun _ _ => rfl) (fun c h1 h2 => e c (by unfold rowL at h1 h2; omega)) (e 255 (by omega)), i7⟩
    · rw [e 55 (by omega)]; exact i3
    · rw [e 55 (by omega)]; exact i4
    · rw [gI_s, if_neg (by omega), ht.1 248 (fun h => h)]; exact i5
  · refine ⟨fun c i hc => ?_, f2.2⟩
    unfold ActC at hc
    by_cases h248 : c = 248
    · subst h248
      rw [gI_s, if_neg (by omega), ht.1 248 (fun h => h), n3.1 248 (by omega)]
    · rw [e c h248, n3.1 c (by omega)]
/-- an act done -/
theorem act_ok (h : LdR s 31 5 g) (h2 : RR s g) (hw : WF g) (hi : HI s g) {t2 t6 : SM} {g' : Nat → Int} (hg : SP g g') (hwa : WA g') (f2 : Fr (InL 31) (mX2_note s 31 5) t2) (l2 : LdR t2 31 5 g') (f6 : Fr (fun c => c = 250) (mX12_keep (Th (mX2_keepNoted t2))) t6) (r6 : RR t6 g') : LdR t6 31 5 g' ∧ HI t6 g' ∧ Fp ActC s t6 := by
  obtain ⟨nt, kp, hi⟩ := hi
  obtain ⟨n1, n2, n3, n4, n5⟩ := HIx_note h hw hi
  have i1 := hi.1
  have i2 := hi.2.1
  have b1 : gI t2 55 1 = zI (nt : Int) := by rw [f2.1 55 (by omega)]; exact n1.2.2.1
  have b2 : gI t2 55 2 = zI (kp : Int) := by rw [f2.1 55 (by omega)]; exact n1.2.2.2.1
  obtain ⟨k1, k2, k3⟩ := y_keepNoted i1 i2 b1 b2
  have b3 : gI (Th (mX2_keepNoted t2)) 248 25 = zI (kp : Int) := by
    rw [gI_s, if_neg (by omega), k1.1 248 (by omega), f2.1 248 (by omega)]; exact n1.2.2.2.2.1
  obtain ⟨t, e, -, f5, q1, q2, q3, q4⟩ := x_keep (Th (mX2_keepNoted t2)) i2 b3
  rw [e] at f6
  have fT : Fr (fun c => c = 248) (mX2_keepNoted t2) (Th (mX2_keepNoted t2)) := Fr_pI _ _ _ rfl
  -- from t2 to the end
  have f3 : Fr (fun c => c = 55 ∨ c = 248 ∨ c = 250 ∨ c = 255) t2 t6 := Fr_tr (Fr_mo k1 (fun c hc => by omega)) (Fr_tr (Fr_mo fT (fun c hc => by omega)) (Fr_tr (Fr_mo f5 (fun c hc => by omega)) (Fr_mo f6 (fun c hc => by omega))))
  have f4 : Fr (fun c => InL 31 c ∨ InL (57 + 12 * nt) c ∨ c = 55 ∨ c = 248 ∨ c = 250 ∨ c = 255) s t6 := Fr_tr (Fr_mo n3 (fun c hc => Or.inr (Or.inl hc))) (Fr_tr (Fr_mo f2 (fun c hc => Or.inl hc)) (Fr_mo f3 (fun c hc => Or.inr (Or.inr hc))))
  have h250 : gI (Th (mX2_keepNoted t2)) 250 = gI s 250 := by
    rw [fT.1 250 (by omega), k1.1 250 (by omega), f2.1 250 (by omega), n3.1 250 (by omega)]
  have h255 : gI (Th (mX2_keepNoted t2)) 255 = gI s 255 := by
    rw [fT.1 255 (by omega), k1.1 255 (by omega), f2.1 255 (by omega), n3.1 255 (by omega)]
  have h248 : ∀ i, i ≠ 0 → i ≠ 25 → gI t6 248 i = gI s 248 i := fun i hi0 hi25 => by
    rw [f6.1 248 (by omega), q1 i hi25, gI_s, if_neg (by omega), k1.1 248 (by omega), f2.1 248 (by omega), n3.1 248 (by omega)]
  refine ⟨LdR_fr l2 f3 (fun c hc => by omega), ⟨_, _, HI_new (t := t6) hw hi hg hwa ?_ ?_ ?_ (fun k hk => ?_) (fun j hj k hk => ?_) ?_ (fun c h1 h2 h3 => ?_)⟩, fun c i hc => ?_, f4.2⟩
  · rw [f6.1 55 (by omega), f5.1 55 (by omega), fT.1 55 (by omega)]; exact k2
  · rw [f6.1 55 (by omega), f5.1 55 (by omega), fT.1 55 (by omega)]; exact k3
  · rw [f6.1 248 (by omega)]; exact q2
  · rw [f6.1 255 (by omega), q3 k hk, h250]; exact h2 _
  · rw [f6.1 255 (by omega), q4 j hj k hk, h255]
  · refine LdS_fr (LdS_fr n2 f2 (fun c h1 h2 => by omega)) f3 (fun c h1 h2 => by omega)
  · rw [f4.1 c (by omega)]
  · unfold ActC at hc
    by_cases h2c : c = 248
    · subst h2c; exact h248 i (by omega) (by omega)
    · rw [f4.1 c (by omega)]
/-- undo, of the class -/
theorem y_takeBack (h : LdR s 31 5 g) (hw : WF g) {nt kp : Nat} (hi : HIx s g nt (kp + 1)) {u : Nat → Int} (hu : WF u) (hl : LdS s (rowL nt (kp + 1) kp) u) : vX11_undo s = zI (kp : Int) ∧ rX11_undo s ∧ LdS (mX11_undo s) 31 u ∧ Fr (fun c => InL 31 c ∨ c = 55) s (mX11_undo s) ∧ gI (mX11_undo s) 55 1 = zI (((nt + 8) % 9 : Nat) : Int) ∧ gI (mX11_undo s) 55 2 = zI (kp : Int) := by
  obtain ⟨i1, i2, i3, i4, i5, i6, i7⟩ := hi
  have hr : rowL nt (kp + 1) kp = 57 + 12 * ((nt + 8) % 9) := by unfold rowL; omega
  rw [hr] at hl
  have hq9 : (nt + 8) % 9 < 9 := Nat.mod_lt _ (by omega)
  obtain ⟨r1, r2, r3, r4⟩ := rf_r hq9
  have e1 : ((gI s 55 1 + 9) - 1) - ((gI s 55 1 + 9) - 1) / 9 * 9 = zI (((nt + 8) % 9 : Nat) : Int) := by
    rw [i3, zl1, zl9, z_add, z_sub, z_div (by omega) (by omega) (by omega), Int.tdiv_eq_ediv_of_nonneg (by omega), z_mul, z_sub]
    congr 1; omega
  have e0 : ¬ gI s 55 2 = 0 := by rw [i4, zl0, z_eq (by omega) (by omega)]; omega
  generalize hq : (nt + 8) % 9 = q at *
  obtain ⟨s1, hs1⟩ : ∃ s1, s1 = pI s 55 1 (zI (q : Int)) := ⟨_, rfl⟩
  have e2 : gI s1 55 2 - 1 = zI (kp : Int) := by
    rw [hs1, gI_s, if_neg (show ¬ 2 = 1 by decide), i4, zl1, z_sub]
    congr 1; omega
  obtain ⟨s2, hs2⟩ : ∃ s2, s2 = pI s1 55 2 (zI (kp : Int)) := ⟨_, rfl⟩
  have e3 : gI s2 55 1 = zI (q : Int) := by rw [hs2, gI_s, if_neg (show ¬ 1 = 2 by decide), hs1, gI_s, if_pos rfl]
  have e4 : gI s2 55 2 = zI (kp : Int) := by rw [hs2, gI_s, if_pos rfl]
  have cQ : (zI (q : Int)).toNatClampNeg = q := by rw [z_cl (by omega)]; exact Int.toNat_natCast q
  have vQ : vp_in (zI (q : Int)) 9 := by rw [z_in (by omega)]; omega
  have f2 : Fr (fun c => c = 55) s s2 := by rw [hs2, hs1]; exact Fr_p (Fr_pI s _ _ rfl) rfl
  have hl2 : LdS s2 (57 + 12 * q) u := LdS_fr hl f2 (fun c h1 h2 => by omega)
  obtain ⟨c1, c2, c3⟩ := y_copy (P0 := 5) (P1 := 5) (L0 := 31) hl2 hu (by omega)
  have hm : mX11_undo s = mX4_copyFrom s2 31 5 (57 + 12 * q) 5 := by
    unfold mX11_undo mX2_takeBack
    rw [if_neg e0, e1]
    dsimp only []
    rw [← hs1, e2, ← hs2, e3, cQ, r2, r3]
  have hv : vX11_undo s = gI (mX4_copyFrom s2 31 5 (57 + 12 * q) 5) 55 2 := by
    unfold vX11_undo vX2_takeBack
    rw [if_neg e0, e1]
    dsimp only []
    rw [← hs1, e2, ← hs2, e3, cQ, r2, r3]
  refine ⟨?_, ?_, ?_, ?_, ?_, ?_⟩
  · rw [hv, c2.1 55 (by omega)]; exact e4
  · unfold rX11_undo rX2_takeBack
    intro _ t1 ht1
    rw [e1, ← hs1] at ht1
    subst ht1
    rw [e2, ← hs2, e3, cQ, r2, r3, r1]
    exact ⟨vQ, rfl, r4, c3⟩
  · rw [hm]; exact c1
  · rw [hm]; exact Fr_tr (Fr_mo f2 (fun c hc => Or.inr hc)) (Fr_mo c2 (fun c hc => Or.inl hc))
  · rw [hm, c2.1 55 (by omega)]; exact e3
  · rw [hm, c2.1 55 (by omega)]; exact e4
def undZ (u g : Nat → Int) : Nat → Int := fun k => if k < 586 then u k else g k
theorem x_undo {kp : Nat} (h2 : RR s g) {u : Nat → Int} (hu : SP g u) (hk : kp + 1 ≤ 8) (h25 : gI s 248 25 = zI (((kp + 1 : Nat)) : Int)) (hr : ∀ k, k < 552 → gI s 255 (552 * kp + k) = zI (u (34 + k))) : ∃ t, mX12_undo s = t ∧ vX12_undo s = zI (kp : Int) ∧ rX12_undo s ∧ Fr (fun c => c = 248 ∨ c = 250) s t ∧ (∀ i, i ≠ 0 → i ≠ 25 → gI t 248 i = gI s 248 i) ∧ gI t 248 25 = zI (kp : Int) ∧ RR t (undZ u g) := by
  have e25 : gI (pI s 248 0 (0)) 248 25 = zI (((kp + 1 : Nat)) : Int) := by rw [gI_s, if_neg (show ¬ 25 = 0 by decide)]; exact h25
  have e0 : ¬ gI (pI s 248 0 (0)) 248 25 = 0 := by rw [e25, zl0, z_eq (by omega) (by omega)]; omega
  have e1 : gI (pI s 248 0 (0)) 248 25 - 1 = zI (kp : Int) := by rw [e25, zl1, z_sub]; congr 1; omega
  obtain ⟨s1, hs1⟩ : ∃ s1, s1 = pI (pI s 248 0 (0)) 248 25 (zI (kp : Int)) := ⟨_, rfl⟩
  have f1 : Fr (fun c => c = 248) s s1 := by rw [hs1]; exact Fr_p (Fr_pI s _ _ rfl) rfl
  have k25 : gI s1 248 25 = zI (kp : Int) := by rw [hs1, gI_s, if_pos rfl]
  have up := ST_up (B := 1) 552 (fun k (b : SM) => Fr (fun c => c = 250) s1 b ∧ (∀ i, gI b 250 i = zI (if 34 ≤ i ∧ i < 34 + k then u i else g i)))
    (fun k b n => lX12_undo n b (zI (k : Int))) (fun k b n => qX12_undo n b (zI (k : Int))) (by
    rintro k b hk ⟨f2, f3⟩
    have e25 : gI b 248 25 = zI (kp : Int) := by rw [f2.1 248 (by omega)]; exact k25
    have n1 : ((552 : Int) ≤ (k : Int)) = False := eq_false (by omega)
    have v1 : vp_in (zI (34 + (k : Int))) 787 := by rw [z_in (by omega)]; omega
    have v2 : vp_in (zI (552 * (kp : Int) + (k : Int))) 4416 := by rw [z_in (by omega)]; omega
    have c1 : (zI (34 + (k : Int))).toNatClampNeg = 34 + k := by rw [z_cl (by omega)]; omega
    have c2 : (zI (552 * (kp : Int) + (k : Int))).toNatClampNeg = 552 * kp + k := by rw [z_cl (by omega)]; omega
    have c3 : gI b 255 (552 * kp + k) = zI (u (34 + k)) := by rw [f2.1 255 (by omega), f1.1 255 (by omega)]; exact hr k hk
    refine ⟨pI b 250 (34 + k) (zI (u (34 + k))), ⟨Fr_p f2 rfl, fun i => ?_⟩, ST_1 fun n => ?_⟩
    · rw [gI_s]
      by_cases hik : i = 34 + k
      · subst hik; rw [if_pos rfl, if_pos (by omega)]
      · rw [if_neg hik, f3 i]
        by_cases hh : 34 ≤ i ∧ i < 34 + k
        · rw [if_pos hh, if_pos (by omega)]
        · rw [if_neg hh, if_neg (by omega)]
    · simp (disch := omega) only [lX12_undo, qX12_undo, tX12_undo_26, uX12_undo_26, e25, zl0, zl1, zl34, zl552, z_mul, z_add, z_le, n1, v1, v2, c1, c2, c3, Int.natCast_succ, Int.reduceAdd, Int.reduceSub, Int.reduceMul, Int.reduceNeg, Int.reduceLT, Int.reduceLE, Int.reduceToNat, Int.reduceEq, if_true, if_false, true_and, and_true, not_true, not_false_eq_true, false_implies, true_implies, imp_self, and_self, and_false, false_and, or_true, true_or, or_false, false_or, ite_self, implies_true])
  obtain ⟨b, ⟨f2, f3⟩, stb⟩ := up 552 0 s1 (by omega) ⟨Fr_rf _ s1, fun i => by rw [if_neg (by omega), f1.1 250 (by omega)]; exact h2 i⟩
  have k25b : gI b 248 25 = zI (kp : Int) := by rw [f2.1 248 (by omega)]; exact k25
  obtain ⟨E, R⟩ := ST_fu (ST_trans stb (ST_1 (F' := fun _ => (zI (kp : Int), b)) (C' := fun _ => True) (fun n => by
    simp (disch := omega) only [lX12_undo, qX12_undo, tX12_undo_26, uX12_undo_26, show (((552 : Nat) : Int)) = 552 from rfl, k25b, zl0, zl1, zl34, zl552, z_le, Int.le_refl, Int.reduceAdd, Int.reduceSub, Int.reduceMul, Int.reduceNeg, Int.reduceLT, Int.reduceLE, Int.reduceToNat, Int.reduceEq, if_true, if_false, true_and, and_true, not_true, not_false_eq_true, false_implies, true_implies, imp_self, and_self, and_false, false_and, or_true, true_or, or_false, false_or, ite_self, implies_true]))) (by omega)
  have E' : lX12_undo FU s1 0 = (zI (kp : Int), b) := E
  unfold mX12_undo vX12_undo rX12_undo fX12_undo
  rw [if_neg e0, e1, ← hs1, E']
  refine ⟨b, rfl, rfl, fun _ => R, Fr_tr (Fr_mo f1 (fun c hc => Or.inl hc)) (Fr_mo f2 (fun c hc => Or.inr hc)), fun i hi0 hi25 => ?_, k25b, fun i => ?_⟩
  · rw [f2.1 248 (by omega), hs1, gI_s, if_neg hi25, gI_s, if_neg hi0]
  · rw [f3 i]
    unfold undZ
    by_cases h5 : i < 586
    · rw [if_pos h5]
      by_cases hh : 34 ≤ i ∧ i < 34 + 552
      · rw [if_pos hh]
      · rw [if_neg hh, hu i (by omega)]
    · rw [if_neg h5, if_neg (by omega)]
theorem q_undo (h : LdR s 31 5 g) (h2 : RR s g) (hw : WF g) (hi : HI s g) : rX11_undo s ∧ rX12_undo (mX11_undo s) ∧ vX11_undo s = vX12_undo (mX11_undo s) ∧ ∃ g', WF g' ∧ SP g g' ∧ (∀ k, 586 ≤ k → g' k = g k) ∧ LdR (mX12_undo (mX11_undo s)) 31 5 g' ∧ RR (mX12_undo (mX11_undo s)) g' ∧ HI (mX12_undo (mX11_undo s)) g' ∧ Fp ActC s (mX12_undo (mX11_undo s)) := by
  obtain ⟨nt, kp, hi⟩ := hi
  have hi0 := hi
  obtain ⟨i1, i2, i3, i4, i5, i6, i7⟩ := hi
  by_cases hk : kp = 0
  · subst hk
    have y0 : gI s 55 2 = 0 := i4
    have x0 : gI (pI s 248 0 (0)) 248 25 = 0 := by rw [gI_s, if_neg (show ¬ 25 = 0 by decide)]; exact i5
    have m1 : mX11_undo s = s := by unfold mX11_undo mX2_takeBack; rw [if_pos y0]
    have m2 : mX12_undo s = Th s := by unfold mX12_undo fX12_undo; rw [if_pos x0]; rfl
    rw [m1, m2]
    refine ⟨?_, ?_, ?_, g, hw, fun _ _ => rfl, fun _ _ => rfl, LdR_fr h (Fr_pI s 0 _ (A := fun c => c = 248) rfl) (fun c hc => by omega), Th_R h2, ⟨nt, 0, i1, i2, ?_, ?_, ?_, fun j hj => by omega, i7⟩, Fp_p s (by unfold ActC; omega)⟩
    · unfold rX11_undo rX2_takeBack; intro hc; exact absurd y0 hc
    · unfold rX12_undo; intro hc; exact absurd x0 hc
    · unfold vX11_undo vX2_takeBack vX12_undo fX12_undo; rw [if_pos y0, if_pos x0]
    · rw [gI_n _ _ _ _ (by omega)]; exact i3
    · rw [gI_n _ _ _ _ (by omega)]; exact i4
    · rw [gI_s, if_neg (show ¬ 25 = 0 by decide)]; exact i5
  · obtain ⟨kp, rfl⟩ : ∃ k, kp = k + 1 := ⟨kp - 1, by omega⟩
    obtain ⟨u, u1, u2, u3, u4⟩ := i6 kp (by omega)
    obtain ⟨a1, a2, a3, a4, a5, a6⟩ := y_takeBack h hw hi0 u1.1 u3
    have rr := RR_fr h2 a4 (by omega)
    obtain ⟨t, e, b1, b2, b3, b4, b5, b6⟩ := x_undo (kp := kp) rr u2 (by omega) (by rw [a4.1 248 (by omega)]; exact i5) (fun k hk => by rw [a4.1 255 (by omega)]; exact u4 k hk)
    have sq : SQ u (undZ u g) := fun k hk => by unfold undZ; rw [if_pos hk]
    have sp : SP g (undZ u g) := fun k hk => by rw [sq k (by omega), u2 k hk]
    rw [e]
    have fT : Fr (fun c => InL 31 c ∨ c = 55 ∨ c = 248 ∨ c = 250) s t := Fr_tr (Fr_mo a4 (fun c hc => by omega)) (Fr_mo b3 (fun c hc => by omega))
    refine ⟨a2, b2, by rw [a1, b1], undZ u g, WF_sq u1.1 sq, sp, fun k hk => by unfold undZ; rw [if_neg (by omega)], ⟨?_, ?_⟩, b6, ⟨(nt + 8) % 9, kp, Nat.mod_lt _ (by omega), by omega, ?_, ?_, b5, fun j hj => ?_, WA_sq u1.1 u1.2 sq⟩, fun c i hc => ?_, fT.2⟩
    · exact PoR_sp (PoR_fr h.1 fT (fun c h1 h2 => by omega)) hw sp
    · exact LdS_sq (LdS_fr a3 b3 (fun c h1 h2 => by omega)) u1.1 sq
    · rw [b3.1 55 (by omega)]; exact a5
    · rw [b3.1 55 (by omega)]; exact a6
    · have e : rowL ((nt + 8) % 9) kp j = rowL nt (kp + 1) j := by unfold rowL; omega
      have := i6 j (by omega)
      unfold HRow at this ⊢
      rw [e]
      obtain ⟨v, v1, v2, v3, v4⟩ := this
      have hr : 57 ≤ rowL nt (kp + 1) j ∧ rowL nt (kp + 1) j + 11 ≤ 164 := by unfold rowL; omega
      refine ⟨v, v1, fun k hk => by rw [v2 k hk, sp k hk], LdS_fr v3 fT (fun c h1 h2 => by omega), fun k hk => by rw [fT.1 255 (by omega)]; exact v4 k hk⟩
    · unfold ActC at hc
      by_cases h2c : c = 248
      · subst h2c; rw [b4 i (by omega) (by omega), a4.1 248 (by omega)]
      · rw [fT.1 c (by omega)]
end
