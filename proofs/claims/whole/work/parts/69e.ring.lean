-- needs: 69d.cut
/-- the ring told latest -/
def RgT (s : SM) : Prop := ∃ n : Nat, n ≤ 5 ∧ gI s 2 15 = zI (n : Int) ∧ gI s 248 30 = zI (n : Int) ∧ ∀ i, i < n → gI s 246 i = gI s 258 i
abbrev RinC (c i : Nat) : Prop := FreeC c i ∨ (c = 2 ∧ i = 15) ∨ c = 246 ∨ c = 258 ∨ (c = 248 ∧ i = 30)
theorem YO_ix {c c' : Nat} {s t : SM} : ∀ {q : List Nat}, MPx c s q → MPx c' t q → ∀ i, i < q.length → gI s c i = gI t c' i := by
  intro q
  induction q with
  | nil => intro _ _ i hi; exact absurd hi (by simp)
  | cons w P ih =>
    intro h1 h2 i hi
    rw [List.length_cons] at hi
    by_cases hq : i = P.length
    · rw [hq, h1.1, h2.1]
    · exact ih h1.2 h2.2 i (by omega)
section
variable {s : SM} {g : Nat → Int}
theorem q_ring (h : LdR s 31 5 g) (h2 : RR s g) (hw : WF g) (hi : HI s g) (hr : RgT s) : rX11_ring s ∧ rX12_ring (mX11_ring s) ∧ vX11_ring s = vX12_ring (mX11_ring s) ∧ LdR (mX12_ring (mX11_ring s)) 31 5 g ∧ RR (mX12_ring (mX11_ring s)) g ∧ HI (mX12_ring (mX11_ring s)) g ∧ RgT (mX12_ring (mX11_ring s)) ∧ Fp RinC s (mX12_ring (mX11_ring s)) := by
  have h0 := hw.w0
  obtain ⟨s1, o, e1, e2, e3, e4, e5, e6, e7, e8⟩ := y_findBest h hw (by decide) (by decide)
  have r1 : RR s1 g := RR_fp h2 e5 (fun i => by omega)
  have hB : BestO g o := ⟨e7, e8⟩
  have key : ∀ t4, RR t4 g → ∃ s' b, mX12_bestOf t4 (-1) = s' ∧ vX12_bestOf t4 (-1) = zI b ∧ rX12_bestOf t4 (-1) ∧ Fp BoA t4 s' ∧ HO s' g b o ∧ (o = none → b = -1) ∧ (∀ q, o = some q → 0 ≤ b ∧ b ≤ 90 ∧ b = fsR g q) := fun t4 r4 => by
    obtain ⟨s', o', b, c1, c2, c3, c4, c5, c6, c7, c8⟩ := x_bestO r4 hw
    have := BestO_1 hw c6 hB
    subst this
    exact ⟨s', b, c1, c2, c3, c4, c5, c7, c8⟩
  have fin : ∀ t : SM, Fp (fun c i => (218 ≤ c ∧ c ≤ 224) ∨ c = 256 ∨ c = 257 ∨ (c = 248 ∧ (i = 0 ∨ i = 29 ∨ i = 30)) ∨ (c = 2 ∧ i = 15) ∨ c = 246 ∨ c = 258) s t → LdR t 31 5 g ∧ RR t g ∧ HI t g ∧ Fp RinC s t := fun t hf =>
    ⟨LdR_fp h hf (fun c i hc => by omega), RR_fp h2 hf (fun i => by omega), HI_fp hi (fun _ _ => rfl) hf (fun c i hc => by omega), Fp_mo hf (fun c i hc => by unfold RinC FreeC; omega)⟩
  cases o with
  | none =>
    have v0 := e2 rfl
    have E : fX11_ring s = (-1, s1) := by unfold fX11_ring; rw [v0, if_pos rfl, e1]
    have em : mX11_ring s = s1 := by unfold mX11_ring; rw [E]
    have ev : vX11_ring s = -1 := by unfold vX11_ring; rw [E]
    obtain ⟨s', b, c1, c2, c3, c4, c5, c6, c7⟩ := key _ (Th_R r1)
    have c1 : mX12_bestOf (pI s1 248 0 0) (-1) = s' := c1
    have c2 : vX12_bestOf (pI s1 248 0 0) (-1) = zI b := c2
    have c3 : rX12_bestOf (pI s1 248 0 0) (-1) := c3
    have nb : ¬ (0 : Int32) ≤ zI b := by rw [c6 rfl]; decide
    have E2 : fX12_ring s1 = (-1, s') := by unfold fX12_ring; rw [c2, if_neg nb, c1]
    have em2 : mX12_ring s1 = s' := by unfold mX12_ring; rw [E2]
    have hf : Fp (fun c i => (218 ≤ c ∧ c ≤ 224) ∨ c = 256 ∨ c = 257 ∨ (c = 248 ∧ (i = 0 ∨ i = 29 ∨ i = 30)) ∨ (c = 2 ∧ i = 15) ∨ c = 246 ∨ c = 258) s s' := Fp_tr (Fp_mo e5 (fun c i hc => by omega)) (Fp_tr (Fp_p s1 (i := 0) (v := zI 0) (c := 248) (by omega)) (Fp_mo c4 (fun c i hc => by omega)))
    have hf2 : Fp (fun c i => (218 ≤ c ∧ c ≤ 224) ∨ c = 256 ∨ c = 257 ∨ (c = 248 ∧ (i = 0 ∨ i = 29))) s s' := Fp_tr (Fp_mo e5 (fun c i hc => by omega)) (Fp_tr (Fp_p s1 (i := 0) (v := zI 0) (c := 248) (by omega)) (Fp_mo c4 (fun c i hc => by omega)))
    obtain ⟨a1, a2, a3, a4⟩ := fin s' hf
    rw [em, ev, em2]
    refine ⟨⟨e4, fun hc => absurd v0 hc⟩, ?_, ?_, a1, a2, a3, ?_, a4⟩
    · unfold rX12_ring; rw [c2]; exact ⟨c3, fun hc => absurd hc nb⟩
    · unfold vX12_ring; rw [E2]
    · obtain ⟨n, k1, k2, k3, k4⟩ := hr
      exact ⟨n, k1, by rw [hf2.1 2 15 (by omega)]; exact k2, by rw [hf2.1 248 30 (by omega)]; exact k3, fun i hi => by rw [hf2.1 246 i (by omega), hf2.1 258 i (by omega)]; exact k4 i hi⟩
  | some q =>
    have v1 := e3 q rfl
    have hq := e7 q rfl
    have l := hq.2.1
    have n0 : ¬ vX7_findBest s 31 5 = 0 := by rw [v1]; decide
    obtain ⟨y1, y2, y3, y4⟩ := e6
    obtain ⟨s2, hs2⟩ : ∃ s2, s2 = pI s1 2 15 (zI (q.length : Int)) := ⟨_, rfl⟩
    have up := ST_up (B := 1) 5 (fun k (a : SM) => Fr (fun c => c = 246) s2 a ∧ ∀ j, j < k → gI a 246 j = gI s1 219 j) (fun k a n => lX11_ring n a (zI (k : Int))) (fun k a n => qX11_ring n a (zI (k : Int))) (by
      rintro k a hk ⟨f1, f2⟩
      have ck : (zI (k : Int)).toNatClampNeg = k := by rw [z_cl (by omega)]; exact Int.toNat_natCast _
      have vk : vp_in (zI (k : Int)) 5 := by rw [z_in (by omega)]; omega
      have n5 : ((5 : Int) ≤ (k : Int)) = False := eq_false (by omega)
      have g2 : gI a 219 k = gI s1 219 k := by rw [f1.1 219 (by omega), hs2, gI_n _ _ _ _ (by omega)]
      refine ⟨pI a 246 k (gI s1 219 k), ⟨Fr_p f1 rfl, fun j hj => ?_⟩, ST_1 fun n => ?_⟩
      · rw [gI_s]
        by_cases hjk : j = k
        · rw [if_pos hjk, hjk]
        · rw [if_neg hjk]; exact f2 j (by omega)
      · simp (disch := omega) only [lX11_ring, qX11_ring, tX11_ring_29, uX11_ring_29, ck, vk, g2, zl1, zl5, z_add, z_le, n5, Int.natCast_succ, if_true, if_false, true_and, and_true, not_true, not_false_eq_true, false_implies, true_implies, imp_self, and_self, and_false, false_and, or_true, true_or, or_false, false_or, ite_self, implies_true])
    obtain ⟨s3, ⟨f1, f2⟩, st⟩ := up 5 0 s2 (by omega) ⟨Fr_rf _ s2, fun j hj => by omega⟩
    have g2 : gI s3 218 2 = zI (fsR g q) := by rw [f1.1 218 (by omega), hs2, gI_n _ _ _ _ (by omega)]; exact y2
    obtain ⟨E, R⟩ := ST_fu (ST_trans st (ST_1 (F' := fun _ => (zI (fsR g q), s3)) (C' := fun _ => True) (fun n => by
      simp (disch := omega) only [lX11_ring, qX11_ring, tX11_ring_29, uX11_ring_29, g2, show (((5 : Nat) : Int)) = 5 from rfl, ← zl5, Int32.le_refl, not_true, false_implies, if_true, if_false, true_and, and_true, not_true, not_false_eq_true, false_implies, true_implies, imp_self, and_self, and_false, false_and, or_true, true_or, or_false, false_or, ite_self, implies_true]))) (by omega)
    have E1 : fX11_ring s = (zI (fsR g q), s3) := by unfold fX11_ring; rw [if_neg n0, e1, y1, ← hs2]; exact E
    have em : mX11_ring s = s3 := by unfold mX11_ring; rw [E1]
    have ev : vX11_ring s = zI (fsR g q) := by unfold vX11_ring; rw [E1]
    have hf3 : Fp (fun c i => (218 ≤ c ∧ c ≤ 224) ∨ c = 246 ∨ (c = 2 ∧ i = 15)) s s3 := Fp_tr (Fp_mo e5 (fun c i hc => by omega)) (Fp_tr (by rw [hs2]; exact Fp_p s1 (by omega)) (Fp_fr f1 (fun c hc i => by omega)))
    have r3 : RR s3 g := RR_fp h2 hf3 (fun i => by omega)
    obtain ⟨s4, b, c1, c2, c3, c4, c5, c6, c7⟩ := key _ (Th_R r3)
    have c1 : mX12_bestOf (pI s3 248 0 0) (-1) = s4 := c1
    have c2 : vX12_bestOf (pI s3 248 0 0) (-1) = zI b := c2
    have c3 : rX12_bestOf (pI s3 248 0 0) (-1) := c3
    have hb := c7 q rfl
    have nb : (0 : Int32) ≤ zI b := by rw [zl0, z_le (by omega) (by omega)]; omega
    have g29 : gI s4 248 29 = zI (q.length : Int) := c5.2.1
    obtain ⟨s5, hs5⟩ : ∃ s5, s5 = pI s4 248 30 (zI (q.length : Int)) := ⟨_, rfl⟩
    have up2 := ST_up (B := 1) q.length (fun k (a : SM) => Fr (fun c => c = 258) s5 a ∧ ∀ j, j < k → gI a 258 j = gI s4 257 j) (fun k a n => lX12_ring n a (zI b) (zI (k : Int))) (fun k a n => qX12_ring n a (zI b) (zI (k : Int))) (by
      rintro k a hk ⟨f1, f2⟩
      have ck : (zI (k : Int)).toNatClampNeg = k := by rw [z_cl (by omega)]; exact Int.toNat_natCast _
      have vk : vp_in (zI (k : Int)) 5 := by rw [z_in (by omega)]; omega
      have n5 : ((q.length : Int) ≤ (k : Int)) = False := eq_false (by omega)
      have g2 : gI a 257 k = gI s4 257 k := by rw [f1.1 257 (by omega), hs5, gI_n _ _ _ _ (by omega)]
      have g3 : gI a 248 29 = zI (q.length : Int) := by rw [f1.1 248 (by omega), hs5, gI_s, if_neg (by omega)]; exact g29
      refine ⟨pI a 258 k (gI s4 257 k), ⟨Fr_p f1 rfl, fun j hj => ?_⟩, ST_1 fun n => ?_⟩
      · rw [gI_s]
        by_cases hjk : j = k
        · rw [if_pos hjk, hjk]
        · rw [if_neg hjk]; exact f2 j (by omega)
      · simp (disch := omega) only [lX12_ring, qX12_ring, tX12_ring_27, uX12_ring_27, ck, vk, g2, g3, zl1, zl5, z_add, z_le, n5, Int.natCast_succ, if_true, if_false, true_and, and_true, not_true, not_false_eq_true, false_implies, true_implies, imp_self, and_self, and_false, false_and, or_true, true_or, or_false, false_or, ite_self, implies_true])
    obtain ⟨s6, ⟨f3, f4⟩, st2⟩ := up2 q.length 0 s5 (by omega) ⟨Fr_rf _ s5, fun j hj => by omega⟩
    obtain ⟨E2, R2⟩ := ST_fu (ST_trans st2 (ST_1 (F' := fun _ => (zI b, s6)) (C' := fun _ => True) (fun n => by
      have g3 : gI s6 248 29 = zI (q.length : Int) := by rw [f3.1 248 (by omega), hs5, gI_s, if_neg (by omega)]; exact g29
      simp (disch := omega) only [lX12_ring, qX12_ring, tX12_ring_27, uX12_ring_27, g3, Int32.le_refl, not_true, false_implies, if_true, if_false, true_and, and_true, not_true, not_false_eq_true, false_implies, true_implies, imp_self, and_self, and_false, false_and, or_true, true_or, or_false, false_or, ite_self, implies_true]))) (by omega)
    have E3 : fX12_ring s3 = (zI b, s6) := by unfold fX12_ring; rw [c2, if_pos nb, c1, g29]; dsimp only []; rw [← hs5]; exact E2
    have em2 : mX12_ring s3 = s6 := by unfold mX12_ring; rw [E3]
    have hf : Fp (fun c i => (218 ≤ c ∧ c ≤ 224) ∨ c = 256 ∨ c = 257 ∨ (c = 248 ∧ (i = 0 ∨ i = 29 ∨ i = 30)) ∨ (c = 2 ∧ i = 15) ∨ c = 246 ∨ c = 258) s s6 := Fp_tr (Fp_mo hf3 (fun c i hc => by omega)) (Fp_tr (Fp_p s3 (i := 0) (v := zI 0) (c := 248) (by omega)) (Fp_tr (Fp_mo c4 (fun c i hc => by omega)) (Fp_tr (by rw [hs5]; exact Fp_p s4 (by omega)) (Fp_fr f3 (fun c hc i => by omega)))))
    obtain ⟨a1, a2, a3, a4⟩ := fin s6 hf
    rw [em, ev, em2]
    refine ⟨⟨e4, fun _ => by rw [e1, y1, ← hs2]; exact R⟩, ?_, ?_, a1, a2, a3, ⟨q.length, l.2, ?_, ?_, fun i hi => ?_⟩, a4⟩
    · unfold rX12_ring; rw [c2, c1, g29]; exact ⟨c3, fun _ s' hs' => by rw [hs', ← hs5]; exact R2⟩
    · unfold vX12_ring; rw [E3, hb.2.2]
    · have e : gI s6 2 15 = gI s3 2 15 := by
        rw [f3.1 2 (by omega), hs5, gI_n _ _ _ _ (by omega), c4.1 2 15 (by omega), gI_n _ _ _ _ (by omega)]
      rw [e, f1.1 2 (by omega), hs2, gI_s, if_pos rfl]
    · rw [f3.1 248 (by omega), hs5, gI_s, if_pos rfl]
    · have e : gI s6 246 i = gI s3 246 i := by
        rw [f3.1 246 (by omega), hs5, gI_n _ _ _ _ (by omega), c4.1 246 i (by omega), gI_n _ _ _ _ (by omega)]
      have h3 := YO_ix y4 c5.2.2 i hi
      rw [e, f2 i (by omega), f4 i hi, h3]
theorem q_ringAt (h : RgT s) (a1 : Int32) : rX11_ringAt s a1 ∧ rX12_ringAt s a1 ∧ vX11_ringAt s a1 = vX12_ringAt s a1 ∧ mX12_ringAt s a1 = Th s := by
  obtain ⟨i, hi, rfl⟩ := z_ex a1
  obtain ⟨n, k1, k2, k3, k4⟩ := h
  have e30 : gI (pI s 248 0 0) 248 30 = zI (n : Int) := by rw [gI_s, if_neg (by omega)]; exact k3
  have e258 : ∀ j, gI (pI s 248 0 (zI 0)) 258 j = gI s 258 j := fun j => gI_n _ _ _ _ (by omega)
  unfold rX11_ringAt rX12_ringAt vX11_ringAt vX12_ringAt mX12_ringAt
  rw [e30, k2, zl0, zl1, z_sub, x_isIn _ hi (by omega) (by omega), e258]
  by_cases c1 : i < 0
  · have hF : bI ((0 : Int) ≤ i ∧ i ≤ (n : Int) - 1) = zI 0 := bI_F' (by omega)
    have l1 : zI i < zI 0 := by rw [z_lt hi (by omega)]; exact c1
    rw [hF, if_pos l1, if_pos rfl]
    exact ⟨fun hc => absurd l1 hc, fun hc => absurd rfl hc, rfl, rfl⟩
  · have l1 : ¬ zI i < zI 0 := by rw [z_lt hi (by omega)]; exact c1
    by_cases c2 : (n : Int) ≤ i
    · have hF : bI ((0 : Int) ≤ i ∧ i ≤ (n : Int) - 1) = zI 0 := bI_F' (by omega)
      have l2 : zI (n : Int) ≤ zI i := by rw [z_le (by omega) hi]; exact c2
      rw [hF, if_neg l1, if_pos l2, if_pos rfl]
      exact ⟨fun _ hc => absurd l2 hc, fun hc => absurd rfl hc, rfl, rfl⟩
    · have hT : bI ((0 : Int) ≤ i ∧ i ≤ (n : Int) - 1) = zI 1 := bI_T' (by omega)
      have l2 : ¬ zI (n : Int) ≤ zI i := by rw [z_le (by omega) hi]; exact c2
      have l3 : ¬ (5 : Int32) ≤ zI i := by rw [show (5 : Int32) = zI 5 from rfl, z_le (by omega) hi]; omega
      have vi : vp_in (zI i) 5 := by rw [z_in hi]; omega
      rw [hT, if_neg l1, if_neg l2, if_neg l3, if_neg (by decide), z_cl hi]
      exact ⟨fun _ _ _ => vi, fun _ => vi, k4 i.toNat (by omega), rfl⟩
theorem q_ringOf (h : LdR s 31 5 g) (h2 : RR s g) (hw : WF g) (hi : HI s g) (a1 : Int32) : rX11_ringOf s a1 ∧ rX12_ringOf (mX11_ringOf s a1) a1 ∧ vX11_ringOf s a1 = vX12_ringOf (mX11_ringOf s a1) a1 ∧ AOX s g (mX12_ringOf (mX11_ringOf s a1) a1) := by
  obtain ⟨d, hd, rfl⟩ := z_ex a1
  have h0 := hw.w0
  have fin : ∀ t : SM, Fp (fun c i => (218 ≤ c ∧ c ≤ 224) ∨ c = 256 ∨ c = 257 ∨ (c = 248 ∧ (i = 0 ∨ i = 29))) s t → AOX s g t := fun t hf =>
    ⟨g, hw, fun _ _ => rfl, fun _ _ => rfl, LdR_fp h hf (fun c i hc => by omega), RR_fp h2 hf (fun i => by omega), HI_fp hi (fun _ _ => rfl) hf (fun c i hc => by omega), Fp_mo hf (fun c i hc => by unfold FreeC; omega)⟩
  have yd := y_hasDeal (P := 5) h.2 hw hd
  unfold rX11_ringOf vX11_ringOf mX11_ringOf
  rw [yd]
  by_cases hq : dlZ g d
  · obtain ⟨n, rfl⟩ : ∃ n : Nat, d = n := ⟨d.toNat, by omega⟩
    obtain ⟨s1, o, e1, e2, e3, e4, e5, e6, e7, e8⟩ := y_findWith h hw (by decide) (by decide) hq
    have nq : ¬ bI (dlZ g (n : Int)) = 0 := by rw [bI_0]; exact not_not_intro hq
    have r1 : RR s1 g := RR_fp h2 e5 (fun i => by omega)
    obtain ⟨s2, o', b, c1, c2, c3, c4, c5, c6, c7⟩ := x_bestOf (Th_R r1) hw (wi := (n : Int)) (by omega)
    have c1 : mX12_bestOf (pI s1 248 0 0) (zI (n : Int)) = s2 := c1
    have c2 : vX12_bestOf (pI s1 248 0 0) (zI (n : Int)) = zI b := c2
    have c3 : rX12_bestOf (pI s1 248 0 0) (zI (n : Int)) := c3
    have xd : vX12_isDeal (pI s1 248 0 0) (zI (n : Int)) = bI (dlZ g (n : Int)) := x_isDeal (Th_R r1) hw hd
    rw [if_neg nq, if_neg nq, e1]
    refine ⟨fun _ => e4, ?_, ?_, ?_⟩
    · unfold rX12_ringOf; rw [xd]; exact fun _ => c3
    · unfold vX12_ringOf
      rw [xd, if_neg nq, c2]
      rcases with_eq hw e7 e8 c6 c7 with ⟨n1, n2⟩ | ⟨p, q, n1, n2, n3⟩
      · subst n1 n2
        rw [e2 rfl, if_pos rfl]
        have : b = -1 := c5
        rw [this]; rfl
      · subst n1 n2
        rw [e3 p rfl, if_neg (by decide)]
        have : b = fsR g q := c5.1
        rw [this, ← n3]
        exact e6.2.1
    · have em : mX12_ringOf s1 (zI (n : Int)) = s2 := by unfold mX12_ringOf; rw [xd, if_neg nq, c1]
      rw [em]
      exact fin s2 (Fp_tr (Fp_mo e5 (fun c i hc => by omega)) (Fp_tr (Fp_p s1 (i := 0) (v := zI 0) (c := 248) (by omega)) (Fp_mo c4 (fun c i hc => by omega))))
  · have nq : bI (dlZ g d) = 0 := by rw [bI_0]; exact hq
    have xd : vX12_isDeal (pI s 248 0 0) (zI d) = bI (dlZ g d) := x_isDeal (Th_R h2) hw hd
    rw [if_pos nq, if_pos nq]
    refine ⟨fun hc => absurd nq hc, ?_, ?_, ?_⟩
    · unfold rX12_ringOf; rw [xd]; exact fun hc => absurd nq hc
    · unfold vX12_ringOf; rw [xd, if_pos nq]
    · have em : mX12_ringOf s (zI d) = pI s 248 0 0 := by unfold mX12_ringOf; rw [xd, if_pos nq]
      rw [em]
      exact fin _ (Fp_p s (by omega))
end
