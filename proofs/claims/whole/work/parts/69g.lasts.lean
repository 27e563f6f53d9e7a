-- needs: 69d.cut 69e.ring 69f.rfor
/-! how long skin lasts -/
def sh8 (x : Int32) : Int32 := (x.toUInt32 >>> ((8 : Int32).toUInt32 &&& Int32.toUInt32 31)).toInt32
theorem sh8_z (x : Int32) : ∃ A : Int, 0 ≤ A ∧ A < 16777216 ∧ sh8 x = zI A := by
  have e8 : ((8 : Int32).toUInt32 &&& Int32.toUInt32 31) = (8 : UInt32) := by decide
  have hn : (x.toUInt32 >>> (8 : UInt32)).toNat < 16777216 := by
    rw [UInt32.toNat_shiftRight]
    have h1 := x.toUInt32.toNat_lt
    have h2 : (8 : UInt32).toNat % 32 = 8 := by decide
    rw [h2, Nat.shiftRight_eq_div_pow]
    have : (2 : Nat) ^ 8 = 256 := by decide
    omega
  refine ⟨((x.toUInt32 >>> (8 : UInt32)).toNat : Int), by omega, by omega, ?_⟩
  unfold sh8
  rw [e8]
  apply Int32.toBitVec_inj.mp
  rw [zN_bv]
  show (x.toUInt32 >>> (8 : UInt32)).toBitVec = _
  apply BitVec.eq_of_toNat_eq
  rw [BitVec.toNat_ofNat, Nat.mod_eq_of_lt (by omega)]
  rfl
theorem nx_ex : ∃ f : Int32 → Int32, ∀ x, x * 1103515245 + 12345 = f x := ⟨_, fun _ => rfl⟩
noncomputable def nx : Int32 → Int32 := Classical.choose nx_ex
theorem nx_eq (x : Int32) : x * 1103515245 + 12345 = nx x := Classical.choose_spec nx_ex x
theorem drZ_ex : ∃ f : Int32 → Int → Int, ∀ x N, f x N = (sh8 x).toInt.tmod N := ⟨_, fun _ _ => rfl⟩
noncomputable def drZ : Int32 → Int → Int := Classical.choose drZ_ex
theorem drZ_eq (x : Int32) (N : Int) : drZ x N = (sh8 x).toInt.tmod N := Classical.choose_spec drZ_ex x N
theorem drZ_z (x : Int32) {N : Int} (hN : 1 ≤ N ∧ N ≤ 1000) : sh8 x - sh8 x / zI N * zI N = zI (drZ x N) ∧ 0 ≤ drZ x N ∧ drZ x N < N := by
  obtain ⟨A, h1, h2, h3⟩ := sh8_z x
  rw [drZ_eq, h3, tI_zI (by omega), z_div (by omega) (by omega) (by omega), z_mul, z_sub]
  have e : A - A.tdiv N * N = A.tmod N := by rw [Int.tmod_def, Int.mul_comm]
  rw [e]
  exact ⟨rfl, Int.tmod_nonneg _ h1, Int.tmod_lt_of_pos _ (by omega)⟩
theorem BestO_ex {g : Nat → Int} (hw : WF g) : BestO g (bR g) := by
  obtain ⟨-, o, -, -, -, -, -, -, h, -⟩ := x_bestO (s := ((fun _ i => zI (g i), fun _ _ => 0, fun _ => none, (0, fun _ => 0)) : SM)) (g := g) (fun k => rfl) hw
  rw [bR_eq hw h]
  exact h
noncomputable def cutG (g : Nat → Int) : Nat → Int := cutO g (bR g)
theorem cutG_all {g : Nat → Int} (hw : WF g) : WF (cutG g) ∧ (∀ k, k < 37 → cutG g k = g k) ∧ (∀ k, 586 ≤ k → cutG g k = g k) := cutO_all hw (BestO_ex hw)
/-- the latest that is open, from f on, below n -/
def latF (g : Nat → Int) (f : Int) : Nat → Int
  | 0 => -1
  | n + 1 => if f ≤ (n : Int) ∧ opZ g n then (n : Int) else latF g f n
def latZ (g : Nat → Int) (f : Int) : Int := latF g f (g 34).toNat
theorem latF_b (g : Nat → Int) (f : Int) : ∀ n, -1 ≤ latF g f n ∧ latF g f n < n := by
  intro n
  induction n with
  | zero => unfold latF; omega
  | succ n ih => unfold latF; split <;> omega
theorem latF_lo (g : Nat → Int) (f : Int) : ∀ n : Nat, (n : Int) ≤ f → latF g f n = -1 := by
  intro n
  induction n with
  | zero => intro _; rfl
  | succ n ih => intro h; unfold latF; rw [if_neg (by omega)]; exact ih (by omega)
section
variable {s : SM} {g : Nat → Int} {L P : Nat}
theorem y_latest (h : LdS s L g) (hw : WF g) {f : Int} (hf : 0 ≤ f ∧ f ≤ 60) : vX4_latestOpen s L P (zI f) = zI (latZ g f) ∧ rX4_latestOpen s L P (zI f) := by
  have h0 := hw.w0
  have key : ∀ n : Nat, (n : Int) ≤ g 34 → ST (n + 1) (fun m => lX4_latestOpen m s L P (zI f) (zI ((n : Int) - 1))) (fun m => qX4_latestOpen m s L P (zI f) (zI ((n : Int) - 1))) (fun _ => zI (latF g f n)) (fun _ => True) := by
    intro n
    induction n with
    | zero =>
      intro _
      refine ST_1 fun m => ?_
      have n1 : (((0 : Nat) : Int) - 1 < f) = True := eq_true (by omega)
      show _ = zI (-1) ∧ _
      simp (disch := omega) only [lX4_latestOpen, qX4_latestOpen, tX4_latestOpen_7, uX4_latestOpen_7, zl1, z_lt, z_neg, n1, not_true, false_implies, if_true, if_false, true_and, and_true, not_true, not_false_eq_true, false_implies, true_implies, imp_self, and_self, and_false, false_and, or_true, true_or, or_false, false_or, ite_self, implies_true]
    | succ n ih =>
      intro hn
      have e1 : ((n + 1 : Nat) : Int) - 1 = (n : Int) := by omega
      rw [e1]
      obtain ⟨ev, rv⟩ := y_isOpen (P := P) h hw (d := (n : Int)) (by omega)
      have e2 : zI (n : Int) + (-1) = zI ((n : Int) - 1) := by rw [zl1, z_neg, z_add]; rfl
      unfold latF
      by_cases hl : (n : Int) < f
      · rw [if_neg (by omega), latF_lo g f n (by omega)]
        refine ST_mono (B1 := 1) (ST_1 fun m => ?_) (by omega)
        have n1 : ((n : Int) < f) = True := eq_true hl
        simp (disch := omega) only [lX4_latestOpen, qX4_latestOpen, tX4_latestOpen_7, uX4_latestOpen_7, zl1, z_lt, z_neg, n1, not_true, false_implies, if_true, if_false, true_and, and_true, not_true, not_false_eq_true, false_implies, true_implies, imp_self, and_self, and_false, false_and, or_true, true_or, or_false, false_or, ite_self, implies_true]
      · have n1 : ((n : Int) < f) = False := eq_false hl
        rcases tf (opZ g n) with k1 | k1
        · rw [if_pos ⟨by omega, of_eq_true k1⟩]
          refine ST_mono (B1 := 1) (ST_1 fun m => ?_) (by omega)
          simp (disch := omega) only [lX4_latestOpen, qX4_latestOpen, tX4_latestOpen_7, uX4_latestOpen_7, zl0, zl1, z_lt, z_eq, n1, ev, rv, k1, bI_T, Int.reduceAdd, Int.reduceSub, Int.reduceMul, Int.reduceNeg, Int.reduceLT, Int.reduceLE, Int.reduceToNat, Int.reduceEq, if_true, if_false, true_and, and_true, not_true, not_false_eq_true, false_implies, true_implies, imp_self, and_self, and_false, false_and, or_true, true_or, or_false, false_or, ite_self, implies_true]
        · rw [if_neg (fun hc => (of_eq_false k1) hc.2)]
          refine ST_mono (ST_trans (B1 := 1) (ST_1 fun m => ?_) (ih (by omega))) (by omega)
          simp (disch := omega) only [lX4_latestOpen, qX4_latestOpen, tX4_latestOpen_7, uX4_latestOpen_7, z_lt, n1, ev, rv, k1, bI_F, e2, zl0, if_true, if_false, true_and, and_true, not_true, not_false_eq_true, false_implies, true_implies, imp_self, and_self, and_false, false_and, or_true, true_or, or_false, false_or, ite_self, implies_true]
  have k := key (g 34).toNat (by omega)
  have e0 : ((g 34).toNat : Int) - 1 = g 34 - 1 := by omega
  rw [e0] at k
  obtain ⟨E, R⟩ := ST_fu k (by omega)
  have e9 : gI s L 9 - 1 = zI (g 34 - 1) := by rw [h.1.1, zl1, z_sub]
  unfold vX4_latestOpen rX4_latestOpen fX4_latestOpen
  rw [e9]
  exact ⟨E, R⟩
theorem x_latest (h : RR s g) (hw : WF g) {f : Int} (hf : 0 ≤ f ∧ f ≤ g 34) : vX12_latestFrom s (zI f) = zI (latZ g f) ∧ rX12_latestFrom s (zI f) := by
  have h0 := hw.w0
  have x34 := x_34 h
  have key : ∀ (r n : Nat), (n : Int) + r = g 34 → f ≤ n → ST (r + 1) (fun m => lX12_latestFrom m s (zI f) (zI (latF g f n)) (zI (n : Int))) (fun m => qX12_latestFrom m s (zI f) (zI (latF g f n)) (zI (n : Int))) (fun _ => zI (latZ g f)) (fun _ => True) := by
    intro r
    induction r with
    | zero =>
      intro n hn hf2
      have e : latZ g f = latF g f n := by unfold latZ; congr 1; omega
      have n1 : (g 34 ≤ (n : Int)) = True := eq_true (by omega)
      rw [e]
      refine ST_1 fun m => ?_
      simp (disch := omega) only [lX12_latestFrom, qX12_latestFrom, tX12_latestFrom_4, uX12_latestFrom_4, x34, z_le, n1, not_true, false_implies, if_true, if_false, true_and, and_true, not_true, not_false_eq_true, false_implies, true_implies, imp_self, and_self, and_false, false_and, or_true, true_or, or_false, false_or, ite_self, implies_true]
    | succ r ih =>
      intro n hn hf2
      have n1 : (g 34 ≤ (n : Int)) = False := eq_false (by omega)
      have ev := x_isOpen h hw (d := (n : Int)) (by omega)
      have rv := x_isOpen_r h hw (d := (n : Int)) (by omega)
      refine ST_mono (ST_trans (B1 := 1) (ST_1 fun m => ?_) (ih (n + 1) (by omega) (by omega))) (by omega)
      rcases tf (opZ g n) with k1 | k1
      · have e : latF g f (n + 1) = n := by unfold latF; rw [if_pos ⟨hf2, of_eq_true k1⟩]
        rw [e]
        simp (disch := omega) only [lX12_latestFrom, qX12_latestFrom, tX12_latestFrom_4, uX12_latestFrom_4, x34, zl0, zl1, z_le, z_add, z_eq, n1, ev, rv, k1, bI_T, Int.natCast_succ, Int.reduceAdd, Int.reduceSub, Int.reduceMul, Int.reduceNeg, Int.reduceLT, Int.reduceLE, Int.reduceToNat, Int.reduceEq, if_true, if_false, true_and, and_true, not_true, not_false_eq_true, false_implies, true_implies, imp_self, and_self, and_false, false_and, or_true, true_or, or_false, false_or, ite_self, implies_true]
      · have e : latF g f (n + 1) = latF g f n := by
          show (if f ≤ (n : Int) ∧ opZ g n then (n : Int) else latF g f n) = _
          rw [if_neg (fun hc => (of_eq_false k1) hc.2)]
        rw [e]
        simp (disch := omega) only [lX12_latestFrom, qX12_latestFrom, tX12_latestFrom_4, uX12_latestFrom_4, x34, zl0, zl1, z_le, z_add, n1, ev, rv, k1, bI_F, Int.natCast_succ, if_true, if_false, true_and, and_true, not_true, not_false_eq_true, false_implies, true_implies, imp_self, and_self, and_false, false_and, or_true, true_or, or_false, false_or, ite_self, implies_true]
  obtain ⟨n, rfl⟩ : ∃ n : Nat, f = n := ⟨f.toNat, by omega⟩
  have k := key (g 34 - n).toNat n (by omega) (Int.le_refl _)
  rw [latF_lo g (n : Int) n (Int.le_refl _)] at k
  obtain ⟨E, R⟩ := ST_fu k (by omega)
  exact ⟨E, R⟩
end
/-- one draw of a DEAL -/
noncomputable def ls1 (law f : Int) (g : Nat → Int) : Nat → Int := if law = 1 then (if wsZ g (latZ g f) = 0 then skZ g (latZ g f) else g) else g
noncomputable def lsw (g : Nat → Int) (x : Int32) : Int := wyZ g (drZ (nx x) (g 0)) (drZ (nx (nx x)) (g 0)) (drZ (nx (nx (nx x))) (g 1))
noncomputable def ls2 (g : Nat → Int) (x : Int32) : Nat → Int := if lsw g x = 0 then wrZ g (drZ (nx x) (g 0)) (drZ (nx (nx x)) (g 0)) (drZ (nx (nx (nx (nx x)))) 99 + 1) (drZ (nx (nx (nx x))) (g 1)) else g
noncomputable def ls3 (law : Int) (g : Nat → Int) (x : Int32) : Nat → Int := if lsw g x = 0 ∧ law = 2 then cutG (ls2 g x) else ls2 g x
/-- the deals at the end -/
noncomputable def lsF (law f : Int) : Nat → (Nat → Int) → Int32 → Int → Int
  | 0, g, _, _ => g 34
  | r + 1, g, x, rf => if 10 ≤ rf then g 34 else lsF law f r (ls3 law (ls1 law f g) x) (nx (nx (nx (nx x)))) (rf + if lsw (ls1 law f g) x ≤ 1 then 0 else 1)
section
variable {g : Nat → Int}
theorem ls1_all (hw : WF g) (law f : Int) : WF (ls1 law f g) ∧ (∀ k, k < 37 → ls1 law f g k = g k) ∧ ∀ k, 586 ≤ k → ls1 law f g k = g k := by
  have h0 := hw.w0
  unfold ls1
  by_cases h1 : law = 1
  · rw [if_pos h1]
    by_cases h2 : wsZ g (latZ g f) = 0
    · rw [if_pos h2]
      obtain ⟨a1, a2⟩ := skZ_wf hw h2
      have hwd := hw.wd a2.1
      have h67 := hwd.2.2.2.2.2.2.2.2.2 a2.2
      refine ⟨a1, fun k hk => ?_, fun k hk => ?_⟩
      · unfold skZ
        rw [exA_lo _ _ (by omega) hk, exA_lo _ _ (by omega) hk, stD_lo _ _ a2.1.1 (by omega) (by omega)]
      · unfold skZ
        rw [exA_hi _ _ (by omega) (by omega), exA_hi _ _ (by omega) (by omega), stD_hi _ _ (by omega) (by omega) hk]
    · rw [if_neg h2]; exact ⟨hw, fun _ _ => rfl, fun _ _ => rfl⟩
  · rw [if_neg h1]; exact ⟨hw, fun _ _ => rfl, fun _ _ => rfl⟩
theorem lsd (hw : WF g) (h1 : 1 ≤ g 0) (h2 : 1 ≤ g 1) (x : Int32) : bdyZ g (drZ (nx x) (g 0)) ∧ bdyZ g (drZ (nx (nx x)) (g 0)) ∧ kndZ g (drZ (nx (nx (nx x))) (g 1)) ∧ 1 ≤ drZ (nx (nx (nx (nx x)))) 99 + 1 ∧ drZ (nx (nx (nx (nx x)))) 99 + 1 ≤ 99 := by
  have h0 := hw.w0
  have a1 := (drZ_z (nx x) (N := g 0) (by omega)).2
  have a2 := (drZ_z (nx (nx x)) (N := g 0) (by omega)).2
  have a3 := (drZ_z (nx (nx (nx x))) (N := g 1) (by omega)).2
  have a4 := (drZ_z (nx (nx (nx (nx x)))) (N := 99) (by omega)).2
  refine ⟨a1, a2, a3, ?_⟩
  clear a1 a2 a3
  generalize drZ (nx (nx (nx (nx x)))) 99 = y at a4
  omega
theorem ls2_all (hw : WF g) (h1 : 1 ≤ g 0) (h2 : 1 ≤ g 1) (x : Int32) : WF (ls2 g x) ∧ (∀ k, k < 37 → ls2 g x k = if k = 34 then g 34 + (if lsw g x = 0 then 1 else 0) else g k) ∧ ∀ k, 586 ≤ k → ls2 g x k = g k := by
  have h0 := hw.w0
  obtain ⟨b1, b2, b3, b4⟩ := lsd hw h1 h2 x
  unfold ls2
  by_cases hq : lsw g x = 0
  · rw [if_pos hq, if_pos hq]
    have h6 := (wy_0 hw b1 b2 b3 hq).2.2.2.2.2
    exact ⟨wrZ_wf hw b1 b2 b3 b4 hq, fun k hk => wrX_lo hw _ _ _ _ _ _ (by omega), fun k hk => wrX_hi hw h6 _ _ _ _ _ _ hk⟩
  · rw [if_neg hq, if_neg hq]
    exact ⟨hw, fun k hk => by by_cases h : k = 34; rw [if_pos h, h, Int.add_zero]; rw [if_neg h], fun _ _ => rfl⟩
theorem ls3_all (hw : WF g) (h1 : 1 ≤ g 0) (h2 : 1 ≤ g 1) (law : Int) (x : Int32) : WF (ls3 law g x) ∧ (∀ k, k < 37 → ls3 law g x k = if k = 34 then g 34 + (if lsw g x = 0 then 1 else 0) else g k) ∧ ∀ k, 586 ≤ k → ls3 law g x k = g k := by
  obtain ⟨a1, a2, a3⟩ := ls2_all hw h1 h2 x
  unfold ls3
  by_cases hq : lsw g x = 0 ∧ law = 2
  · rw [if_pos hq]
    obtain ⟨c1, c2, c3⟩ := cutG_all a1
    exact ⟨c1, fun k hk => by rw [c2 k hk, a2 k hk], fun k hk => by rw [c3 k hk, a3 k hk]⟩
  · rw [if_neg hq]; exact ⟨a1, a2, a3⟩
end
