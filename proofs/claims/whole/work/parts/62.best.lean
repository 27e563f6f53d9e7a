-- needs: 42.qa 51.fr 54.copy 55.hist 56.hist 60.rg 61.xrg
/-! the reference's search for the best ring -/
theorem RR_fp {s t : SM} {g : Nat → Int} {A : Nat → Nat → Prop} (h : RR s g) (hf : Fp A s t) (hA : ∀ i, ¬ A 250 i) : RR t g := fun k => by rw [hf.1 250 k (hA k)]; exact h k
theorem KK_cmp {g : Nat → Int} (hw : WF g) {cn cn' : Prop} {c q : List Nat} (h : RGs g cn c) (h' : RGs g cn' q) : KK g c ≤ KK g q ↔ fsR g c < fsR g q ∨ (fsR g c = fsR g q ∧ (q.length < c.length ∨ (q.length = c.length ∧ cd q ≤ cd c))) := by
  have b1 := cd_b h.2.1.2 (RG_60 hw h)
  have b2 := cd_b h'.2.1.2 (RG_60 hw h')
  have l1 := h.2.1
  have l2 := h'.2.1
  unfold KK
  omega
theorem fs_90 {g : Nat → Int} (hw : WF g) {c : List Nat} (h : vpa g c) (h5 : c.length ≤ 5) : 0 ≤ fsR g c ∧ fsR g c ≤ 90 := by
  refine ⟨fs_b hw h, ?_⟩
  have h1 := fs_up hw (mf := 18) (fun d hd => (frd_b hw hd.1.1).2) (by omega) (S := c) (P := []) (by rw [List.append_nil]; exact h)
  rw [List.append_nil] at h1
  have e : fsR g [] = 0 := rfl
  omega
theorem MPx_0 {c : Nat} {s : SM} : ∀ {P : List Nat}, P ≠ [] → MPx c s P → gI s c 0 = zI (stt P : Int) := by
  intro P
  induction P with
  | nil => intro h; exact absurd rfl h
  | cons w P ih =>
    intro _ h
    cases P with
    | nil => exact h.1
    | cons x Q => exact ih (by simp) h.2
def HO (s : SM) (g : Nat → Int) (best : Int) : Option (List Nat) → Prop
  | none => best = -1
  | some q => best = fsR g q ∧ gI s 248 29 = zI (q.length : Int) ∧ MPx 257 s q
abbrev CR (g : Nat → Int) (wi : Int) (c : List Nat) : Prop := RGs g True c ∧ (wi < 0 ∨ ∃ y ∈ c, (y : Int) = wi)
def PRC (o : Option (List Nat)) (n : Nat) (t : Int) : Prop := ∀ q, o = some q → q.length ≤ n ∧ (q.length = n → cd q < t)
abbrev BoA (c i : Nat) : Prop := c = 256 ∨ c = 257 ∨ (c = 248 ∧ i = 29)
theorem HO_b {s : SM} {g : Nat → Int} (hw : WF g) {wi b : Int} {o : Option (List Nat)} (h : HO s g b o) (hC : ∀ q, o = some q → CR g wi q) : -1 ≤ b ∧ b ≤ 90 := by
  cases o with
  | none => have : b = -1 := h; omega
  | some q => have h1 : b = fsR g q := h.1; have := (hC q rfl).1; have := fs_90 hw this.1 this.2.1.2; omega
theorem HO_c {s t : SM} {g : Nat → Int} {b : Int} {o : Option (List Nat)} (h : HO s g b o) (h1 : gI t 248 29 = gI s 248 29) (h2 : ∀ k, gI t 257 k = gI s 257 k) : HO t g b o := by
  cases o with
  | none => exact h
  | some q => exact ⟨h.1, by rw [h1]; exact h.2.1, MPx_c h.2.2 (fun k _ => h2 k)⟩
theorem PRC_m {o : Option (List Nat)} {n : Nat} {t t' : Int} (h : PRC o n t) (ht : t ≤ t') : PRC o n t' := fun q hq => ⟨(h q hq).1, fun hl => by have := (h q hq).2 hl; omega⟩
def isM (wi : Int) : List Nat → Int
  | [] => if wi < 0 then 1 else 0
  | w :: P => if isM wi P = 0 then (if (w : Int) = wi then 1 else 0) else 1
theorem isM_b (wi : Int) : ∀ P : List Nat, (isM wi P = 0 ∧ ¬ (wi < 0 ∨ ∃ y ∈ P, (y : Int) = wi)) ∨ (isM wi P = 1 ∧ (wi < 0 ∨ ∃ y ∈ P, (y : Int) = wi)) := by
  intro P
  induction P with
  | nil =>
    unfold isM
    by_cases h : wi < 0
    · rw [if_pos h]; exact Or.inr ⟨rfl, Or.inl h⟩
    · rw [if_neg h]; exact Or.inl ⟨rfl, fun hc => by rcases hc with hc | ⟨y, hy, _⟩; exact h hc; exact absurd hy (by simp)⟩
  | cons w P ih =>
    unfold isM
    rcases ih with ⟨h1, h2⟩ | ⟨h1, h2⟩
    · rw [if_pos h1]
      by_cases h : (w : Int) = wi
      · rw [if_pos h]; exact Or.inr ⟨rfl, Or.inr ⟨w, by simp, h⟩⟩
      · rw [if_neg h]
        refine Or.inl ⟨rfl, fun hc => ?_⟩
        rcases hc with hc | ⟨y, hy, hy2⟩
        · exact h2 (Or.inl hc)
        · rcases List.mem_cons.mp hy with rfl | hy
          · exact h hy2
          · exact h2 (Or.inr ⟨y, hy, hy2⟩)
    · rw [if_neg (by omega)]
      refine Or.inr ⟨rfl, ?_⟩
      rcases h2 with hc | ⟨y, hy, hy2⟩
      · exact Or.inl hc
      · exact Or.inr ⟨y, by simp [hy], hy2⟩
section
variable {s : SM} {g : Nat → Int}
theorem x_leaf (h : RR s g) (hw : WF g) {wi : Int} (hwi : IR wi) {c : List Nat} (hP : MPx 256 s c) (hc : RGs g True c) {best : Int} {o : Option (List Nat)} (ho : HO s g best o) (hg : ∀ q, o = some q → CR g wi q) (hp : PRC o c.length (cd c)) (i : Int32) : ∃ s' o' b', Fp BoA s s' ∧ gI s' 256 = gI s 256 ∧ HO s' g b' o' ∧ (∀ q, o' = some q → CR g wi q) ∧ KB g o ≤ KB g o' ∧ (CR g wi c → KK g c ≤ KB g o') ∧ PRC o' c.length (cd c + 1) ∧ ST 13 (fun m => (lX12_bestOf m).2.2.1 s (zI wi) (zI best) (zI (c.length : Int)) i (if 0 ≤ zI wi then 0 else 1) 0) (fun m => (qX12_bestOf m).2.2.1 s (zI wi) (zI best) (zI (c.length : Int)) i (if 0 ≤ zI wi then 0 else 1) 0) (fun m => (lX12_bestOf m).2.1 s' (zI wi) (zI b') (zI (c.length : Int)) i) (fun m => (qX12_bestOf m).2.1 s' (zI wi) (zI b') (zI (c.length : Int)) i) := by
  have hv := hc.1
  have l := hc.2.1
  have hb := HO_b hw ho hg
  obtain ⟨ef, rf⟩ := x_freesOf h hw hP hv l.2
  have hf := fs_90 hw hv l.2
  have it := ST_it0 (B := 1) c.length (fun k m => (lX12_bestOf m).2.2.1 s (zI wi) (zI best) (zI (c.length : Int)) i (zI (isM wi (ini c k))) (zI (k : Int))) (fun k m => (qX12_bestOf m).2.2.1 s (zI wi) (zI best) (zI (c.length : Int)) i (zI (isM wi (ini c k))) (zI (k : Int))) (by
    intro k hk
    obtain ⟨w, w1, w2, w3, -⟩ := MPx_k hP k hk
    have hwl := RG_60 hw hc w w1
    have ck : (zI (k : Int)).toNatClampNeg = k := by rw [z_cl (by omega)]; exact Int.toNat_natCast k
    have vk : vp_in (zI (k : Int)) 5 := by rw [z_in (by omega)]; omega
    have n1 : ((c.length : Int) ≤ (k : Int)) = False := eq_false (by omega)
    rw [w3]
    rcases isM_b wi (ini c k) with ⟨m1, -⟩ | ⟨m1, -⟩
    · have hm : isM wi (w :: ini c k) = if (w : Int) = wi then 1 else 0 := by unfold isM; rw [if_pos m1]
      rw [hm, m1]
      rcases tf ((w : Int) = wi) with k1 | k1
      all_goals
      (refine ⟨1, by decide, fun n => ?_⟩; dsimp only []; rw [lpX12_bestOf_140 (n), qpX12_bestOf_140 (n)]; generalize hlK : lX12_bestOf (n) = K; generalize hqK : qX12_bestOf (n) = Q; simp (disch := omega) only [tX12_bestOf_140, uX12_bestOf_140, zl0, zl1, zl2, z_add, z_le, z_eq, ck, vk, w2, n1, k1, Int.natCast_succ, Int.reduceAdd, Int.reduceSub, Int.reduceMul, Int.reduceNeg, Int.reduceLT, Int.reduceLE, Int.reduceToNat, Int.reduceEq, if_true, if_false, true_and, and_true, not_true, not_false_eq_true, false_implies, true_implies, imp_self, and_self, and_false, false_and, or_true, true_or, or_false, false_or, ite_self, implies_true]; done)
    · have hm : isM wi (w :: ini c k) = 1 := by show (if isM wi (ini c k) = 0 then _ else (1 : Int)) = 1; rw [if_neg (by omega)]
      rw [hm, m1]
      (refine ⟨1, by decide, fun n => ?_⟩; dsimp only []; rw [lpX12_bestOf_140 (n), qpX12_bestOf_140 (n)]; generalize hlK : lX12_bestOf (n) = K; generalize hqK : qX12_bestOf (n) = Q; simp (disch := omega) only [tX12_bestOf_140, uX12_bestOf_140, zl0, zl1, zl2, z_add, z_le, z_eq, ck, vk, w2, n1, Int.natCast_succ, Int.reduceAdd, Int.reduceSub, Int.reduceMul, Int.reduceNeg, Int.reduceLT, Int.reduceLE, Int.reduceToNat, Int.reduceEq, if_true, if_false, true_and, and_true, not_true, not_false_eq_true, false_implies, true_implies, imp_self, and_self, and_false, false_and, or_true, true_or, or_false, false_or, ite_self, implies_true]; done)
    )
  rw [ini_0, ini_n] at it
  have e0 : (if 0 ≤ zI wi then 0 else 1 : Int32) = zI (isM wi []) := by
    unfold isM
    by_cases hq : wi < 0
    · rw [if_neg (show ¬ (0 : Int32) ≤ zI wi by rw [zl0, z_le (by omega) hwi]; omega), if_pos hq]; rfl
    · rw [if_pos (show (0 : Int32) ≤ zI wi by rw [zl0, z_le (by omega) hwi]; omega), if_neg hq]; rfl
  rw [e0]
  have no : ∀ (o' : Option (List Nat)), o' = o → (CR g wi c → KK g c ≤ KB g o) → ∃ s' o' b', Fp BoA s s' ∧ gI s' 256 = gI s 256 ∧ HO s' g b' o' ∧ (∀ q, o' = some q → CR g wi q) ∧ KB g o ≤ KB g o' ∧ (CR g wi c → KK g c ≤ KB g o') ∧ PRC o' c.length (cd c + 1) ∧ s' = s ∧ b' = best := fun o' _ hk => ⟨s, o, best, Fp_rf _ s, rfl, ho, hg, Int.le_refl _, hk, PRC_m hp (by omega), rfl, rfl⟩
  have b0 : (best < -1) = False := eq_false (by omega)
  rcases isM_b wi c with ⟨m1, m2⟩ | ⟨m1, m2⟩
  · rw [m1] at it
    obtain ⟨s', o', b', x1, x2, x3, x4, x5, x6, x7, rfl, rfl⟩ := no o rfl (fun hq => absurd hq.2 m2)
    refine ⟨s', o', b', x1, x2, x3, x4, x5, x6, x7, ST_mono (ST_trans (B2 := 1) it ?_) (by omega)⟩
    (refine ⟨1, by decide, fun n => ?_⟩; dsimp only []; rw [lpX12_bestOf_140 (n), qpX12_bestOf_140 (n)]; generalize hlK : lX12_bestOf (n) = K; generalize hqK : qX12_bestOf (n) = Q; simp (disch := omega) only [tX12_bestOf_140, uX12_bestOf_140, zl0, zl1, zl2, z_neg, z_add, z_le, z_lt, z_eq, Int.le_refl, b0, Int.natCast_succ, Int.reduceAdd, Int.reduceSub, Int.reduceMul, Int.reduceNeg, Int.reduceLT, Int.reduceLE, Int.reduceToNat, Int.reduceEq, if_true, if_false, true_and, and_true, not_true, not_false_eq_true, false_implies, true_implies, imp_self, and_self, and_false, false_and, or_true, true_or, or_false, false_or, ite_self, implies_true]; done)
  · rw [m1] at it
    by_cases hlt : best < fsR g c
    · have k1 : (best < fsR g c) = True := eq_true hlt
      obtain ⟨s1, hs1⟩ : ∃ s1, s1 = pI s 248 29 (zI (c.length : Int)) := ⟨_, rfl⟩
      have up := ST_up (B := 1) c.length (fun k (b : SM) => Fp (fun c' _ => c' = 257) s1 b ∧ ∀ j, j < k → gI b 257 j = gI s 256 j) (fun k b m => (lX12_bestOf m).2.2.2 b (zI wi) (zI (fsR g c)) (zI (c.length : Int)) i 1 (zI (fsR g c)) (zI (k : Int))) (fun k b m => (qX12_bestOf m).2.2.2 b (zI wi) (zI (fsR g c)) (zI (c.length : Int)) i 1 (zI (fsR g c)) (zI (k : Int))) (by
        rintro k b hk ⟨f1, f2⟩
        have ck : (zI (k : Int)).toNatClampNeg = k := by rw [z_cl (by omega)]; exact Int.toNat_natCast k
        have vk : vp_in (zI (k : Int)) 5 := by rw [z_in (by omega)]; omega
        have n1 : ((c.length : Int) ≤ (k : Int)) = False := eq_false (by omega)
        refine ⟨pI b 257 k (gI b 256 k), ⟨Fp_tr f1 (Fp_p b rfl), fun j hj => ?_⟩, ST_1 fun m => ?_⟩
        · rw [gI_s]
          by_cases hjk : j = k
          · subst hjk; rw [if_pos rfl, f1.1 256 j (by omega), hs1, gI_n _ _ _ _ (by omega)]
          · rw [if_neg hjk]; exact f2 j (by omega)
        · rw [lpX12_bestOf_211, qpX12_bestOf_211]
          simp (disch := omega) only [tX12_bestOf_211, uX12_bestOf_211, zl0, zl1, zl2, z_add, z_le, ck, vk, n1, Int.natCast_succ, Int.reduceAdd, Int.reduceSub, Int.reduceMul, Int.reduceNeg, Int.reduceLT, Int.reduceLE, Int.reduceToNat, Int.reduceEq, if_true, if_false, true_and, and_true, not_true, not_false_eq_true, false_implies, true_implies, imp_self, and_self, and_false, false_and, or_true, true_or, or_false, false_or, ite_self, implies_true])
      obtain ⟨b, ⟨f1, f2⟩, stb⟩ := up c.length 0 s1 (by omega) ⟨Fp_rf _ s1, fun j hj => absurd hj (by omega)⟩
      have fp : Fp BoA s b := Fp_tr (by rw [hs1]; exact Fp_p s (Or.inr (Or.inr ⟨rfl, rfl⟩))) (Fp_mo f1 (fun c' _ hc' => Or.inr (Or.inl hc')))
      have e256 : gI b 256 = gI s 256 := by funext j; rw [f1.1 256 j (by omega), hs1, gI_n _ _ _ _ (by omega)]
      have hcr : CR g wi c := ⟨hc, m2⟩
      have hk0 : KB g o ≤ KK g c := by
        cases o with
        | none => exact Int.le_of_lt (KK_pos hw hc)
        | some q => exact (KK_cmp hw (hg q rfl).1 hc).mpr (Or.inl (by have h1 : best = fsR g q := ho.1; omega))
      refine ⟨b, some c, fsR g c, fp, e256, ⟨rfl, ?_, MPx_c hP (fun k hk => f2 k hk)⟩, fun q hq => by cases hq; exact hcr, hk0, fun _ => Int.le_refl _, fun q hq => by cases hq; exact ⟨Nat.le_refl _, fun _ => by omega⟩, ST_mono (ST_trans (ST_trans (B2 := 1) it (F'' := fun m => (lX12_bestOf m).2.2.2 s1 (zI wi) (zI (fsR g c)) (zI (c.length : Int)) i 1 (zI (fsR g c)) (zI ((0 : Nat) : Int))) (C'' := fun m => (qX12_bestOf m).2.2.2 s1 (zI wi) (zI (fsR g c)) (zI (c.length : Int)) i 1 (zI (fsR g c)) (zI ((0 : Nat) : Int))) ?_) (ST_trans (B2 := 1) stb ?_)) (by omega)⟩
      · rw [f1.1 248 29 (by omega), hs1, gI_s, if_pos rfl]
      ·
        (refine ⟨1, by decide, fun n => ?_⟩; dsimp only []; rw [lpX12_bestOf_140 (n), qpX12_bestOf_140 (n)]; generalize hlK : lX12_bestOf (n) = K; generalize hqK : qX12_bestOf (n) = Q; simp (disch := omega) only [tX12_bestOf_140, uX12_bestOf_140, zl0, zl1, zl2, z_neg, z_add, z_le, z_lt, z_eq, Int.le_refl, ef, rf, k1, hs1, Int.natCast_zero, Int.natCast_succ, Int.reduceAdd, Int.reduceSub, Int.reduceMul, Int.reduceNeg, Int.reduceLT, Int.reduceLE, Int.reduceToNat, Int.reduceEq, if_true, if_false, true_and, and_true, not_true, not_false_eq_true, false_implies, true_implies, imp_self, and_self, and_false, false_and, or_true, true_or, or_false, false_or, ite_self, implies_true]; done)
      ·
        (refine ⟨1, by decide, fun n => ?_⟩; dsimp only []; rw [lpX12_bestOf_211 (n), qpX12_bestOf_211 (n)]; generalize hlK : lX12_bestOf (n) = K; generalize hqK : qX12_bestOf (n) = Q; simp (disch := omega) only [tX12_bestOf_211, uX12_bestOf_211, zl0, zl1, zl2, z_neg, z_add, z_le, z_lt, z_eq, Int.le_refl, Int.natCast_succ, Int.reduceAdd, Int.reduceSub, Int.reduceMul, Int.reduceNeg, Int.reduceLT, Int.reduceLE, Int.reduceToNat, Int.reduceEq, if_true, if_false, true_and, and_true, not_true, not_false_eq_true, false_implies, true_implies, imp_self, and_self, and_false, false_and, or_true, true_or, or_false, false_or, ite_self, implies_true]; done)
    · have k1 : (best < fsR g c) = False := eq_false hlt
      obtain ⟨s', o', b', x1, x2, x3, x4, x5, x6, x7, rfl, rfl⟩ := no o rfl (fun hq => by
        cases o with
        | none => have : best = -1 := ho; omega
        | some q =>
          have h1 : best = fsR g q := ho.1
          have h2 := hp q rfl
          exact (KK_cmp hw hc (hg q rfl).1).mpr (by omega))
      refine ⟨s', o', b', x1, x2, x3, x4, x5, x6, x7, ST_mono (ST_trans (B2 := 1) it ?_) (by omega)⟩
      (refine ⟨1, by decide, fun n => ?_⟩; dsimp only []; rw [lpX12_bestOf_140 (n), qpX12_bestOf_140 (n)]; generalize hlK : lX12_bestOf (n) = K; generalize hqK : qX12_bestOf (n) = Q; simp (disch := omega) only [tX12_bestOf_140, uX12_bestOf_140, zl0, zl1, zl2, z_neg, z_add, z_le, z_lt, z_eq, Int.le_refl, ef, rf, k1, Int.natCast_succ, Int.reduceAdd, Int.reduceSub, Int.reduceMul, Int.reduceNeg, Int.reduceLT, Int.reduceLE, Int.reduceToNat, Int.reduceEq, if_true, if_false, true_and, and_true, not_true, not_false_eq_true, false_implies, true_implies, imp_self, and_self, and_false, false_and, or_true, true_or, or_false, false_or, ite_self, implies_true]; done)
end
