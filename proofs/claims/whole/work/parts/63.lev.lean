-- needs: 42.qa 51.fr 54.copy 55.hist 56.hist 60.rg 61.xrg 62.best
def TB : Nat → Nat
  | 0 => 19
  | k + 1 => 2 + 61 * (TB k + 1)
section
variable {g : Nat → Int}
/-- at deal w behind the path P: what one visit gives -/
def Vis (g : Nat → Int) (wi : Int) (n : Nat) (P : List Nat) (V : Nat) : Prop := ∀ (w : Nat) (s : SM) (o : Option (List Nat)) (best : Int), dlZ g w → RR s g → MPx 256 s P → vpa g (w :: P) → (∀ y ∈ w :: P, stt (w :: P) ≤ y) → gI s 256 P.length = zI ((w : Int) - 1) → HO s g best o → (∀ q, o = some q → CR g wi q) → PRC o n (cd (w :: P)) →
  ∃ s' o' b', Fp BoA s s' ∧ (∀ j, j < P.length → gI s' 256 j = gI s 256 j) ∧ gI s' 256 P.length = zI (w : Int) ∧ HO s' g b' o' ∧ (∀ q, o' = some q → CR g wi q) ∧ KB g o ≤ KB g o' ∧ (∀ c, CR g wi c → c.length = n → (∃ S, c = S ++ w :: P) → KK g c ≤ KB g o') ∧ PRC o' n (cd (w :: P) + pw P.length) ∧ ST V (fun m => (lX12_bestOf m).2.1 s (zI wi) (zI best) (zI (n : Int)) (zI (P.length : Int))) (fun m => (qX12_bestOf m).2.1 s (zI wi) (zI best) (zI (n : Int)) (zI (P.length : Int))) (fun m => (lX12_bestOf m).2.1 s' (zI wi) (zI b') (zI (n : Int)) (zI (P.length : Int))) (fun m => (qX12_bestOf m).2.1 s' (zI wi) (zI b') (zI (n : Int)) (zI (P.length : Int)))
def BoR (g : Nat → Int) (wi : Int) (n : Nat) (P : List Nat) (lo : Int) (s : SM) (o : Option (List Nat)) (s' : SM) (o' : Option (List Nat)) (b' : Int) : Prop :=
  Fp BoA s s' ∧ (∀ j, j < P.length → gI s' 256 j = gI s 256 j) ∧ HO s' g b' o' ∧ (∀ q, o' = some q → CR g wi q) ∧ KB g o ≤ KB g o' ∧ (∀ c, CR g wi c → c.length = n → (∃ S w, c = S ++ w :: P ∧ lo < (w : Int)) → KK g c ≤ KB g o') ∧ PRC o' n (cd P + pB P.length)
theorem RR_bo {s t : SM} (h : RR s g) (hf : Fp BoA s t) : RR t g := RR_fp h hf (fun i hc => by omega)
theorem MPx_j {s t : SM} {P : List Nat} (h : MPx 256 s P) (he : ∀ j, j < P.length → gI t 256 j = gI s 256 j) : MPx 256 t P := MPx_c h he
/-- one deal refused, or none left -/
theorem x_lev1 (hw : WF g) {wi : Int} (hwi : IR wi) {n : Nat} (hn5 : n ≤ 5) {P : List Nat} (hPn : P.length < n) (hv : vpa g P) (hcn : ∀ y ∈ P, stt P ≤ y) {V : Nat} (hvis : Vis g wi n P V) : ∀ (r : Nat) (v : Int), v + 1 + r = g 34 → -1 ≤ v → (P ≠ [] → (stt P : Int) ≤ v) → ∀ (s : SM) (o : Option (List Nat)) (best : Int), RR s g → MPx 256 s P → gI s 256 P.length = zI v → HO s g best o → (∀ q, o = some q → CR g wi q) → PRC o n (cd P + (v + 1) * pw P.length) → ∃ s' o' b', BoR g wi n P v s o s' o' b' ∧ ST ((r + 1) * (V + 1)) (fun m => (lX12_bestOf m).2.1 s (zI wi) (zI best) (zI (n : Int)) (zI (P.length : Int))) (fun m => (qX12_bestOf m).2.1 s (zI wi) (zI best) (zI (n : Int)) (zI (P.length : Int))) (fun m => (lX12_bestOf m).2.1 s' (zI wi) (zI b') (zI (n : Int)) (zI ((P.length : Int) - 1))) (fun m => (qX12_bestOf m).2.1 s' (zI wi) (zI b') (zI (n : Int)) (zI ((P.length : Int) - 1))) := by
  have h0 := hw.w0
  obtain ⟨p1, p2, p3⟩ := pw_pB (l := P.length) (by omega)
  have ci : (zI (P.length : Int)).toNatClampNeg = P.length := by rw [z_cl (by omega)]; exact Int.toNat_natCast _
  have vi : vp_in (zI (P.length : Int)) 5 := by rw [z_in (by omega)]; omega
  have ni : ((P.length : Int) < 0) = False := eq_false (by omega)
  intro r
  induction r with
  | zero =>
    intro v hvr hv1 _ s o best hR hP hring ho hg hp
    have hb := HO_b hw ho hg
    obtain ⟨s1, hs1⟩ : ∃ s1, s1 = pI s 256 P.length (zI (v + 1)) := ⟨_, rfl⟩
    have e1 : gI s1 256 P.length = zI (v + 1) := by rw [hs1, gI_s, if_pos rfl]
    have fp : Fp BoA s s1 := by rw [hs1]; exact Fp_p s (Or.inl rfl)
    have x34 := x_34 (RR_bo hR fp)
    have nv : (v + 1 < g 34) = False := eq_false (by omega)
    have e1' : v + 1 = g 34 := by omega
    have e9 : (zI (P.length : Int)) + (-1) = zI ((P.length : Int) - 1) := by rw [zl1, z_neg, z_add]; rfl
    refine ⟨s1, o, best, ⟨fp, fun j hj => by rw [hs1, gI_s, if_neg (by omega)], HO_c ho (by rw [hs1, gI_n _ _ _ _ (by omega)]) (fun k => by rw [hs1, gI_n _ _ _ _ (by omega)]), hg, Int.le_refl _, fun c hc hl ⟨S, w, e, hlo⟩ => ?_, PRC_m hp ?_⟩, ST_mono (B1 := 1) (ST_1 fun m => ?_) (by omega)⟩
    · have := (vpa_ok hc.1.1 w (by rw [e]; simp)).1.1
      omega
    · have : (v + 1) * pw P.length ≤ 60 * pw P.length := Int.mul_le_mul_of_nonneg_right (by omega) (by omega)
      omega
    · rw [lpX12_bestOf_19, qpX12_bestOf_19]
      simp (disch := omega) only [tX12_bestOf_19, uX12_bestOf_19, ci, vi, hring, zl0, zl1, z_add, ← hs1, e1, x34, z_lt, ni, nv, if_true, if_false, true_and, and_true, not_true, not_false_eq_true, false_implies, true_implies, imp_self, and_self, and_false, false_and, or_true, true_or, or_false, false_or, ite_self, implies_true]
      simp only [← zl1, e9, imp_self, and_self]
  | succ r ih =>
    intro v hvr hv1 hst s o best hR hP hring ho hg hp
    have hb := HO_b hw ho hg
    obtain ⟨w, hwv⟩ : ∃ w : Nat, (w : Int) = v + 1 := ⟨(v + 1).toNat, by omega⟩
    have hwd : dlZ g w := by omega
    have hcd : cd (w :: P) = cd P + (v + 1) * pw P.length := by show cd P + (w : Int) * pw P.length = _; rw [hwv]
    have hmul : (v + 1 + 1) * pw P.length = (v + 1) * pw P.length + pw P.length := by rw [Int.add_mul (v + 1), Int.one_mul]
    -- behind the visit of w
    have fin : ∀ (s1 : SM) (o1 : Option (List Nat)) (b1 : Int) (B : Nat), B ≤ V + 1 → Fp BoA s s1 → (∀ j, j < P.length → gI s1 256 j = gI s 256 j) → gI s1 256 P.length = zI (w : Int) → HO s1 g b1 o1 → (∀ q, o1 = some q → CR g wi q) → KB g o ≤ KB g o1 → (∀ c, CR g wi c → c.length = n → (∃ S, c = S ++ w :: P) → KK g c ≤ KB g o1) → PRC o1 n (cd (w :: P) + pw P.length) → ST B (fun m => (lX12_bestOf m).2.1 s (zI wi) (zI best) (zI (n : Int)) (zI (P.length : Int))) (fun m => (qX12_bestOf m).2.1 s (zI wi) (zI best) (zI (n : Int)) (zI (P.length : Int))) (fun m => (lX12_bestOf m).2.1 s1 (zI wi) (zI b1) (zI (n : Int)) (zI (P.length : Int))) (fun m => (qX12_bestOf m).2.1 s1 (zI wi) (zI b1) (zI (n : Int)) (zI (P.length : Int))) → ∃ s' o' b', BoR g wi n P v s o s' o' b' ∧ ST ((r + 1 + 1) * (V + 1)) (fun m => (lX12_bestOf m).2.1 s (zI wi) (zI best) (zI (n : Int)) (zI (P.length : Int))) (fun m => (qX12_bestOf m).2.1 s (zI wi) (zI best) (zI (n : Int)) (zI (P.length : Int))) (fun m => (lX12_bestOf m).2.1 s' (zI wi) (zI b') (zI (n : Int)) (zI ((P.length : Int) - 1))) (fun m => (qX12_bestOf m).2.1 s' (zI wi) (zI b') (zI (n : Int)) (zI ((P.length : Int) - 1))) := by
      intro s1 o1 b1 B hB f1 f2 f3 f4 f5 f6 f7 f8 f9
      obtain ⟨s', o', b', ⟨a1, a2, a3, a4, a5, a6, a7⟩, a8⟩ := ih (v + 1) (by omega) (by omega) (fun hq => by have := hst hq; omega) s1 o1 b1 (RR_bo hR f1) (MPx_j hP f2) (by rw [f3, hwv]) f4 f5 (by rw [hmul, ← Int.add_assoc, ← hcd]; exact f8)
      refine ⟨s', o', b', ⟨Fp_tr f1 a1, fun j hj => by rw [a2 j hj, f2 j hj], a3, a4, Int.le_trans f6 a5, fun c hc hl ⟨S, w', e, hlo⟩ => ?_, a7⟩, ST_mono (ST_trans f9 a8) ?_⟩
      · by_cases hq : (w' : Int) = v + 1
        · have : w' = w := by omega
          subst this
          exact Int.le_trans (f7 c hc hl ⟨S, e⟩) a5
        · exact a6 c hc hl ⟨S, w', e, by omega⟩
      · rw [Nat.succ_mul (r + 1)]; omega
    by_cases hok : vpa g (w :: P)
    · have hcn' : ∀ y ∈ w :: P, stt (w :: P) ≤ y := by
        by_cases hP0 : P = []
        · subst hP0; intro y hy; rw [List.mem_singleton.mp hy]; exact Nat.le_refl _
        · rw [stt_cons w hP0]
          intro y hy
          rcases List.mem_cons.mp hy with rfl | hy
          · have := hst hP0; omega
          · exact hcn y hy
      obtain ⟨s1, o1, b1, a1, a2, a3, a4, a5, a6, a7, a8, a9⟩ := hvis w s o best hwd hR hP hok hcn' (by rw [hring, hwv]; congr 1; omega) ho hg (by rw [hcd]; exact hp)
      exact fin s1 o1 b1 V (by omega) a1 a2 a3 a4 a5 a6 a7 a8 a9
    · obtain ⟨s1, hs1⟩ : ∃ s1, s1 = pI s 256 P.length (zI (w : Int)) := ⟨_, rfl⟩
      have e1 : gI s1 256 P.length = zI (w : Int) := by rw [hs1, gI_s, if_pos rfl]
      have fp : Fp BoA s s1 := by rw [hs1]; exact Fp_p s (Or.inl rfl)
      have hj : ∀ j, j < P.length → gI s1 256 j = gI s 256 j := fun j hj => by rw [hs1, gI_s, if_neg (by omega)]
      have hR1 := RR_bo hR fp
      have x34 := x_34 hR1
      have nv : ((w : Int) < g 34) = True := eq_true (by omega)
      obtain ⟨c1, c2, c3⟩ := x_canRing hR1 hw (P := P) (w := w) ⟨e1, MPx_j hP hj⟩ hv (by omega) hwd
      have c2 := c2 hok
      refine fin s1 o best 1 (by omega) fp hj e1 (HO_c ho (by rw [hs1, gI_n _ _ _ _ (by omega)]) (fun k => by rw [hs1, gI_n _ _ _ _ (by omega)])) hg (Int.le_refl _) (fun c hc hl ⟨S, e⟩ => ?_) (PRC_m hp (by omega)) (ST_1 fun m => ?_)
      · have := hc.1.1
        rw [e] at this
        exact absurd (vpa_app this) hok
      · rw [lpX12_bestOf_19, qpX12_bestOf_19]
        simp (disch := omega) only [tX12_bestOf_19, uX12_bestOf_19, ci, vi, hring, zl0, zl1, z_add, ← hwv, ← hs1, e1, x34, z_lt, z_eq, ni, nv, c2, c3, if_true, if_false, true_and, and_true, not_true, not_false_eq_true, false_implies, true_implies, imp_self, and_self, and_false, false_and, or_true, true_or, or_false, false_or, ite_self, implies_true]
theorem vis_leaf (hw : WF g) {wi : Int} (hwi : IR wi) {n : Nat} (hn2 : 2 ≤ n) (hn5 : n ≤ 5) {P : List Nat} (hPn : P.length + 1 = n) : Vis g wi n P 19 := by
  have h0 := hw.w0
  have ci : (zI (P.length : Int)).toNatClampNeg = P.length := by rw [z_cl (by omega)]; exact Int.toNat_natCast _
  have vi : vp_in (zI (P.length : Int)) 5 := by rw [z_in (by omega)]; omega
  have ni : ((P.length : Int) < 0) = False := eq_false (by omega)
  have nn : ((n : Int) - 1 ≤ (P.length : Int)) = True := eq_true (by omega)
  obtain ⟨p1, p2, p3⟩ := pw_pB (l := P.length) (by omega)
  intro w s o best hwd hR hP hv hcn hring ho hg hp
  have hb := HO_b hw ho hg
  have hwb := hw.wd hwd
  obtain ⟨s1, hs1⟩ : ∃ s1, s1 = pI s 256 P.length (zI (w : Int)) := ⟨_, rfl⟩
  have e1 : gI s1 256 P.length = zI (w : Int) := by rw [hs1, gI_s, if_pos rfl]
  have fp : Fp BoA s s1 := by rw [hs1]; exact Fp_p s (Or.inl rfl)
  have hj : ∀ j, j < P.length → gI s1 256 j = gI s 256 j := fun j hj => by rw [hs1, gI_s, if_neg (by omega)]
  have hR1 := RR_bo hR fp
  have x34 := x_34 hR1
  have nv : ((w : Int) < g 34) = True := eq_true (by omega)
  have hP1 : MPx 256 s1 (w :: P) := ⟨e1, MPx_j hP hj⟩
  obtain ⟨c1, c2, c3⟩ := x_canRing hR1 hw (P := P) (w := w) hP1 hv.2.2.2 (by omega) hwd
  have c1 := c1 hv
  have a0 := MPx_0 (by simp) hP1
  have hst : stt (w :: P) ∈ w :: P := stt_mem (by simp)
  have hsd := (vpa_ok hv _ hst).1.1
  have hsb := hw.wd hsd
  have o1 := x_of hR1 (d := (w : Int)) (w := 1) (by omega) (by omega)
  have q1 := x_of_r s1 (d := (w : Int)) (w := 1) (by omega) (by omega)
  have o0 := x_of hR1 (d := (stt (w :: P) : Int)) (w := 0) (by omega) (by omega)
  have q0 := x_of_r s1 (d := (stt (w :: P) : Int)) (w := 0) (by omega) (by omega)
  have ho1 : HO s1 g best o := HO_c ho (by rw [hs1, gI_n _ _ _ _ (by omega)]) (fun k => by rw [hs1, gI_n _ _ _ _ (by omega)])
  have hw1 : gI s 256 P.length + zI 1 = zI (w : Int) := by rw [hring, z_add]; congr 1; omega
  have hc0 : (0 : Int32).toNatClampNeg = 0 := rfl
  have k10 : (zI 1 = zI 0) = False := eq_false (by decide)
  by_cases hcl : oZ g w 1 = oZ g (stt (w :: P)) 0
  · have hcyc : RGs g True (w :: P) := ⟨hv, by rw [List.length_cons]; omega, fun x Q hq => by cases hq; exact hcl, fun _ => hcn⟩
    have hl : (w :: P).length = n := by rw [List.length_cons]; omega
    obtain ⟨s', o', b', f1, f2, f3, f4, f5, f6, f7, f8⟩ := x_leaf hR1 hw hwi hP1 hcyc ho1 hg (by rw [hl]; exact hp) (zI (P.length : Int))
    rw [hl] at f7 f8
    refine ⟨s', o', b', Fp_tr fp f1, fun j hj2 => by rw [f2, hj j hj2], by rw [f2, e1], f3, f4, f5, fun c hc hlc ⟨S, e⟩ => ?_, PRC_m f7 (by omega), ST_mono (ST_trans (B1 := 1) (ST_1 fun m => ?_) f8) (by omega)⟩
    · have : S = [] := by
        have := congrArg List.length e
        rw [List.length_append, hl, hlc] at this
        exact List.length_eq_zero_iff.mp (by omega)
      subst this
      rw [List.nil_append] at e
      subst e
      exact f6 hc
    · rw [lpX12_bestOf_19, qpX12_bestOf_19]
      generalize hlK : lX12_bestOf m = K
      generalize hqK : qX12_bestOf m = Q
      simp (disch := omega) only [tX12_bestOf_19, uX12_bestOf_19, ci, vi, zl0, zl1, hw1, z_sub, ← hs1, e1, ← zl0, hc0, a0, x34]
      simp (disch := omega) only [zl0, zl1, o1, q1, o0, q0, hcl, z_lt, z_le, z_eq, ni, nv, nn, c1, c3, k10, if_true, if_false, true_and, and_true, not_true, not_false_eq_true, false_implies, true_implies, imp_self, and_self, and_false, false_and, or_true, true_or, or_false, false_or, ite_self, implies_true]
  · have kcl : (oZ g w 1 = oZ g (stt (w :: P)) 0) = False := eq_false hcl
    refine ⟨s1, o, best, fp, hj, e1, ho1, hg, Int.le_refl _, fun c hc hlc ⟨S, e⟩ => ?_, PRC_m hp (by omega), ST_mono (B1 := 1) (ST_1 fun m => ?_) (by omega)⟩
    · have : S = [] := by
        have := congrArg List.length e
        rw [List.length_append, List.length_cons, hlc] at this
        exact List.length_eq_zero_iff.mp (by omega)
      subst this
      rw [List.nil_append] at e
      subst e
      exact absurd (hc.1.2.2.1 w P rfl) hcl
    · rw [lpX12_bestOf_19, qpX12_bestOf_19]
      generalize hlK : lX12_bestOf m = K
      generalize hqK : qX12_bestOf m = Q
      simp (disch := omega) only [tX12_bestOf_19, uX12_bestOf_19, ci, vi, zl0, zl1, hw1, z_sub, ← hs1, e1, ← zl0, hc0, a0, x34]
      simp (disch := omega) only [zl0, zl1, o1, q1, o0, q0, kcl, z_lt, z_le, z_eq, ni, nv, nn, c1, c3, k10, if_true, if_false, true_and, and_true, not_true, not_false_eq_true, false_implies, true_implies, imp_self, and_self, and_false, false_and, or_true, true_or, or_false, false_or, ite_self, implies_true]
theorem vis_in (hw : WF g) {wi : Int} (hwi : IR wi) {n : Nat} (hn2 : 2 ≤ n) (hn5 : n ≤ 5) {P : List Nat} (hPn : P.length + 1 < n) {B : Nat} (hin : ∀ w : Nat, vpa g (w :: P) → (∀ y ∈ w :: P, stt (w :: P) ≤ y) → ∀ (r : Nat) (v : Int), v + 1 + r = g 34 → -1 ≤ v → (stt (w :: P) : Int) ≤ v → ∀ (s : SM) (o : Option (List Nat)) (best : Int), RR s g → MPx 256 s (w :: P) → gI s 256 (w :: P).length = zI v → HO s g best o → (∀ q, o = some q → CR g wi q) → PRC o n (cd (w :: P) + (v + 1) * pw (w :: P).length) → ∃ s' o' b', BoR g wi n (w :: P) v s o s' o' b' ∧ ST ((r + 1) * B) (fun m => (lX12_bestOf m).2.1 s (zI wi) (zI best) (zI (n : Int)) (zI ((w :: P).length : Int))) (fun m => (qX12_bestOf m).2.1 s (zI wi) (zI best) (zI (n : Int)) (zI ((w :: P).length : Int))) (fun m => (lX12_bestOf m).2.1 s' (zI wi) (zI b') (zI (n : Int)) (zI (((w :: P).length : Int) - 1))) (fun m => (qX12_bestOf m).2.1 s' (zI wi) (zI b') (zI (n : Int)) (zI (((w :: P).length : Int) - 1)))) : Vis g wi n P (2 + 61 * B) := by
  have h0 := hw.w0
  have ci : (zI (P.length : Int)).toNatClampNeg = P.length := by rw [z_cl (by omega)]; exact Int.toNat_natCast _
  have vi : vp_in (zI (P.length : Int)) 5 := by rw [z_in (by omega)]; omega
  have ci1 : (zI ((P.length : Int) + 1)).toNatClampNeg = P.length + 1 := by rw [z_cl (by omega)]; omega
  have vi1 : vp_in (zI ((P.length : Int) + 1)) 5 := by rw [z_in (by omega)]; omega
  have ni : ((P.length : Int) < 0) = False := eq_false (by omega)
  have nn : ((n : Int) - 1 ≤ (P.length : Int)) = False := eq_false (by omega)
  obtain ⟨p1, p2, p3⟩ := pw_pB (l := P.length) (by omega)
  obtain ⟨p4, p5, p6⟩ := pw_pB (l := P.length + 1) (by omega)
  intro w s o best hwd hR hP hv hcn hring ho hg hp
  have hb := HO_b hw ho hg
  obtain ⟨s1, hs1⟩ : ∃ s1, s1 = pI s 256 P.length (zI (w : Int)) := ⟨_, rfl⟩
  have e1 : gI s1 256 P.length = zI (w : Int) := by rw [hs1, gI_s, if_pos rfl]
  have fp : Fp BoA s s1 := by rw [hs1]; exact Fp_p s (Or.inl rfl)
  have hj : ∀ j, j < P.length → gI s1 256 j = gI s 256 j := fun j hj => by rw [hs1, gI_s, if_neg (by omega)]
  have hR1 := RR_bo hR fp
  have x34 := x_34 hR1
  have nv : ((w : Int) < g 34) = True := eq_true (by omega)
  have hP1 : MPx 256 s1 (w :: P) := ⟨e1, MPx_j hP hj⟩
  obtain ⟨c1, c2, c3⟩ := x_canRing hR1 hw (P := P) (w := w) hP1 hv.2.2.2 (by omega) hwd
  have c1 := c1 hv
  have a0 := MPx_0 (by simp) hP1
  have hst : stt (w :: P) ∈ w :: P := stt_mem (by simp)
  have hsd := (vpa_ok hv _ hst).1.1
  have hw1 : gI s 256 P.length + zI 1 = zI (w : Int) := by rw [hring, z_add]; congr 1; omega
  have hc0 : (0 : Int32).toNatClampNeg = 0 := rfl
  have k10 : (zI 1 = zI 0) = False := eq_false (by decide)
  obtain ⟨s2, hs2⟩ : ∃ s2, s2 = pI s1 256 (P.length + 1) (zI (stt (w :: P) : Int)) := ⟨_, rfl⟩
  have fp2 : Fp BoA s s2 := by rw [hs2]; exact Fp_tr fp (Fp_p s1 (Or.inl rfl))
  have hj2 : ∀ j, j < P.length + 1 → gI s2 256 j = gI s1 256 j := fun j hj => by rw [hs2, gI_s, if_neg (by omega)]
  have hl : (w :: P).length = P.length + 1 := List.length_cons
  have hR2 := RR_bo hR fp2
  have hpos : 0 ≤ ((stt (w :: P) : Int) + 1) * pw (P.length + 1) := Int.mul_nonneg (by omega) (by omega)
  obtain ⟨s', o', b', ⟨f1, f2, f3, f4, f5, f6, f7⟩, f8⟩ := hin w hv hcn (g 34 - 1 - stt (w :: P)).toNat (stt (w :: P) : Int) (by omega) (by omega) (Int.le_refl _) s2 o best hR2 (MPx_j hP1 (fun j hj => hj2 j (by omega))) (by rw [hl, hs2, gI_s, if_pos rfl]) (HO_c ho (by rw [hs2, gI_n _ _ _ _ (by omega), hs1, gI_n _ _ _ _ (by omega)]) (fun k => by rw [hs2, gI_n _ _ _ _ (by omega), hs1, gI_n _ _ _ _ (by omega)])) hg (by rw [hl]; exact PRC_m hp (by omega))
  rw [hl] at f2 f7 f8
  have hl1 : (((P.length + 1 : Nat) : Int) - 1) = (P.length : Int) := by omega
  rw [hl1] at f8
  refine ⟨s', o', b', Fp_tr fp2 f1, fun j hjp => by rw [f2 j (by omega), hj2 j (by omega), hj j hjp], by rw [f2 _ (by omega), hj2 _ (by omega), e1], f3, f4, f5, fun c hc hlc ⟨S, e⟩ => ?_, ?_, ST_mono (ST_trans (B1 := 1) (ST_1 fun m => ?_) f8) ?_⟩
  · have hS : S ≠ [] := by
      intro hS
      subst hS
      have := congrArg List.length e
      rw [List.nil_append, hlc, hl] at this
      omega
    obtain ⟨S', x, rfl⟩ : ∃ S' x, S = S' ++ [x] := ⟨S.dropLast, S.getLast hS, (List.dropLast_concat_getLast hS).symm⟩
    have e2 : c = S' ++ x :: (w :: P) := by rw [e, List.append_assoc]; rfl
    refine f6 c hc hlc ⟨S', x, e2, ?_⟩
    have h1 := hc.1.2.2.2 trivial x (by rw [e2]; simp)
    have h2 : stt c = stt (w :: P) := by rw [e]; exact stt_app _ (by simp)
    have h3 : vpa g (x :: w :: P) := by have := hc.1.1; rw [e2] at this; exact vpa_app this
    have h4 : x ≠ stt (w :: P) := fun hq => h3.2.2.1 (stt (w :: P)) hst (by rw [hq])
    omega
  · rw [p2] at f7; exact f7
  · rw [lpX12_bestOf_19, qpX12_bestOf_19]
    generalize hlK : lX12_bestOf m = K
    generalize hqK : qX12_bestOf m = Q
    simp (disch := omega) only [tX12_bestOf_19, uX12_bestOf_19, ci, vi, zl0, zl1, hw1, z_sub, z_add, ci1, vi1, ← hs1, e1, ← zl0, hc0, a0, ← hs2, x34]
    simp (disch := omega) only [zl0, zl1, z_lt, z_le, z_eq, ni, nv, nn, c1, c3, k10, Int.natCast_succ, forall_eq, if_true, if_false, true_and, and_true, not_true, not_false_eq_true, false_implies, true_implies, imp_self, and_self, and_false, false_and, or_true, true_or, or_false, false_or, ite_self, implies_true]
  · have : ((g 34 - 1 - stt (w :: P)).toNat + 1) * B ≤ 61 * B := Nat.mul_le_mul_right _ (by omega)
    omega
theorem x_vis (hw : WF g) {wi : Int} (hwi : IR wi) {n : Nat} (hn2 : 2 ≤ n) (hn5 : n ≤ 5) : ∀ k (P : List Nat), P.length + 1 + k = n → Vis g wi n P (TB k) := by
  intro k
  induction k with
  | zero => intro P hk; exact vis_leaf hw hwi hn2 hn5 (by omega)
  | succ k ih =>
    intro P hk
    refine vis_in hw hwi hn2 hn5 (by omega) (B := TB k + 1) (fun w hv hcn r v h1 h2 h3 s o best hR hP hr ho hg hp => ?_)
    exact x_lev1 hw hwi hn5 (P := w :: P) (by rw [List.length_cons]; omega) hv hcn (ih (w :: P) (by rw [List.length_cons]; omega)) r v h1 h2 (fun _ => h3) s o best hR hP hr ho hg hp
theorem x_bn (hw : WF g) {wi : Int} (hwi : IR wi) {n : Nat} (hn2 : 2 ≤ n) (hn5 : n ≤ 5) {s : SM} {o : Option (List Nat)} {best : Int} (hR : RR s g) (ho : HO s g best o) (hg : ∀ q, o = some q → CR g wi q) (hp : PRC o n 0) (hcov : ∀ c, CR g wi c → c.length < n → KK g c ≤ KB g o) : ∃ s' o' b', Fp BoA s s' ∧ HO s' g b' o' ∧ (∀ q, o' = some q → CR g wi q) ∧ PRC o' (n + 1) 0 ∧ (∀ c, CR g wi c → c.length < n + 1 → KK g c ≤ KB g o') ∧ ST 200000000000 (fun m => (lX12_bestOf m).1 s (zI wi) (zI best) (zI (n : Int))) (fun m => (qX12_bestOf m).1 s (zI wi) (zI best) (zI (n : Int))) (fun m => (lX12_bestOf m).1 s' (zI wi) (zI b') (zI ((n + 1 : Nat) : Int))) (fun m => (qX12_bestOf m).1 s' (zI wi) (zI b') (zI ((n + 1 : Nat) : Int))) := by
  have h0 := hw.w0
  have hb := HO_b hw ho hg
  obtain ⟨s1, hs1⟩ : ∃ s1, s1 = pI s 256 0 (zI (-1)) := ⟨_, rfl⟩
  have e1 : gI s1 256 0 = zI (-1) := by rw [hs1, gI_s, if_pos rfl]
  have fp : Fp BoA s s1 := by rw [hs1]; exact Fp_p s (Or.inl rfl)
  have ho1 : HO s1 g best o := HO_c ho (by rw [hs1, gI_n _ _ _ _ (by omega)]) (fun k => by rw [hs1, gI_n _ _ _ _ (by omega)])
  obtain ⟨s', o', b', ⟨a1, a2, a3, a4, a5, a6, a7⟩, a8⟩ := x_lev1 hw hwi hn5 (P := []) (show 0 < n by omega) trivial (fun y hy => absurd hy (by simp)) (x_vis hw hwi hn2 hn5 (n - 1) [] (by rw [List.length_nil]; omega)) (g 34).toNat (-1) (by omega) (by omega) (fun hc => absurd rfl hc) s1 o best (RR_bo hR fp) trivial e1 ho1 hg hp
  have hb' := HO_b hw a3 a4
  have hc0 : (0 : Int32).toNatClampNeg = 0 := rfl
  have n5 : ((5 : Int) < (n : Int)) = False := eq_false (by omega)
  have hB : ((g 34).toNat + 1) * (TB (n - 1) + 1) ≤ 61 * (TB (n - 1) + 1) := Nat.mul_le_mul_right _ (by omega)
  have hT : TB (n - 1) ≤ 300000000 := by
    rcases (show n - 1 = 1 ∨ n - 1 = 2 ∨ n - 1 = 3 ∨ n - 1 = 4 by omega) with e | e | e | e <;> rw [e] <;> decide
  refine ⟨s', o', b', Fp_tr fp a1, a3, a4, fun q hq => ⟨by have := (a7 q hq).1; omega, fun hl => by have := (a7 q hq).1; omega⟩, fun c hc hl => ?_, ST_mono (ST_trans (B1 := 1) (ST_1 fun m => ?_) (ST_trans (B2 := 1) a8 (ST_1 fun m => ?_))) (by omega)⟩
  · by_cases hl2 : c.length < n
    · exact Int.le_trans (hcov c hc hl2) a5
    · have hne : c ≠ [] := fun hq => by rw [hq] at hl2; exact hl2 (by rw [List.length_nil]; omega)
      exact a6 c hc (by omega) ⟨c.dropLast, c.getLast hne, (List.dropLast_concat_getLast hne).symm, by omega⟩
  · rw [lpX12_bestOf_4, qpX12_bestOf_4]
    generalize hlK : lX12_bestOf m = K
    generalize hqK : qX12_bestOf m = Q
    simp (disch := omega) only [tX12_bestOf_4, uX12_bestOf_4, zl1, zl5, z_lt, n5, z_neg, ← zl0, hc0, if_true, if_false, true_and, and_true, not_true, not_false_eq_true, false_implies, true_implies, imp_self, and_self, and_false, false_and, or_true, true_or, or_false, false_or, ite_self, implies_true]
    rw [← hs1]
    exact ⟨rfl, fun h => h⟩
  · rw [lpX12_bestOf_19, qpX12_bestOf_19]
    generalize hlK : lX12_bestOf m = K
    generalize hqK : qX12_bestOf m = Q
    have hl0 : ((([] : List Nat).length : Nat) : Int) - 1 = -1 := rfl
    have nm : (((-1 : Int)) < 0) = True := eq_true (by decide)
    simp only [hl0]
    simp (disch := omega) only [tX12_bestOf_19, uX12_bestOf_19, zl0, zl1, z_lt, nm, z_add, Int.natCast_succ, not_true, false_implies, if_true, if_false, true_and, and_true, not_true, not_false_eq_true, false_implies, true_implies, imp_self, and_self, and_false, false_and, or_true, true_or, or_false, false_or, ite_self, implies_true]
theorem x_bestOf {s : SM} (hR : RR s g) (hw : WF g) {wi : Int} (hwi : IR wi) : ∃ s' o b, mX12_bestOf s (zI wi) = s' ∧ vX12_bestOf s (zI wi) = zI b ∧ rX12_bestOf s (zI wi) ∧ Fp BoA s s' ∧ HO s' g b o ∧ (∀ q, o = some q → CR g wi q) ∧ ∀ c, CR g wi c → KK g c ≤ KB g o := by
  obtain ⟨s2, o2, b2, a1, a2, a3, a4, a5, a6⟩ := x_bn hw hwi (n := 2) (by omega) (by omega) (o := none) (best := -1) hR rfl (fun q hq => by cases hq) (fun q hq => by cases hq) (fun c hc hl => by have := hc.1.2.1; omega)
  obtain ⟨s3, o3, b3, d1, d2, d3, d4, d5, d6⟩ := x_bn hw hwi (n := 3) (by omega) (by omega) (RR_bo hR a1) a2 a3 a4 a5
  obtain ⟨s4, o4, b4, e1, e2, e3, e4, e5, e6⟩ := x_bn hw hwi (n := 4) (by omega) (by omega) (RR_bo (RR_bo hR a1) d1) d2 d3 d4 d5
  obtain ⟨s5, o5, b5, f1, f2, f3, f4, f5, f6⟩ := x_bn hw hwi (n := 5) (by omega) (by omega) (RR_bo (RR_bo (RR_bo hR a1) d1) e1) e2 e3 e4 e5
  have hb' := HO_b hw f2 f3
  obtain ⟨E, R⟩ := ST_fu (ST_trans a6 (ST_trans d6 (ST_trans e6 (ST_trans (B2 := 1) f6 (ST_1 (F' := fun _ => (zI b5, s5)) (C' := fun _ => True) fun m => by
    rw [lpX12_bestOf_4, qpX12_bestOf_4]
    generalize hlK : lX12_bestOf m = K
    generalize hqK : qX12_bestOf m = Q
    simp (disch := omega) only [tX12_bestOf_4, uX12_bestOf_4, zl1, zl5, z_lt, show (((5 + 1 : Nat) : Int)) = 6 from rfl, Int.reduceAdd, Int.reduceSub, Int.reduceMul, Int.reduceNeg, Int.reduceLT, Int.reduceLE, Int.reduceToNat, Int.reduceEq, if_true, if_false, true_and, and_true, not_true, not_false_eq_true, false_implies, true_implies, imp_self, and_self, and_false, false_and, or_true, true_or, or_false, false_or, ite_self, implies_true]))))) (by omega)
  have E' : fX12_bestOf s (zI wi) = (zI b5, s5) := E
  refine ⟨s5, o5, b5, ?_, ?_, R, Fp_tr a1 (Fp_tr d1 (Fp_tr e1 f1)), f2, f3, fun c hc => f5 c hc (by have := hc.1.2.1; omega)⟩
  · unfold mX12_bestOf; rw [E']
  · unfold vX12_bestOf; rw [E']
end
