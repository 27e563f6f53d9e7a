-- needs: 42.qa 51.fr 54.copy 55.hist 56.hist 60.rg 61.xrg 62.best 64.yprep 65.yext 66.yloop 67.yext
def StC (g : Nat → Int) (L P : Nat) (br lo0 lo en : Nat → Nat) (cn : Prop) (st : Nat) (s : SM) : Prop := LdR s L P g ∧ RgL s L P ∧ RoW g s br lo0 en ∧ (∀ c, c < 9 → gI s 223 c = zI (lo c : Int)) ∧ ∀ c, c < 9 → lo0 c ≤ lo c ∧ lo c ≤ en c ∧ ∀ i, lo0 c ≤ i → i < en c → (lo c ≤ i ↔ (cn → st < br i))
abbrev StA (c i : Nat) : Prop := c = 219 ∨ c = 220 ∨ (c = 218 ∧ (i = 1 ∨ i = 2 ∨ i = 3 ∨ i = 11))
theorem RoW_c {g : Nat → Int} {br lo0 en : Nat → Nat} {s t : SM} (h : RoW g s br lo0 en) (h1 : ∀ c, 221 ≤ c → c ≤ 224 → c ≠ 223 → gI t c = gI s c) (h2 : gI t 218 7 = gI s 218 7) : RoW g t br lo0 en := by
  obtain ⟨r1, r2, mf, r3, r4, r5, r6⟩ := h
  refine ⟨fun c hc => ?_, fun w hw => by rw [h1 221 (by omega) (by omega) (by omega)]; exact r2 w hw, mf, by rw [h2]; exact r3, r4, r5, r6⟩
  obtain ⟨k1, k2, k3, k4⟩ := r1 c hc
  exact ⟨by rw [h1 224 (by omega) (by omega) (by omega)]; exact k1, k2, k3, fun i hi => by rw [h1 222 (by omega) (by omega) (by omega)]; exact k4 i hi⟩
section
variable {s : SM} {g : Nat → Int} {L P : Nat}
theorem y_start (hw : WF g) {br lo0 lo en : Nat → Nat} {cn : Prop} {d : Nat} (hx : StC g L P br lo0 lo en cn d s) (hd : okR g d) {o : Option (List Nat)} (ho : YO s g o) (hg : ∀ q, o = some q → RGs g cn q) (hp : ∀ q, o = some q → d < stt q) : ∃ s' o', mX7_start s (zI (d : Int)) = s' ∧ rX7_start s (zI (d : Int)) ∧ Fp StA s s' ∧ gD s' = gD s ∧ YO s' g o' ∧ (∀ q, o' = some q → o = some q ∨ (RGs g cn q ∧ stt q = d)) ∧ KB g o ≤ KB g o' ∧ ∀ c, RGs g cn c → stt c = d → KK g c ≤ KB g o' := by
  have h0 := hw.w0
  obtain ⟨x1, x2, x3, x4, x5⟩ := hx
  have hLb := RgL_b x2
  have hdl := hd.1.1
  have hwd := hw.wd hdl
  have hdn := (hwd.2.2.2.2.2.2.2.2.2 hd.1.2).2.1
  obtain ⟨f0, f1, f2, -⟩ := n_f x1.2 hw hdl
  have cd' : (zI (d : Int)).toNatClampNeg = d := by rw [z_cl (by omega)]; exact Int.toNat_natCast _
  have vd : vp_in (zI (d : Int)) 60 := by rw [z_in (by omega)]; omega
  rw [cd'] at f0 f1 f2
  have gx := RgL_x x2
  have c0 : (0 : Int32).toNatClampNeg = 0 := rfl
  obtain ⟨s1, hs1⟩ : ∃ s1, s1 = pI (pI s 218 11 (zI (oZ g d 0))) 220 0 (zI (d : Int)) := ⟨_, rfl⟩
  have fp : Fp StA s s1 := by rw [hs1]; exact Fp_tr (Fp_p s (by omega)) (Fp_p _ (by omega))
  have g1 : gD s1 = gD s := by rw [hs1]; rfl
  have hn : ∀ c, c ≠ 218 → c ≠ 220 → gI s1 c = gI s c := fun c h1 h2 => by funext i; rw [hs1, gI_n _ _ _ _ h2, gI_n _ _ _ _ h1]
  have l1 : LdR s1 L P g := LdR_fr x1 (A := fun c => 218 ≤ c ∧ c ≤ 224) ⟨fun c hc => hn c (by omega) (by omega), fp.2⟩ (fun c hc => by omega)
  have L1 := RgL_c x2 g1
  have gx1 := RgL_x L1
  have fr := x3.2.1 d hd
  obtain ⟨M1, a1, a2, a3⟩ := or512 (M := 0) (by omega) (x := oZ g d 0) (by omega)
  have z0 : ∀ y : Int, 0 ≤ y → y < 9 → ¬ hasZ 0 y := fun y h1 h2 => by
    rcases (show y = 0 ∨ y = 1 ∨ y = 2 ∨ y = 3 ∨ y = 4 ∨ y = 5 ∨ y = 6 ∨ y = 7 ∨ y = 8 by omega) with h | h | h | h | h | h | h | h | h <;> rw [h] <;> decide
  have a2 : (1 : Int32) <<< (zI (oZ g d 0) &&& 31) = zI M1 := by rw [← a2, ← zl0]; exact Int32.zero_or.symm
  obtain ⟨M2, b1, b2, b3⟩ := or512 (M := M1) a1 (x := oZ g d 1) (by omega)
  have hMT : MTq g [d] (oZ g d 1) M2 := ⟨b1, fun x hx0 hx9 => by
    rw [b3 x hx0 hx9, a3 x hx0 hx9]
    have := z0 x hx0 hx9
    constructor
    · rintro (h | h | h)
      · exact Or.inl h
      · exact Or.inr ⟨d, by simp, h.symm⟩
      · exact absurd h this
    · rintro (h | ⟨y, hy, h⟩)
      · exact Or.inl h
      · rw [List.mem_singleton.mp hy] at h; exact Or.inr (Or.inl h.symm)⟩
  have hv : vpa g [d] := ⟨hd, fun x Q hq => (by cases hq), fun y hy => absurd hy (by simp), trivial⟩
  have e1 : mnR g [d] = oZ g d 2 := by show (if oZ g d 2 < 1000000000 then oZ g d 2 else (1000000000 : Int)) = _; rw [if_pos (by omega)]
  have e2 : fsR g [d] = frd g d := by rw [fs_cons]; exact if_pos (by show oZ g d 2 < (1000000000 : Int); omega)
  have hxC : ExC g L P br lo0 lo en cn (stt [d]) s1 := ⟨l1, L1, RoW_c x3 (fun c h1 h2 h3 => hn c (by omega) (by omega)) (by rw [hs1, gI_n _ _ _ _ (by omega), gI_s, if_neg (by decide)]), by rw [hs1, gI_n _ _ _ _ (by omega), gI_s, if_pos rfl]; rfl, by rw [hs1, gI_s, if_pos rfl]; rfl, fun c hc => by rw [hn 223 (by omega) (by omega)]; exact x4 c hc, x5⟩
  obtain ⟨s', o', t1, t2, q1, q2, q3, q4, q5, q6, q7⟩ := y_ext hw 4 d [] (oZ g d 1) M2 s1 o 400 rfl hv (fun _ y hy => by rw [List.mem_singleton.mp hy]; exact Nat.le_refl _) rfl (fun y hy => by rw [List.mem_singleton.mp hy]; exact hdn) hMT hxC ⟨by rw [hs1, gI_s]; exact if_pos rfl, trivial⟩ (YO_c ho (fun i hi => by rw [hs1, gI_n _ _ _ _ (by omega), gI_s, if_neg (by omega)]) (fun k => by rw [hn 219 (by omega) (by omega)])) hg (fun q hq => Or.inl (hp q hq)) (by omega)
  rw [e1, e2] at t1 t2
  have i0 : gI s1 218 11 = zI (oZ g d 0) := by rw [hs1, gI_n _ _ _ _ (by omega), gI_s, if_pos rfl]
  have i1 : gI s1 (L + 2) d = zI (oZ g d 1) := by rw [hn _ (by omega) (by omega)]; exact f1
  have i2 : gI s1 (L + 3) d = zI (oZ g d 2) := by rw [hn _ (by omega) (by omega)]; exact f2
  have i3 : gI s1 221 d = zI (frd g d) := by rw [hn _ (by omega) (by omega)]; exact fr
  have l11 : (1 : Int32) = zI (([d] : List Nat).length : Int) := rfl
  refine ⟨s', o', ?_, ?_, Fp_tr fp (Fp_mo q1 (fun c i hc => by omega)), by rw [q2, g1], q4, fun q hq => ?_, q6, fun c hc hs => q7 c hc ?_⟩
  · unfold mX7_start
    dsimp only []
    rw [gx, cd', f0, c0, ← hs1, gx1, i1, i2, i3, i0, a2, b2]
    exact t1
  · unfold rX7_start
    rw [gx, cd', f0, c0, ← hs1, gx1, i1, i2, i3, i0, a2, b2, x2.2.2]
    exact ⟨x2.1, x2.2.1, vd, L1.1, x2.2.1, vd, L1.1, x2.2.1, vd, vd, t2⟩
  · rcases q5 q hq with h | h
    · exact Or.inl h
    · exact Or.inr ⟨h.1, h.2.1⟩
  · have hne : c ≠ [] := fun hq => by have := hc.2.1.1; rw [hq] at this; exact absurd this (by decide)
    obtain ⟨S, hS⟩ := stt_dec hne
    rw [hs] at hS
    refine ⟨S, fun hq => ?_, hS⟩
    have := hc.2.1.1
    rw [hS, hq] at this
    exact absurd this (by simp)
/-- where the rows begin, D of the deals seen from behind -/
def loD (br lo0 lo en : Nat → Nat) (D : Nat) : Prop := ∀ c, c < 9 → lo0 c ≤ lo c ∧ lo c ≤ en c ∧ ∀ i, lo0 c ≤ i → i < en c → (lo c ≤ i ↔ D ≤ br i)
theorem loD_dn {br lo0 lo en : Nat → Nat} {d : Nat} (h : loD br lo0 lo en (d + 1)) {b : Nat} (hb : b < 9) (hr : ∀ c : Nat, c < 9 → Blk g br (c : Int) (lo0 c) (en c) (g 34).toNat) (hd : okR g d) (hdb : oZ g d 0 = b) : 1 ≤ lo b ∧ loD br lo0 (fun c => if c = b then lo b - 1 else lo c) en d := by
  obtain ⟨l1, l2, l3⟩ := h b hb
  obtain ⟨r1, r2, r3, r4⟩ := hr b hb
  obtain ⟨j, j1, j2, j3⟩ := r4 d (by have := hd.1.1; omega) hd hdb
  have hj : j < lo b := by
    by_cases hq : lo b ≤ j
    · have := (l3 j j1 j2).mp hq; omega
    · omega
  have hj2 : lo b = j + 1 := by
    by_cases hq : j + 1 < en b
    · have := (l3 (j + 1) (by omega) hq).mpr (by have := r3 j (j + 1) j1 (by omega) hq; omega)
      omega
    · omega
  refine ⟨by omega, fun c hc => ?_⟩
  by_cases hq : c = b
  · subst hq
    simp only [eq_self, if_true]
    refine ⟨by omega, by omega, fun i i1 i2 => ?_⟩
    rcases (show i < j ∨ i = j ∨ j < i by omega) with h | h | h
    · have := r3 i j i1 h j2; omega
    · subst h; omega
    · have := r3 j i j1 h i2; omega
  · simp only [if_neg hq]
    obtain ⟨m1, m2, m3⟩ := h c hc
    obtain ⟨n1, n2, n3, n4⟩ := hr c hc
    refine ⟨m1, m2, fun i i1 i2 => ?_⟩
    have h1 := m3 i i1 i2
    have h2 := n2 i i1 i2
    by_cases he : br i = d
    · rw [he, hdb] at h2; omega
    · omega
theorem y_findBest (h : LdR s L P g) (hw : WF g) (hLX : (L, P) ∈ LX) (hr : rfx L 8 = P) : ∃ s' o, mX7_findBest s L P = s' ∧ (o = none → vX7_findBest s L P = 0) ∧ (∀ q, o = some q → vX7_findBest s L P = 1) ∧ rX7_findBest s L P ∧ Fp RoA s s' ∧ YO s' g o ∧ (∀ q, o = some q → RGs g True q) ∧ ∀ c, RGs g True c → KK g c ≤ KB g o := by
  have h0 := hw.w0
  obtain ⟨t, br, lo0, en, e1, e2, e3, e4, e5, e6, e7, e8, e9⟩ := y_prepare h hw hLX hr
  have hLb := RgL_b e4
  obtain ⟨s1, hs1⟩ : ∃ s1, s1 = cp 223 224 9 t := ⟨_, rfl⟩
  have f1 : Fr (fun c => c = 223) t s1 := by rw [hs1]; exact cp_f t rfl
  have g1 : gD s1 = gD t := by rw [hs1]; rfl
  have lt : LdR t L P g := LdR_fr h (A := fun c => 218 ≤ c ∧ c ≤ 224) ⟨fun c hc => by funext i; exact e3.1 c i hc, e3.2⟩ (fun c hc => by omega)
  have N := (g 34).toNat
  have up := ST_up (B := 1) (g 34).toNat (fun j (a : SM) => ∃ lo o, Fp RoA t a ∧ gD a = gD t ∧ RoW g a br lo0 en ∧ (∀ c, c < 9 → gI a 223 c = zI (lo c : Int)) ∧ loD br lo0 lo en ((g 34).toNat - j) ∧ YO a g o ∧ (∀ q, o = some q → RGs g True q ∧ (g 34).toNat - j ≤ stt q) ∧ ∀ c, RGs g True c → (g 34).toNat - j ≤ stt c → KK g c ≤ KB g o) (fun j a m => lX7_findBest m a L P (zI (g 34 - 1 - (j : Int)))) (fun j a m => qX7_findBest m a L P (zI (g 34 - 1 - (j : Int)))) (by
    rintro j a hj ⟨lo, o, a1, a2, a3, a4, a5, a6, a7, a8⟩
    obtain ⟨d, hd⟩ : ∃ d, d + 1 = (g 34).toNat - j := ⟨(g 34).toNat - j - 1, by omega⟩
    have hdj : (g 34).toNat - (j + 1) = d := by omega
    have hdi : g 34 - 1 - (j : Int) = (d : Int) := by omega
    have hdi2 : g 34 - 1 - ((j + 1 : Nat) : Int) = (d : Int) - 1 := by omega
    rw [← hd] at a5 a7 a8
    rw [hdj, hdi, hdi2]
    have la : LdR a L P g := LdR_fr lt (A := fun c => 218 ≤ c ∧ c ≤ 224) ⟨fun c hc => by funext i; exact a1.1 c i hc, a1.2⟩ (fun c hc => by omega)
    have La := RgL_c e4 a2
    have hdl : dlZ g d := by omega
    have hwd := hw.wd hdl
    obtain ⟨em, rm⟩ := y_mayBeIn la hw La (d := (d : Int)) (by omega)
    have n1 : ((d : Int) < 0) = False := eq_false (by omega)
    have hsub : ∀ c, RGs g True c → d ≤ stt c → d + 1 ≤ stt c ∨ stt c = d := fun c _ _ => by omega
    by_cases hok : okR g d
    · have hx : StC g L P br lo0 lo en True d a := ⟨la, La, a3, a4, fun c hc => ⟨(a5 c hc).1, (a5 c hc).2.1, fun i i1 i2 => by have h1 := (a5 c hc).2.2 i i1 i2; exact ⟨fun h _ => (by omega), fun h => (by have := h trivial; omega)⟩⟩⟩
      obtain ⟨s', o', t1, t2, t3, t4, t5, t6, t7, t8⟩ := y_start hw hx hok a6 (fun q hq => (a7 q hq).1) (fun q hq => by have := (a7 q hq).2; omega)
      have ls : LdR s' L P g := LdR_fr la (A := fun c => 218 ≤ c ∧ c ≤ 224) ⟨fun c hc => by funext i; exact t3.1 c i (by omega), t3.2⟩ (fun c hc => by omega)
      have Ls := RgL_c La t4
      have gx := RgL_x Ls
      obtain ⟨f0, -⟩ := n_f ls.2 hw hdl
      have cd' : (zI (d : Int)).toNatClampNeg = d := by rw [z_cl (by omega)]; exact Int.toNat_natCast _
      have vd : vp_in (zI (d : Int)) 60 := by rw [z_in (by omega)]; omega
      rw [cd'] at f0
      obtain ⟨b, hb⟩ : ∃ b : Nat, oZ g d 0 = (b : Int) := ⟨(oZ g d 0).toNat, by omega⟩
      have hb9 : b < 9 := by omega
      have cb : (zI (b : Int)).toNatClampNeg = b := by rw [z_cl (by omega)]; exact Int.toNat_natCast _
      have vb : vp_in (zI (b : Int)) 9 := by rw [z_in (by omega)]; omega
      obtain ⟨q1, q2⟩ := loD_dn a5 hb9 (fun c hc => (a3.1 c hc).2.2.1) hok hb
      have e223 : gI s' 223 b = zI (lo b : Int) := by rw [t3.1 223 b (by omega)]; exact a4 b hb9
      have elo : (lo b : Int) - 1 = ((lo b - 1 : Nat) : Int) := by omega
      rw [hb] at f0
      obtain ⟨s2, hs2⟩ : ∃ s2, s2 = pI s' 223 b (zI ((lo b : Int) - 1)) := ⟨_, rfl⟩
      have g2 : ∀ c, c ≠ 223 → gI s2 c = gI s' c := fun c hc => by funext i; rw [hs2, gI_n _ _ _ _ hc]
      refine ⟨s2, ⟨_, o', Fp_tr a1 (Fp_tr (Fp_mo t3 (fun c i hc => by omega)) (by rw [hs2]; exact Fp_p s' (by omega))), by rw [← a2, ← t4, hs2]; rfl, RoW_c a3 (fun c c1 c2 c3 => by rw [g2 c c3]; funext i; exact t3.1 c i (by omega)) (by rw [g2 218 (by omega)]; exact t3.1 218 7 (by omega)), fun c hc => ?_, q2, YO_c t5 (fun i hi => by rw [g2 218 (by omega)]) (fun k => by rw [g2 219 (by omega)]), fun q hq => ?_, fun c hc hs => ?_⟩, ST_1 fun m => ?_⟩
      · by_cases hq : c = b
        · subst hq; simp only [eq_self, if_true]; rw [hs2, gI_s, if_pos rfl, elo]
        · simp only [if_neg hq]; rw [hs2, gI_s, if_neg hq, t3.1 223 c (by omega)]; exact a4 c hc
      · rcases t6 q hq with h | h
        · exact ⟨(a7 q h).1, by have := (a7 q h).2; omega⟩
        · exact ⟨h.1, by omega⟩
      · rcases hsub c hc hs with h | h
        · exact Int.le_trans (a8 c hc h) t7
        · exact t8 c hc h
      · have k1 : okR g d = True := eq_true hok
        have e9 : (d : Int) + -1 = (d : Int) - 1 := rfl
        simp (disch := omega) only [lX7_findBest, qX7_findBest, tX7_findBest_30, uX7_findBest_30, zl0, zl1, z_neg, z_add, z_sub, z_lt, z_eq, n1, em, rm, k1, bI_T, Int.reduceAdd, Int.reduceSub, Int.reduceMul, Int.reduceNeg, Int.reduceLT, Int.reduceLE, Int.reduceToNat, Int.reduceEq, t1, t2, gx, Ls.1, Ls.2.1, Ls.2.2, cd', vd, f0, cb, vb, e223, ← hs2, e9, forall_eq, if_true, if_false, true_and, and_true, not_true, not_false_eq_true, false_implies, true_implies, imp_self, and_self, and_false, false_and, or_true, true_or, or_false, false_or, ite_self, implies_true]
    · refine ⟨a, ⟨lo, o, a1, a2, a3, a4, fun c hc => ⟨(a5 c hc).1, (a5 c hc).2.1, fun i i1 i2 => ?_⟩, a6, fun q hq => ⟨(a7 q hq).1, by have := (a7 q hq).2; omega⟩, fun c hc hs => ?_⟩, ST_1 fun m => ?_⟩
      · have h1 := (a5 c hc).2.2 i i1 i2
        have h2 := ((a3.1 c hc).2.2.1.2.1 i i1 i2).1
        have : br i ≠ d := fun hq => hok (by rw [← hq]; exact h2)
        omega
      · rcases hsub c hc hs with h | h
        · exact a8 c hc h
        · have hne : c ≠ [] := fun hq => by have := hc.2.1.1; rw [hq] at this; exact absurd this (by decide)
          exact absurd (vpa_ok hc.1 _ (stt_mem hne)) (by rw [h]; exact hok)
      · have k1 : okR g d = False := eq_false hok
        have e9 : (d : Int) + -1 = (d : Int) - 1 := rfl
        simp (disch := omega) only [lX7_findBest, qX7_findBest, tX7_findBest_30, uX7_findBest_30, zl0, zl1, z_neg, z_add, z_sub, z_lt, z_eq, n1, em, rm, k1, bI_F, Int.reduceAdd, Int.reduceSub, Int.reduceMul, Int.reduceNeg, Int.reduceLT, Int.reduceLE, Int.reduceToNat, Int.reduceEq, e9, if_true, if_false, true_and, and_true, not_true, not_false_eq_true, false_implies, true_implies, imp_self, and_self, and_false, false_and, or_true, true_or, or_false, false_or, ite_self, implies_true])
  have hb9 := (cN_b hw 0 0)
  obtain ⟨s', ⟨lo, o, a1, a2, a3, a4, a5, a6, a7, a8⟩, st⟩ := up (g 34).toNat 0 s1 (by omega) ⟨en, none, Fp_fr f1 (fun c hc i => by omega), g1, RoW_c e8 (fun c c1 c2 c3 => f1.1 c c3) (by rw [f1.1 218 (by omega)]), fun c hc => by rw [hs1, cp_1 t hc]; exact (e8.1 c hc).1, fun c hc => ⟨(e8.1 c hc).2.2.1.1, Nat.le_refl _, fun i i1 i2 => by have := ((e8.1 c hc).2.2.1.2.1 i i1 i2).2.2; omega⟩, ⟨by rw [f1.1 218 (by omega)]; exact e6, by rw [f1.1 218 (by omega)]; exact e7⟩, fun q hq => (by cases hq), fun c hc hs => by
    have hne : c ≠ [] := fun hq => by have := hc.2.1.1; rw [hq] at this; exact absurd this (by decide)
    have := (vpa_ok hc.1 _ (stt_mem hne)).1.1
    omega⟩
  have hv : ∃ v, (o = none → v = zI 0) ∧ (∀ q, o = some q → v = zI 1) ∧ (if gI s' 218 1 ≤ zI 0 then zI 0 else zI 1) = v := by
    cases o with
    | none => exact ⟨zI 0, fun _ => rfl, fun q hq => (by cases hq), by rw [a6.1]; exact if_pos (Int32.le_refl _)⟩
    | some q =>
      have l := (a7 q rfl).1.2.1
      exact ⟨zI 1, fun hq => (by cases hq), fun _ _ => rfl, by rw [a6.1]; exact if_neg (by rw [z_le (by omega) (by omega)]; omega)⟩
  obtain ⟨v, v1, v2, v3⟩ := hv
  have eN : g 34 - 1 - ((g 34).toNat : Int) = -1 := by omega
  rw [eN] at st
  obtain ⟨E, R⟩ := ST_fu (ST_trans st (ST_1 (F' := fun _ => (v, s')) (C' := fun _ => True) (fun m => by
    have n1 : ((-1 : Int) < 0) = True := eq_true (by decide)
    simp (disch := omega) only [lX7_findBest, qX7_findBest, tX7_findBest_30, uX7_findBest_30, zl0, zl1, z_lt, n1, not_true, false_implies, if_true, if_false, true_and, and_true, not_true, not_false_eq_true, false_implies, true_implies, imp_self, and_self, and_false, false_and, or_true, true_or, or_false, false_or, ite_self, implies_true]
    exact Prod.ext v3 rfl))) (by omega)
  have l1 : LdR s1 L P g := LdR_fr lt f1 (fun c hc => by omega)
  have e9 : gI s1 L 9 - 1 = zI (g 34 - 1 - ((0 : Nat) : Int)) := by rw [l1.2.1.1, zl1, z_sub]; congr 1; omega
  have L1 := RgL_c e4 g1
  have gx := RgL_x L1
  have es1 : cI (mX7_prepare s L P) 223 (va_cpy (gI (mX7_prepare s L P) 224) (gI (mX7_prepare s L P) 223) (0 : Int32).toNatClampNeg (0 : Int32).toNatClampNeg (9 : Int32).toNatClampNeg) = s1 := by rw [e1, hs1]; rfl
  have E' : fX7_findBest s L P = (v, s') := by
    unfold fX7_findBest
    dsimp only []
    rw [es1, gx, e9]
    exact E
  refine ⟨s', o, by unfold mX7_findBest; rw [E'], fun hq => by unfold vX7_findBest; rw [E']; exact v1 hq, fun q hq => by unfold vX7_findBest; rw [E']; exact v2 q hq, ?_, Fp_tr e3 a1, a6, fun q hq => (a7 q hq).1, fun c hc => a8 c hc (by omega)⟩
  unfold rX7_findBest
  rw [es1]
  refine ⟨e2, fun s2 hs2 => ?_⟩
  subst hs2
  rw [gx, e9, L1.2.2]
  exact ⟨L1.1, L1.2.1, R⟩
theorem y_findWith (h : LdR s L P g) (hw : WF g) (hLX : (L, P) ∈ LX) (hr : rfx L 8 = P) {d : Nat} (hd : dlZ g d) : ∃ s' o, mX7_findBestWith s L P (zI (d : Int)) = s' ∧ (o = none → vX7_findBestWith s L P (zI (d : Int)) = 0) ∧ (∀ q, o = some q → vX7_findBestWith s L P (zI (d : Int)) = 1) ∧ rX7_findBestWith s L P (zI (d : Int)) ∧ Fp RoA s s' ∧ YO s' g o ∧ (∀ q, o = some q → RGs g False q ∧ stt q = d) ∧ ∀ c, RGs g False c → stt c = d → KK g c ≤ KB g o := by
  have h0 := hw.w0
  obtain ⟨t, br, lo0, en, e1, e2, e3, e4, e5, e6, e7, e8, e9⟩ := y_prepare h hw hLX hr
  have hLb := RgL_b e4
  have lt : LdR t L P g := LdR_fr h (A := fun c => 218 ≤ c ∧ c ≤ 224) ⟨fun c hc => by funext i; exact e3.1 c i hc, e3.2⟩ (fun c hc => by omega)
  obtain ⟨em, rm⟩ := y_mayBeIn lt hw e4 (d := (d : Int)) (by omega)
  have fin : ∀ (s' : SM) (o : Option (List Nat)), YO s' g o → (∀ q, o = some q → RGs g False q ∧ stt q = d) → ∃ v, (o = none → v = 0) ∧ (∀ q, o = some q → v = 1) ∧ lX7_findBestWith FU s' L P (zI (d : Int)) = (v, s') ∧ qX7_findBestWith FU s' L P (zI (d : Int)) := by
    intro s' o a6 a7
    have hv : ∃ v, (o = none → v = zI 0) ∧ (∀ q, o = some q → v = zI 1) ∧ (if gI s' 218 1 ≤ zI 0 then zI 0 else zI 1) = v := by
      cases o with
      | none => exact ⟨zI 0, fun _ => rfl, fun q hq => (by cases hq), by rw [a6.1]; exact if_pos (Int32.le_refl _)⟩
      | some q =>
        have l := (a7 q rfl).1.2.1
        exact ⟨zI 1, fun hq => (by cases hq), fun _ _ => rfl, by rw [a6.1]; exact if_neg (by rw [z_le (by omega) (by omega)]; omega)⟩
    obtain ⟨v, v1, v2, v3⟩ := hv
    obtain ⟨E, R⟩ := ST_fu (ST_1 (F := fun m => lX7_findBestWith m s' L P (zI (d : Int))) (C := fun m => qX7_findBestWith m s' L P (zI (d : Int))) (F' := fun _ => (v, s')) (C' := fun _ => True) (fun m => by
      simp (disch := omega) only [lX7_findBestWith, qX7_findBestWith, tX7_findBestWith_18, uX7_findBestWith_18, zl0, zl1, if_true, if_false, true_and, and_true, not_true, not_false_eq_true, false_implies, true_implies, imp_self, and_self, and_false, false_and, or_true, true_or, or_false, false_or, ite_self, implies_true]
      exact Prod.ext v3 rfl)) (by omega)
    exact ⟨v, v1, v2, E, R⟩
  by_cases hok : okR g d
  · have hx : StC g L P br lo0 lo0 en False d t := ⟨lt, e4, e8, e9, fun c hc => ⟨Nat.le_refl _, (e8.1 c hc).2.2.1.1, fun i i1 i2 => ⟨fun _ hc => absurd hc (fun h => h), fun _ => i1⟩⟩⟩
    obtain ⟨s', o', t1, t2, t3, t4, t5, t6, t7, t8⟩ := y_start hw hx hok (o := none) ⟨e6, e7⟩ (fun q hq => (by cases hq)) (fun q hq => (by cases hq))
    have good : ∀ q, o' = some q → RGs g False q ∧ stt q = d := fun q hq => by
      rcases t6 q hq with h | h
      · cases h
      · exact h
    obtain ⟨v, v1, v2, E, R⟩ := fin s' o' t5 good
    have n0 : ¬ bI (okR g d) = 0 := by rw [bI_0]; exact not_not_intro hok
    have E' : fX7_findBestWith s L P (zI (d : Int)) = (v, s') := by
      unfold fX7_findBestWith; rw [e1, em, if_neg n0, t1]; exact E
    refine ⟨s', o', by unfold mX7_findBestWith; rw [E'], fun hq => by unfold vX7_findBestWith; rw [E']; exact v1 hq, fun q hq => by unfold vX7_findBestWith; rw [E']; exact v2 q hq, ?_, Fp_tr e3 (Fp_mo t3 (fun c i hc => by omega)), t5, good, t8⟩
    unfold rX7_findBestWith
    rw [e1, em, t1]
    exact ⟨e2, rm, fun hc => absurd hc n0, fun _ => ⟨t2, R⟩⟩
  · have good : ∀ q : List Nat, none = some q → RGs g False q ∧ stt q = d := fun q hq => (by cases hq)
    obtain ⟨v, v1, v2, E, R⟩ := fin t none ⟨e6, e7⟩ good
    have n0 : bI (okR g d) = 0 := by rw [bI_0]; exact hok
    have E' : fX7_findBestWith s L P (zI (d : Int)) = (v, t) := by
      unfold fX7_findBestWith; rw [e1, em, if_pos n0]; exact E
    refine ⟨t, none, by unfold mX7_findBestWith; rw [E'], fun hq => by unfold vX7_findBestWith; rw [E']; exact v1 hq, fun q hq => by unfold vX7_findBestWith; rw [E']; exact v2 q hq, ?_, e3, ⟨e6, e7⟩, good, fun c hc hs => ?_⟩
    · unfold rX7_findBestWith
      rw [e1, em]
      exact ⟨e2, rm, fun _ => R, fun hc => absurd n0 hc⟩
    · have hne : c ≠ [] := fun hq => by have := hc.2.1.1; rw [hq] at this; exact absurd this (by decide)
      exact absurd (vpa_ok hc.1 _ (stt_mem hne)) (by rw [hs]; exact hok)
end
