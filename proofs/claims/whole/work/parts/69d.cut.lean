-- needs: 41.ydies 42.qa 51.fr 54.copy 55.hist 56.hist 57.acts 60.rg 61.xrg 62.best 63.lev 64.yprep 65.yext 66.yloop 67.yext 68.yfind 69.rot 69a.cutz 69b.xcut 69c.ycut
/-- the best ring, or none -/
def BestO (g : Nat → Int) (o : Option (List Nat)) : Prop := (∀ q, o = some q → RGs g True q) ∧ ∀ c, RGs g True c → KK g c ≤ KB g o
theorem BestO_1 {g : Nat → Int} (hw : WF g) {a b : Option (List Nat)} (ha : BestO g a) (hb : BestO g b) : a = b := two_best hw (C := fun c => RGs g True c) (fun _ h => h) ha.1 hb.1 ha.2 hb.2
def cutO (g : Nat → Int) : Option (List Nat) → (Nat → Int)
  | none => g
  | some q => cutF g (mnR g q) q
theorem cutO_all {g : Nat → Int} (hw : WF g) {o : Option (List Nat)} (ho : BestO g o) : WF (cutO g o) ∧ (∀ k, k < 37 → cutO g o k = g k) ∧ (∀ k, 586 ≤ k → cutO g o k = g k) := by
  cases o with
  | none => exact ⟨hw, fun _ _ => rfl, fun _ _ => rfl⟩
  | some q =>
    have hr := ho.1 q rfl
    have hne : q ≠ [] := fun hq => by have := hr.2.1.1; rw [hq] at this; exact absurd this (by decide)
    obtain ⟨a1, a2, a3, -⟩ := cutF_all hw (mn_b hw hr.1 hne).1 hr.1 (mn_le g q)
    exact ⟨a1, a2, a3⟩
theorem WA_cutO {g : Nat → Int} (hw : WF g) {o : Option (List Nat)} (ho : BestO g o) (h : WA g) : WA (cutO g o) := by
  cases o with
  | none => exact h
  | some q =>
    have hr := ho.1 q rfl
    have hne : q ≠ [] := fun hq => by have := hr.2.1.1; rw [hq] at this; exact absurd this (by decide)
    exact WA_cutF hw (mn_b hw hr.1 hne).1 h hr.1 (mn_le g q)
abbrev FreeC (c i : Nat) : Prop := (31 ≤ c ∧ c ≤ 164) ∨ (218 ≤ c ∧ c ≤ 224) ∨ c = 250 ∨ c = 255 ∨ c = 256 ∨ c = 257 ∨ c = 259 ∨ (c = 248 ∧ (i = 0 ∨ i = 25 ∨ i = 29 ∨ i = 54))
/-- how an act leaves all, searches too -/
def AOX (s : SM) (g : Nat → Int) (t : SM) : Prop := ∃ g', WF g' ∧ SP g g' ∧ (∀ k, 586 ≤ k → g' k = g k) ∧ LdR t 31 5 g' ∧ RR t g' ∧ HI t g' ∧ Fp FreeC s t
section
variable {s : SM} {g : Nat → Int}
theorem LdS_fp {s t : SM} {L : Nat} {g : Nat → Int} {A : Nat → Nat → Prop} (h : LdS s L g) (hf : Fp A s t) (hA : ∀ c i, L ≤ c → c ≤ L + 11 → ¬ A c i) : LdS t L g := by
  refine LdS_fr h (A := fun c => ¬ (L ≤ c ∧ c ≤ L + 11)) ⟨fun c hc => ?_, hf.2⟩ (fun c h1 h2 hc => hc ⟨h1, h2⟩)
  have hc : L ≤ c ∧ c ≤ L + 11 := Classical.not_not.mp hc
  funext i
  exact hf.1 c i (hA c i hc.1 hc.2)
theorem PoR_fp {s t : SM} {P : Nat} {g : Nat → Int} {A : Nat → Nat → Prop} (h : PoR s P g) (hf : Fp A s t) (hA : ∀ c i, P ≤ c → c ≤ P + 6 → ¬ A c i) : PoR t P g := by
  refine PoR_fr h (A := fun c => ¬ (P ≤ c ∧ c ≤ P + 6)) ⟨fun c hc => ?_, hf.2⟩ (fun c h1 h2 hc => hc ⟨h1, h2⟩)
  have hc : P ≤ c ∧ c ≤ P + 6 := Classical.not_not.mp hc
  funext i
  exact hf.1 c i (hA c i hc.1 hc.2)
theorem LdR_fp {s t : SM} {L P : Nat} {g : Nat → Int} {A : Nat → Nat → Prop} (h : LdR s L P g) (hf : Fp A s t) (hA : ∀ c i, (P ≤ c ∧ c ≤ P + 6) ∨ (L ≤ c ∧ c ≤ L + 11) → ¬ A c i) : LdR t L P g := ⟨PoR_fp h.1 hf (fun c i h1 h2 => hA c i (Or.inl ⟨h1, h2⟩)), LdS_fp h.2 hf (fun c i h1 h2 => hA c i (Or.inr ⟨h1, h2⟩))⟩
theorem HI_fp {s t : SM} {g : Nat → Int} {A : Nat → Nat → Prop} (hi : HI s g) (hg : SP g g) (hf : Fp A s t) (hA : ∀ c i, c = 55 ∨ (57 ≤ c ∧ c ≤ 164) ∨ c = 255 ∨ (c = 248 ∧ i = 25) → ¬ A c i) : HI t g := by
  obtain ⟨nt, kp, i1, i2, i3, i4, i5, i6, i7⟩ := hi
  refine ⟨nt, kp, i1, i2, ?_, ?_, ?_, fun j hj => HRow_fr (i6 j hj) hg (fun c h1 h2 => ?_) ?_, i7⟩
  · rw [hf.1 55 1 (hA _ _ (by omega))]; exact i3
  · rw [hf.1 55 2 (hA _ _ (by omega))]; exact i4
  · rw [hf.1 248 25 (hA _ _ (by omega))]; exact i5
  · funext i; exact hf.1 c i (hA _ _ (by unfold rowL at h1 h2; omega))
  · funext i; exact hf.1 255 i (hA _ _ (by omega))
theorem AOK_x {t : SM} (h : AOK s g t) : AOX s g t := by
  obtain ⟨g', h1, h2, h3, h4, h5, h6, h7⟩ := h
  exact ⟨g', h1, h2, h3, h4, h5, h6, Fp_mo h7 (fun c i hc => by unfold ActC at hc; omega)⟩
theorem x_bestO (h : RR s g) (hw : WF g) : ∃ s' o b, mX12_bestOf s (-1) = s' ∧ vX12_bestOf s (-1) = zI b ∧ rX12_bestOf s (-1) ∧ Fp BoA s s' ∧ HO s' g b o ∧ BestO g o ∧ (o = none → b = -1) ∧ (∀ q, o = some q → 0 ≤ b ∧ b ≤ 90 ∧ b = fsR g q) := by
  obtain ⟨s', o, b, e1, e2, e3, e4, e5, e6, e7⟩ := x_bestOf h hw (wi := -1) (by omega)
  refine ⟨s', o, b, e1, e2, e3, e4, e5, ⟨fun q hq => (e6 q hq).1, fun c hc => e7 c ⟨hc, Or.inl (by omega)⟩⟩, fun hn => ?_, fun q hq => ?_⟩
  · rw [hn] at e5; exact e5
  · have hr := (e6 q hq).1
    rw [hq] at e5
    have h1 : b = fsR g q := e5.1
    have := fs_90 hw hr.1 hr.2.1.2
    omega
theorem y_tryCut {L P : Nat} (h : LdR s L P g) (hPL : P + 7 ≤ L) (hw : WF g) (hLX : (L, P) ∈ LX) (hr : rfx L 8 = P) : ∃ s' o, mX4_tryCut s L P = s' ∧ (o = none → vX4_tryCut s L P = 8) ∧ (∀ q, o = some q → vX4_tryCut s L P = 0 ∧ gI s' 218 3 = zI (mnR g q)) ∧ rX4_tryCut s L P ∧ Fr (fun c => InL L c ∨ (218 ≤ c ∧ c ≤ 224)) s s' ∧ BestO g o ∧ LdR s' L P (cutO g o) := by
  have h0 := hw.w0
  have hLb := LX_b (L, P) hLX
  dsimp only at hLb
  obtain ⟨s1, o, e1, e2, e3, e4, e5, e6, e7, e8⟩ := y_findBest h hw hLX hr
  have f1 : Fr (fun c => InL L c ∨ (218 ≤ c ∧ c ≤ 224)) s s1 := ⟨fun c hc => by funext i; exact e5.1 c i (fun h => hc (Or.inr h)), e5.2⟩
  have f1' : Fr (fun c => 218 ≤ c ∧ c ≤ 224) s s1 := ⟨fun c hc => by funext i; exact e5.1 c i hc, e5.2⟩
  have l1 : LdR s1 L P g := LdR_fr h f1' (fun c hc => by omega)
  cases o with
  | none =>
    have v0 := e2 rfl
    have E : fX4_tryCut s L P = (8, s1) := by unfold fX4_tryCut; rw [v0, if_pos rfl, e1]
    exact ⟨s1, none, by unfold mX4_tryCut; rw [E], fun _ => by unfold vX4_tryCut; rw [E], fun q hq => (by cases hq), ⟨e4, fun hc => absurd v0 hc⟩, f1, ⟨fun q hq => (by cases hq), e8⟩, l1⟩
  | some q =>
    have v1 := e3 q rfl
    have hr := e7 q rfl
    have l := hr.2.1
    have hv := hr.1
    have hne : q ≠ [] := fun he => by rw [he] at l; exact absurd l.1 (by decide)
    have hmb := mn_b hw hv hne
    have hml := mn_le g q
    obtain ⟨y1, y2, y3, y4⟩ := e6
    have up := ST_up (B := 1) q.length (fun k (a : SM) => Fr (InL L) s1 a ∧ LdR a L P (cutF g (mnR g q) (ini q k))) (fun k a n => lX4_tryCut n a L P (zI (k : Int))) (fun k a n => qX4_tryCut n a L P (zI (k : Int))) (by
      rintro k a hk ⟨f2, l2⟩
      obtain ⟨w, w1, w2, w3, -⟩ := MPx_k y4 k hk
      have hvi : vpa g (w :: ini q k) := by
        rw [← w3]
        have e : q = q.take (q.length - (k + 1)) ++ ini q (k + 1) := (List.take_append_drop _ q).symm
        rw [e] at hv
        exact vpa_app hv
      have hmem : ∀ y ∈ w :: ini q k, mnR g q ≤ oZ g y 2 := fun y hy => hml y (by rw [← w3] at hy; exact List.mem_of_mem_drop hy)
      obtain ⟨c1, c2, c3⟩ := cutF_nx hw hmb.1 hvi hmem
      obtain ⟨b1, b2, b3⟩ := y_lessen l2 hPL c1 c2 ⟨hmb.1, c3⟩
      have ck : (zI (k : Int)).toNatClampNeg = k := by rw [z_cl (by omega)]; exact Int.toNat_natCast _
      have vk : vp_in (zI (k : Int)) 5 := by rw [z_in (by omega)]; omega
      have n1 : ((q.length : Int) ≤ (k : Int)) = False := eq_false (by omega)
      have n5 : ((5 : Int) ≤ (k : Int)) = False := eq_false (by omega)
      have g1 : gI a 218 1 = zI (q.length : Int) := by rw [f2.1 218 (by omega)]; exact y1
      have g3 : gI a 218 3 = zI (mnR g q) := by rw [f2.1 218 (by omega)]; exact y3
      have gk : gI a 219 k = zI (w : Int) := by rw [f2.1 219 (by omega)]; exact w2
      refine ⟨_, ⟨Fr_tr f2 b2, by rw [w3]; exact b1⟩, ST_1 fun n => ?_⟩
      simp (disch := omega) only [lX4_tryCut, qX4_tryCut, tX4_tryCut_13, uX4_tryCut_13, g1, g3, ck, vk, gk, b3, zl1, zl5, z_add, z_le, n1, n5, Int.natCast_succ, if_true, if_false, true_and, and_true, not_true, not_false_eq_true, false_implies, true_implies, imp_self, and_self, and_false, false_and, or_true, true_or, or_false, false_or, ite_self, implies_true])
    obtain ⟨s', ⟨f2, l2⟩, st⟩ := up q.length 0 s1 (by omega) ⟨Fr_rf _ s1, by rw [ini_0]; exact l1⟩
    rw [ini_n] at l2
    have g1 : gI s' 218 1 = zI (q.length : Int) := by rw [f2.1 218 (by omega)]; exact y1
    obtain ⟨E, R⟩ := ST_fu (ST_trans st (ST_1 (F' := fun _ => ((0 : Int32), s')) (C' := fun _ => True) (fun n => by
      simp (disch := omega) only [lX4_tryCut, qX4_tryCut, tX4_tryCut_13, uX4_tryCut_13, g1, Int32.le_refl, not_true, false_implies, if_true, if_false, true_and, and_true, not_true, not_false_eq_true, false_implies, true_implies, imp_self, and_self, and_false, false_and, or_true, true_or, or_false, false_or, ite_self, implies_true]))) (by omega)
    have n0 : ¬ vX7_findBest s L P = 0 := by rw [v1]; decide
    have E' : fX4_tryCut s L P = (0, s') := by unfold fX4_tryCut; rw [if_neg n0, e1]; exact E
    refine ⟨s', some q, by unfold mX4_tryCut; rw [E'], fun hn => (by cases hn), fun q' hq' => ?_, ⟨e4, fun _ => by rw [e1]; exact R⟩, Fr_tr f1 (Fr_mo f2 (fun c hc => Or.inl hc)), ⟨e7, e8⟩, l2⟩
    cases hq'
    exact ⟨by unfold vX4_tryCut; rw [E'], by rw [f2.1 218 (by omega)]; exact y3⟩
/-- an act done, with a search on either side -/
theorem act_ok3 (h : LdR s 31 5 g) (h2 : RR s g) (hw : WF g) (hi : HI s g) {t2 t4 t6 : SM} {g' : Nat → Int} (hg : SP g g') (hwa : WA g') (f2 : Fr (fun c => InL 31 c ∨ (218 ≤ c ∧ c ≤ 224)) (mX2_note s 31 5) t2) (l2 : LdR t2 31 5 g') (f4 : Fp BoA (Th (mX2_keepNoted t2)) t4) (f6 : Fr (fun c => c = 250) (mX12_keep t4) t6) (r6 : RR t6 g') : rX12_keep t4 ∧ LdR t6 31 5 g' ∧ HI t6 g' ∧ Fp FreeC s t6 := by
  obtain ⟨nt, kp, hi⟩ := hi
  obtain ⟨n1, n2, n3, n4, n5⟩ := HIx_note h hw hi
  have i1 := hi.1
  have i2 := hi.2.1
  have b1 : gI t2 55 1 = zI (nt : Int) := by rw [f2.1 55 (by omega)]; exact n1.2.2.1
  have b2 : gI t2 55 2 = zI (kp : Int) := by rw [f2.1 55 (by omega)]; exact n1.2.2.2.1
  obtain ⟨k1, k2, k3⟩ := y_keepNoted i1 i2 b1 b2
  have b3 : gI t4 248 25 = zI (kp : Int) := by
    rw [f4.1 248 25 (by omega), gI_s, if_neg (by omega), k1.1 248 (by omega), f2.1 248 (by omega)]; exact n1.2.2.2.2.1
  obtain ⟨t, e, rk, f5, q1, q2, q3, q4⟩ := x_keep t4 i2 b3
  rw [e] at f6
  have fT : Fr (fun c => c = 248) (mX2_keepNoted t2) (Th (mX2_keepNoted t2)) := Fr_pI _ _ _ rfl
  -- cells but 248, from s
  have ce : ∀ c i, c ≠ 248 → ¬ ((31 ≤ c ∧ c ≤ 42) ∨ InL (57 + 12 * nt) c ∨ c = 55 ∨ (218 ≤ c ∧ c ≤ 224) ∨ c = 250 ∨ c = 255 ∨ c = 256 ∨ c = 257) → gI t6 c i = gI s c i := fun c i h1 h2 => by
    rw [f6.1 c (by omega), f5.1 c (by omega), f4.1 c i (by omega), fT.1 c (by omega), k1.1 c (by omega), f2.1 c (by omega), n3.1 c (by omega)]
  have h250 : gI t4 250 = gI s 250 := by
    funext i; rw [f4.1 250 i (by omega), fT.1 250 (by omega), k1.1 250 (by omega), f2.1 250 (by omega), n3.1 250 (by omega)]
  have h255 : gI t4 255 = gI s 255 := by
    funext i; rw [f4.1 255 i (by omega), fT.1 255 (by omega), k1.1 255 (by omega), f2.1 255 (by omega), n3.1 255 (by omega)]
  have h248 : ∀ i, i ≠ 0 → i ≠ 25 → i ≠ 29 → gI t6 248 i = gI s 248 i := fun i hi0 hi25 hi29 => by
    rw [f6.1 248 (by omega), q1 i hi25, f4.1 248 i (by omega), gI_s, if_neg (by omega), k1.1 248 (by omega), f2.1 248 (by omega), n3.1 248 (by omega)]
  have g31 : ∀ c, c < 248 → c ≠ 55 → gI t6 c = gI t2 c := fun c hc hc2 => by
    funext i; rw [f6.1 c (by omega), f5.1 c (by omega), f4.1 c i (by omega), fT.1 c (by omega), k1.1 c (by omega)]
  have hgl : gL t6 = gL s ∧ t6.2.2.2 = s.2.2.2 := ⟨f6.2.1.trans (f5.2.1.trans (f4.2.1.trans (fT.2.1.trans (k1.2.1.trans (f2.2.1.trans n3.2.1))))), f6.2.2.trans (f5.2.2.trans (f4.2.2.trans (fT.2.2.trans (k1.2.2.trans (f2.2.2.trans n3.2.2)))))⟩
  refine ⟨rk, LdR_fr l2 (A := fun c => ¬ (c < 248 ∧ c ≠ 55)) ⟨fun c hc => g31 c (Classical.not_not.mp hc).1 (Classical.not_not.mp hc).2, f6.2.1.trans (f5.2.1.trans (f4.2.1.trans (fT.2.1.trans k1.2.1))), f6.2.2.trans (f5.2.2.trans (f4.2.2.trans (fT.2.2.trans k1.2.2)))⟩ (fun c hc => by omega), ⟨_, _, HI_new (t := t6) hw hi hg hwa ?_ ?_ ?_ (fun k hk => ?_) (fun j hj k hk => ?_) ?_ (fun c h1 h2 h3 => ?_)⟩, fun c i hc => ?_, hgl⟩
  · rw [f6.1 55 (by omega), f5.1 55 (by omega), f4.1 55 1 (by omega), fT.1 55 (by omega)]; exact k2
  · rw [f6.1 55 (by omega), f5.1 55 (by omega), f4.1 55 2 (by omega), fT.1 55 (by omega)]; exact k3
  · rw [f6.1 248 (by omega)]; exact q2
  · rw [f6.1 255 (by omega), q3 k hk, h250]; exact h2 _
  · rw [f6.1 255 (by omega), q4 j hj k hk, h255]
  · refine LdS_fr (LdS_fr n2 f2 (fun c h1 h2 => by unfold InL; omega)) (A := fun c => ¬ (c < 248 ∧ c ≠ 55)) ⟨fun c hc => g31 c (Classical.not_not.mp hc).1 (Classical.not_not.mp hc).2, f6.2.1.trans (f5.2.1.trans (f4.2.1.trans (fT.2.1.trans k1.2.1))), f6.2.2.trans (f5.2.2.trans (f4.2.2.trans (fT.2.2.trans k1.2.2)))⟩ (fun c h1 h2 => by omega)
  · funext i; exact ce c i (by omega) (by unfold InL; omega)
  · by_cases h2c : c = 248
    · subst h2c; exact h248 i (by omega) (by omega) (by omega)
    · exact ce c i h2c (by unfold InL; have := hi.1; omega)
theorem q_cut (h : LdR s 31 5 g) (h2 : RR s g) (hw : WF g) (hi : HI s g) : rX11_cut s ∧ rX12_cut (mX11_cut s) ∧ vX11_cut s = vX12_cut (mX11_cut s) ∧ AOX s g (mX12_cut (mX11_cut s)) := by
  have h0 := hw.w0
  obtain ⟨n4, n5⟩ := note_R h h2 hw hi
  obtain ⟨nt, kp, hix⟩ := id hi
  obtain ⟨m1, m2, m3, -, -⟩ := HIx_note h hw hix
  obtain ⟨t2, o, e1, e2, e3, e4, e5, e6, e7⟩ := y_tryCut n4 (by omega) hw (by decide) (by decide)
  have hnt := hix.1
  have n250 : gI t2 250 = gI s 250 := by rw [e5.1 250 (by omega), m3.1 250 (by omega)]
  have r2 : RR t2 g := fun k => by rw [n250]; exact h2 k
  have key : ∀ t4, RR t4 g → ∃ s' b, mX12_bestOf t4 (-1) = s' ∧ vX12_bestOf t4 (-1) = zI b ∧ rX12_bestOf t4 (-1) ∧ Fp BoA t4 s' ∧ HO s' g b o ∧ (o = none → b = -1) ∧ (∀ q, o = some q → 0 ≤ b ∧ b ≤ 90 ∧ b = fsR g q) := fun t4 r4 => by
    obtain ⟨s', o', b, c1, c2, c3, c4, c5, c6, c7, c8⟩ := x_bestO r4 hw
    have := BestO_1 hw c6 e6
    subst this
    exact ⟨s', b, c1, c2, c3, c4, c5, c7, c8⟩
  cases o with
  | none =>
    have v8 := e2 rfl
    have n0 : ¬ vX4_tryCut (mX2_note s 31 5) 31 5 = 0 := by rw [v8]; decide
    have em : mX11_cut s = t2 := by unfold mX11_cut; rw [if_neg n0, e1]
    have ev : vX11_cut s = -1 := by unfold vX11_cut; rw [if_neg n0]
    have T : RR (Th t2) g := Th_R r2
    obtain ⟨s', b, c1, c2, c3, c4, c5, c6, c7⟩ := key _ T
    have c1 : mX12_bestOf (pI t2 248 0 0) (-1) = s' := c1
    have c2 : vX12_bestOf (pI t2 248 0 0) (-1) = zI b := c2
    have c3 : rX12_bestOf (pI t2 248 0 0) (-1) := c3
    have nb : ¬ (0 : Int32) ≤ zI b := by rw [c6 rfl]; decide
    rw [em, ev]
    have hf : Fp FreeC s s' := Fp_tr (Fp_fr m3 (fun c hc i => by have := hix.1; omega)) (Fp_tr (Fp_fr e5 (fun c hc i => by omega)) (Fp_tr (Fp_p t2 (i := 0) (v := zI 0) (c := 248) (by omega)) (Fp_mo c4 (fun c i hc => by omega))))
    have hf2 : Fp FreeC s t2 := Fp_tr (Fp_fr m3 (fun c hc i => by have := hix.1; omega)) (Fp_fr e5 (fun c hc i => by omega))
    have e7 : LdR t2 31 5 g := e7
    refine ⟨⟨n5, e4⟩, ?_, ?_, ?_⟩
    · unfold rX12_cut; rw [c2]; exact ⟨c3, fun hc => absurd hc nb⟩
    · unfold vX12_cut; rw [c2, if_neg nb]
    · have ex : mX12_cut t2 = s' := by unfold mX12_cut; rw [c2, if_neg nb, c1]
      rw [ex]
      have hiN : HI t2 g := HI_fp (A := fun c _ => InL 31 c ∨ (218 ≤ c ∧ c ≤ 224)) ⟨nt, kp, m1⟩ (fun _ _ => rfl) (Fp_fr e5 (fun c hc i => hc)) (fun c i hc => by omega)
      have hs' : Fp (fun c i => BoA c i ∨ (c = 248 ∧ i = 0)) t2 s' := Fp_tr (Fp_p t2 (i := 0) (v := zI 0) (c := 248) (by omega)) (Fp_mo c4 (fun c i hc => Or.inl hc))
      exact ⟨g, hw, fun _ _ => rfl, fun _ _ => rfl, LdR_fp e7 hs' (fun c i hc => by omega), RR_fp r2 hs' (fun i => by omega), HI_fp hiN (fun _ _ => rfl) hs' (fun c i hc => by omega), hf⟩
  | some q =>
    obtain ⟨v0, g3⟩ := e3 q rfl
    have hr := e6.1 q rfl
    have em : mX11_cut s = mX2_keepNoted t2 := by unfold mX11_cut; rw [if_pos v0, e1]
    obtain ⟨k1, -, -⟩ := y_keepNoted (s := t2) (nt := nt) (kp := kp) hix.1 hix.2.1 (by rw [e5.1 55 (by omega)]; exact m1.2.2.1) (by rw [e5.1 55 (by omega)]; exact m1.2.2.2.1)
    have ev : vX11_cut s = zI (mnR g q) := by unfold vX11_cut; rw [if_pos v0, e1, k1.1 218 (by omega)]; exact g3
    have T : RR (Th (mX2_keepNoted t2)) g := Th_R (RR_fr r2 k1 (by omega))
    obtain ⟨t4, b, c1, c2, c3, c4, c5, c6, c7⟩ := key _ T
    have c1 : mX12_bestOf (pI (mX2_keepNoted t2) 248 0 0) (-1) = t4 := c1
    have c2 : vX12_bestOf (pI (mX2_keepNoted t2) 248 0 0) (-1) = zI b := c2
    have c3 : rX12_bestOf (pI (mX2_keepNoted t2) 248 0 0) (-1) := c3
    have hb := c7 q rfl
    have nb : (0 : Int32) ≤ zI b := by rw [zl0, z_le (by omega) (by omega)]; omega
    have b3 : gI t4 248 25 = zI (kp : Int) := by
      rw [c4.1 248 25 (by omega), gI_s, if_neg (by omega), k1.1 248 (by omega), e5.1 248 (by omega)]; exact m1.2.2.2.2.1
    obtain ⟨t5, k5, -, f5, q1, -, -, -⟩ := x_keep t4 hix.2.1 b3
    have r5 : RR t5 g := RR_fr (RR_bo T c4) f5 (by omega)
    obtain ⟨t6, d1, d2, d3, d4, d5⟩ := x_cuts r5 hw hr (by rw [q1 29 (by omega)]; exact c5.2.1) (MPx_c c5.2.2 (fun k _ => by rw [f5.1 257 (by omega)]))
    obtain ⟨cw, clo, chi⟩ := cutO_all hw e6
    have ex : mX12_cut (mX2_keepNoted t2) = t6 := by unfold mX12_cut; rw [c2, if_pos nb, c1, k5, d1]
    have f6 : Fr (fun c => c = 250) (mX12_keep t4) t6 := by rw [k5]; exact d4
    obtain ⟨rk, A1, A2, A3⟩ := act_ok3 h h2 hw hi (t4 := t4) (t6 := t6) (g' := cutO g (some q)) (fun k hk => clo k (by omega)) (WA_cutO hw e6 (HI_wa hi)) e5 e7 c4 f6 d5
    rw [em, ev, ex]
    refine ⟨⟨n5, e4⟩, ?_, ?_, ⟨_, cw, fun k hk => clo k (by omega), chi, A1, d5, A2, A3⟩⟩
    · unfold rX12_cut; rw [c2, c1, k5]; exact ⟨c3, fun _ => ⟨rk, d3⟩⟩
    · unfold vX12_cut; rw [c2, if_pos nb, c1, k5, d2]
end
