-- needs: 42.qa 51.fr 54.copy 55.hist 56.hist 60.rg 61.xrg 62.best 64.yprep 65.yext 66.yloop
theorem lxe_35 (n : Nat) : (lX7_extend (n + 1)).1 = tX7_extend_35 (lX7_extend n) := rfl
theorem lxe_e (n : Nat) : (lX7_extend (n + 1)).2 = tX7_extend_e (lX7_extend n) := rfl
theorem qxe_35 (n : Nat) : (qX7_extend (n + 1)).1 = uX7_extend_35 (lX7_extend n) (qX7_extend n) := rfl
theorem qxe_e (n : Nat) : (qX7_extend (n + 1)).2 = uX7_extend_e (lX7_extend n) (qX7_extend n) := rfl
section
variable {g : Nat → Int} {L P : Nat}
theorem y_loop (hw : WF g) {br lo0 lo en : Nat → Nat} {cn : Prop} {k : Nat} (hE : Ext g L P br lo0 lo en cn k) {x : Nat} {Q' : List Nat} {b M : Int} (hlen : (x :: Q').length + (k + 1) = 5) (hv : vpa g (x :: Q')) (hcn : cn → ∀ y ∈ x :: Q', stt (x :: Q') ≤ y) (hb : b = oZ g x 1) (hbn : ∀ y ∈ x :: Q', oZ g y 0 ≠ b) (hM : MTq g (x :: Q') b M) : ∀ (r i : Nat), i + r = en b.toNat → lo b.toNat ≤ i → ∀ (s : SM) (o : Option (List Nat)) (F : Nat), ExC g L P br lo0 lo en cn (stt (x :: Q')) s → MPx 220 s (x :: Q') → YO s g o → (∀ q, o = some q → RGs g cn q) → (∀ q, o = some q → stt (x :: Q') < stt q ∨ (stt q = stt (x :: Q') ∧ ∀ j, i ≤ j → j < en b.toNat → cd q < cd (x :: Q') + (br j : Int) * pw (x :: Q').length)) → r + 1 + (62 * k + 1) ≤ F → ∃ s' o', (lX7_extend F).1 s (zI ((x :: Q').length : Int)) (zI b) (zI (mnR g (x :: Q'))) (zI (fsR g (x :: Q'))) (zI M) (zI (i : Int)) = s' ∧ (qX7_extend F).1 s (zI ((x :: Q').length : Int)) (zI b) (zI (mnR g (x :: Q'))) (zI (fsR g (x :: Q'))) (zI M) (zI (i : Int)) ∧ ExR g cn (x :: Q') (cd (x :: Q') + pB (x :: Q').length) s o s' o' (fun c => ∃ S j, i ≤ j ∧ j < en b.toNat ∧ c = S ++ br j :: x :: Q') := by
  have h0 := hw.w0
  obtain ⟨Q, hQ⟩ : ∃ Q, Q = x :: Q' := ⟨_, rfl⟩
  have hne : Q ≠ [] := by rw [hQ]; simp
  have hQx : ∀ z R, Q = z :: R → oZ g z 1 = b := fun z R hz => by rw [hQ] at hz; cases hz; exact hb.symm
  have hxd := (vpa_ok hv x (by simp)).1.1
  have hxw := hw.wd hxd
  have hb9 : 0 ≤ b ∧ b < 9 := by omega
  rw [← hQ] at hlen hv hcn hbn hM ⊢
  have hl4 : Q.length ≤ 4 := by omega
  have hl1 : 1 ≤ Q.length := by rw [hQ, List.length_cons]; omega
  obtain ⟨p1, p2, p3⟩ := pw_pB hl4
  have hst := stt_mem hne
  have hsd := (vpa_ok hv _ hst).1.1
  intro r
  induction r with
  | zero =>
    intro i hi hlo s o F hx hP ho hg hp hF
    obtain ⟨F', rfl⟩ : ∃ F', F = F' + 1 := ⟨F - 1, by omega⟩
    obtain ⟨k1, k2, k3, k4⟩ := hx.2.2.1.1 b.toNat (by omega)
    have cb : (zI b).toNatClampNeg = b.toNat := z_cl (by omega)
    have vb : vp_in (zI b) 9 := by rw [z_in (by omega)]; omega
    have le : zI (en b.toNat : Int) ≤ zI (i : Int) := by rw [z_le (by omega) (by omega)]; omega
    refine ⟨s, o, ?_, ?_, Fp_rf _ s, rfl, fun _ _ => rfl, ho, fun q hq => Or.inl hq, Int.le_refl _, fun c hc ⟨S, j, h1, h2, _⟩ => by omega⟩
    · rw [lxe_35]; unfold tX7_extend_35; rw [cb, k1, if_pos le]
    · rw [qxe_35]; unfold uX7_extend_35; rw [cb, k1]; exact ⟨vb, fun hc => absurd le hc⟩
  | succ r ih =>
    intro i hi hlo s o F hx hP ho hg hp hF
    obtain ⟨F', rfl⟩ : ∃ F', F = F' + 1 := ⟨F - 1, by omega⟩
    obtain ⟨k1, k2, k3, k4⟩ := hx.2.2.1.1 b.toNat (by omega)
    obtain ⟨l1, l2, l3⟩ := hx.2.2.2.2.2.2 b.toNat (by omega)
    have hbt : ((b.toNat : Nat) : Int) = b := by omega
    obtain ⟨d, hd⟩ : ∃ d, br i = d := ⟨_, rfl⟩
    obtain ⟨b1, b2, b3⟩ := k3.2.1 i (by omega) (by omega)
    have hc3 := (l3 i (by omega) (by omega)).mp hlo
    have hasc := fun j (h1 : i < j) (h2 : j < en b.toNat) => k3.2.2.1 i j (by omega) h1 h2
    rw [hd] at b1 b2 b3 hc3
    have hasc : ∀ j, i < j → j < en b.toNat → d < br j := fun j h1 h2 => by have := hasc j h1 h2; rw [hd] at this; exact this
    rw [hbt] at b2
    have hdl := b1.1.1
    have hdw := hw.wd hdl
    have hdn := (hdw.2.2.2.2.2.2.2.2.2 b1.1.2).2.1
    have hv2 : vpa g (d :: Q) := ⟨b1, fun z R hz => by rw [b2, hQx z R hz], fun y hy => by rw [b2]; exact hbn y hy, hv⟩
    have hstt : stt (d :: Q) = stt Q := stt_cons d hne
    have hcd : cd (d :: Q) = cd Q + (d : Int) * pw Q.length := rfl
    have hcn2 : cn → ∀ y ∈ d :: Q, stt (d :: Q) ≤ y := fun hc y hy => by
      rw [hstt]
      rcases List.mem_cons.mp hy with rfl | hy
      · have := hc3 hc; omega
      · exact hcn hc y hy
    obtain ⟨s1, hs1⟩ : ∃ s1, s1 = pI s 220 Q.length (zI (d : Int)) := ⟨_, rfl⟩
    have f1 : Fp ExA s s1 := by rw [hs1]; exact Fp_p s (by omega)
    have g1 : gD s1 = gD s := by rw [hs1]; rfl
    have j1 : ∀ j, j < Q.length → gI s1 220 j = gI s 220 j := fun j hj => by rw [hs1, gI_s, if_neg (by omega)]
    have hx1 := ExC_c hx f1 g1 (j1 0 (by omega))
    have hP1 : MPx 220 s1 (d :: Q) := ⟨by rw [hs1, gI_s, if_pos rfl], MPx_c hP j1⟩
    have ho1 : YO s1 g o := YO_c ho (fun i hi => by rw [hs1, gI_n _ _ _ _ (by omega)]) (fun k => by rw [hs1, gI_n _ _ _ _ (by omega)])
    have hp1 : ∀ q, o = some q → stt (d :: Q) < stt q ∨ (stt q = stt (d :: Q) ∧ cd q < cd (d :: Q)) := fun q hq => by
      rw [hstt, hcd, ← hd]
      rcases hp q hq with h | h
      · exact Or.inl h
      · exact Or.inr ⟨h.1, h.2 i (Nat.le_refl _) (by omega)⟩
    have hdp := pw_mul hl4 (w := (d : Int)) (by omega) (by omega)
    have hl : (d :: Q).length = Q.length + 1 := List.length_cons
    obtain ⟨T1, T2, T3⟩ := y_turn hw hx hv hne hl4 hb9 (M := M) (i := i) (by omega) hd b1 hsd hs1 (lX7_extend F') (qX7_extend F')
    -- behind the visit
    have fin : ∀ (s2 : SM) (o2 : Option (List Nat)), Fp ExA s1 s2 → gD s2 = gD s1 → (∀ j, j < Q.length → gI s2 220 j = gI s1 220 j) → YO s2 g o2 → (∀ q, o2 = some q → o = some q ∨ (RGs g cn q ∧ stt q = stt Q ∧ cd q < cd (d :: Q) + pw Q.length)) → KB g o ≤ KB g o2 → (∀ c, RGs g cn c → (∃ S, c = S ++ d :: Q) → KK g c ≤ KB g o2) → ∃ s' o', (lX7_extend F').1 s2 (zI (Q.length : Int)) (zI b) (zI (mnR g Q)) (zI (fsR g Q)) (zI M) (zI ((i + 1 : Nat) : Int)) = s' ∧ (qX7_extend F').1 s2 (zI (Q.length : Int)) (zI b) (zI (mnR g Q)) (zI (fsR g Q)) (zI M) (zI ((i + 1 : Nat) : Int)) ∧ ExR g cn Q (cd Q + pB Q.length) s o s' o' (fun c => ∃ S j, i ≤ j ∧ j < en b.toNat ∧ c = S ++ br j :: Q) := by
      intro s2 o2 a1 a2 a3 a4 a5 a6 a7
      obtain ⟨s', o', e1, e2, c1, c2, c3, c4, c5, c6, c7⟩ := ih (i + 1) (by omega) (by omega) s2 o2 F' (ExC_c hx1 a1 a2 (a3 0 (by omega))) (MPx_c (MPx_c hP j1) a3) a4 (fun q hq => by
        rcases a5 q hq with h | h
        · exact hg q h
        · exact h.1) (fun q hq => by
        rcases a5 q hq with h | h
        · rcases hp q h with h2 | h2
          · exact Or.inl h2
          · exact Or.inr ⟨h2.1, fun j h3 h4 => h2.2 j (by omega) h4⟩
        · refine Or.inr ⟨h.2.1, fun j h3 h4 => ?_⟩
          have h5 := hasc j (by omega) h4
          have h6 : ((d : Int) + 1) * pw Q.length ≤ (br j : Int) * pw Q.length := Int.mul_le_mul_of_nonneg_right (by omega) (by omega)
          rw [Int.add_mul, Int.one_mul] at h6
          have := h.2.2
          omega) (by omega)
      refine ⟨s', o', e1, e2, Fp_tr f1 (Fp_tr a1 c1), by rw [c2, a2, g1], fun j hj => by rw [c3 j hj, a3 j hj, j1 j hj], c4, fun q hq => ?_, Int.le_trans a6 c6, fun c hc hC => ?_⟩
      · rcases c5 q hq with h | h
        · rcases a5 q h with h | h
          · exact Or.inl h
          · exact Or.inr ⟨h.1, h.2.1, by omega⟩
        · exact Or.inr h
      · obtain ⟨S, j, h1, h2, h3⟩ := hC
        by_cases hj : j = i
        · subst hj
          rw [hd] at h3
          exact Int.le_trans (a7 c hc ⟨S, h3⟩) c6
        · exact c7 c hc ⟨S, j, by omega, h2, h3⟩
    -- what lies behind d
    have two : ∀ c, RGs g cn c → (∃ S, c = S ++ d :: Q) → (c = d :: Q ∧ oZ g d 1 = oZ g (stt Q) 0) ∨ (∃ S z, c = S ++ z :: d :: Q ∧ oZ g z 0 = oZ g d 1 ∧ ∀ y ∈ d :: Q, oZ g y 0 ≠ oZ g z 0) := by
      intro c hc ⟨S, hS⟩
      by_cases hS0 : S = []
      · subst hS0
        rw [List.nil_append] at hS
        have := hc.2.2.1 d Q hS
        rw [hS, hstt] at this
        exact Or.inl ⟨hS, this⟩
      · have e2 : c = S.dropLast ++ S.getLast hS0 :: (d :: Q) := by
          rw [hS]
          have := List.dropLast_concat_getLast hS0
          calc S ++ d :: Q = (S.dropLast ++ [S.getLast hS0]) ++ d :: Q := by rw [this]
            _ = _ := by rw [List.append_assoc]; rfl
        have h3 : vpa g (S.getLast hS0 :: d :: Q) := by have := hc.1; rw [e2] at this; exact vpa_app this
        exact Or.inr ⟨_, _, e2, h3.2.1 d Q rfl, h3.2.2.1⟩
    by_cases hcl : oZ g d 1 = oZ g (stt Q) 0
    · have hcyc : RGs g cn (d :: Q) := ⟨hv2, by rw [hl]; omega, fun z R hz => by cases hz; rw [hstt]; exact hcl, hcn2⟩
      obtain ⟨t1, t2⟩ := T1 hcl
      obtain ⟨s2, o2, e, a1, a2, a3, a4, a5, a6, a7⟩ := y_offer hw ho1 hg hcyc hP1 hp1
      rw [e] at t1 t2
      obtain ⟨s', o', e1, e2, e3⟩ := fin s2 o2 a1 a2 (fun j _ => by rw [a3]) a4 (fun q hq => by
        rcases a5 q hq with h | h
        · exact Or.inl h
        · rw [h]; exact Or.inr ⟨hcyc, hstt, by omega⟩) a6 (fun c hc hC => by
        rcases two c hc hC with h | ⟨S, z, h1, h2, h3⟩
        · rw [h.1]; exact a7
        · exact absurd (by rw [h2, hcl]) (h3 (stt Q) (by simp [hst])))
      exact ⟨s', o', by rw [lxe_35, t1]; exact e1, by rw [qxe_35]; exact t2 e2, e3⟩
    · by_cases hin : hasZ M (oZ g d 1)
      · obtain ⟨t1, t2⟩ := T2 hcl hin
        obtain ⟨s', o', e1, e2, e3⟩ := fin s1 o (Fp_rf _ s1) rfl (fun _ _ => rfl) ho1 (fun q hq => Or.inl hq) (Int.le_refl _) (fun c hc hC => by
          rcases two c hc hC with h | ⟨S, z, h1, h2, h3⟩
          · exact absurd h.2 hcl
          · rcases (hM.2 (oZ g d 1) (by omega) (by omega)).mp hin with h | ⟨y, hy, hy2⟩
            · exact absurd (by rw [b2, h]) hdn
            · exact absurd (by rw [hy2, h2]) (h3 y (by simp [hy])))
        exact ⟨s', o', by rw [lxe_35, t1]; exact e1, by rw [qxe_35]; exact t2 e2, e3⟩
      · obtain ⟨M', m1, m2⟩ := MTq_up hM b2 (nx := oZ g d 1) (by omega)
        have hnb : ∀ y ∈ d :: Q, oZ g y 0 ≠ oZ g d 1 := fun y hy hc => by
          rcases List.mem_cons.mp hy with rfl | hy
          · exact hdn hc
          · exact hin ((hM.2 (oZ g d 1) (by omega) (by omega)).mpr (Or.inr ⟨y, hy, hc⟩))
        obtain ⟨s2, o2, e, eq, a1, a2, a3, a4, a5, a6, a7⟩ := hE d Q (oZ g d 1) M' s1 o F' (by rw [hl]; omega) hv2 hcn2 rfl hnb m2 (by rw [hstt]; exact hx1) hP1 ho1 hg hp1 (by omega)
        rw [← m1] at e eq
        obtain ⟨t1, t2⟩ := T3 hcl hin s2 e
        rw [hl, p2] at a5
        obtain ⟨s', o', e1, e2, e3⟩ := fin s2 o2 a1 a2 (fun j hj => a3 j (by omega)) a4 (fun q hq => by
          rcases a5 q hq with h | h
          · exact Or.inl h
          · exact Or.inr ⟨h.1, by rw [h.2.1, hstt], h.2.2⟩) a6 (fun c hc hC => by
          rcases two c hc hC with h | ⟨S, z, h1, h2, h3⟩
          · exact absurd h.2 hcl
          · exact a7 c hc ⟨S ++ [z], by simp, by rw [h1, List.append_assoc]; rfl⟩)
        exact ⟨s', o', by rw [lxe_35, t1]; exact e1, by rw [qxe_35]; exact t2 eq e2, e3⟩
theorem y_ext (hw : WF g) {br lo0 lo en : Nat → Nat} {cn : Prop} : ∀ k, Ext g L P br lo0 lo en cn k := by
  intro k
  induction k with
  | zero =>
    intro x Q' b M s o F hlen hv hcn hb hbn hM hx hP ho hg hp hF
    obtain ⟨F', rfl⟩ : ∃ F', F = F' + 1 := ⟨F - 1, by omega⟩
    have le : (5 : Int32) ≤ zI ((x :: Q').length : Int) := by rw [show (x :: Q').length = 5 by omega]; decide
    refine ⟨s, o, ?_, ?_, Fp_rf _ s, rfl, fun _ _ => rfl, ho, fun q hq => Or.inl hq, Int.le_refl _, fun c hc ⟨S, h1, h2⟩ => ?_⟩
    · rw [lxe_e]; unfold tX7_extend_e; rw [if_pos le]
    · rw [qxe_e]; unfold uX7_extend_e; exact fun hc => absurd le hc
    · have := hc.2.1.2
      rw [h2, List.length_append] at this
      exact absurd (List.length_eq_zero_iff.mp (by omega)) h1
  | succ k ih =>
    intro x Q' b M s o F hlen hv hcn hb hbn hM hx hP ho hg hp hF
    have h0 := hw.w0
    obtain ⟨F', rfl⟩ : ∃ F', F = F' + 1 := ⟨F - 1, by omega⟩
    have hne : x :: Q' ≠ [] := by simp
    have hl1 : 1 ≤ (x :: Q').length := by rw [List.length_cons]; omega
    have hl4 : (x :: Q').length ≤ 4 := by omega
    have hxd := (vpa_ok hv x (by simp)).1.1
    have hxw := hw.wd hxd
    have hsd := (vpa_ok hv _ (stt_mem hne)).1.1
    have hfb := fs_90 hw hv (by omega)
    obtain ⟨mf, r3, r4, r5, r6⟩ := hx.2.2.1.2.2
    obtain ⟨X, hX⟩ : ∃ X, X = (5 - ((x :: Q').length : Int)) * mf := ⟨_, rfl⟩
    have hXb : 0 ≤ X ∧ X ≤ 72 := by
      rw [hX]
      rcases (show (x :: Q').length = 1 ∨ (x :: Q').length = 2 ∨ (x :: Q').length = 3 ∨ (x :: Q').length = 4 by omega) with h | h | h | h <;> rw [h] <;> omega
    have nle : ¬ (5 : Int32) ≤ zI ((x :: Q').length : Int) := by rw [show (5 : Int32) = zI 5 from rfl, z_le (by omega) (by omega)]; omega
    have e1 : zI ((x :: Q').length : Int) + 1 = zI (((x :: Q').length + 1 : Nat) : Int) := by rw [zl1, z_add]; rfl
    have e2 : zI (fsR g (x :: Q')) + ((5 - zI ((x :: Q').length : Int)) * gI s 218 7) = zI (fsR g (x :: Q') + X) := by rw [r3, show (5 : Int32) = zI 5 from rfl, z_sub, z_mul, z_add, hX]
    obtain ⟨i1, i2⟩ := y_isBetter hw ho hg (n := (x :: Q').length + 1) (by omega) (f := fsR g (x :: Q') + X) (by omega) (st := stt (x :: Q')) (by omega) hx.2.2.2.2.1
    have cb : (zI b).toNatClampNeg = b.toNat := z_cl (by omega)
    have vb : vp_in (zI b) 9 := by rw [z_in (by omega)]; omega
    have el := hx.2.2.2.2.2.1 b.toNat (by omega)
    obtain ⟨l1, l2, l3⟩ := hx.2.2.2.2.2.2 b.toNat (by omega)
    obtain ⟨k1, k2, k3, k4⟩ := hx.2.2.1.1 b.toNat (by omega)
    by_cases hbt : BT g o (stt (x :: Q')) ((x :: Q').length + 1) (fsR g (x :: Q') + X)
    · have i1 := i1 hbt
      obtain ⟨s', o', t1, t2, a1, a2, a3, a4, a5, a6, a7⟩ := y_loop hw ih hlen hv hcn hb hbn hM (en b.toNat - lo b.toNat) (lo b.toNat) (by omega) (Nat.le_refl _) s o F' hx hP ho hg (fun q hq => by
        rcases hp q hq with h | h
        · exact Or.inl h
        · refine Or.inr ⟨h.1, fun j _ _ => ?_⟩
          have : 0 ≤ (br j : Int) * pw (x :: Q').length := Int.mul_nonneg (by omega) (by have := (pw_pB hl4).2.2; omega)
          omega) (by omega)
      refine ⟨s', o', ?_, ?_, a1, a2, a3, a4, a5, a6, fun c hc ⟨S, h1, h2⟩ => a7 c hc ?_⟩
      · rw [lxe_e]; unfold tX7_extend_e; rw [if_neg nle, e1, e2, i1, if_neg (by decide), cb, el]; exact t1
      · rw [qxe_e]; unfold uX7_extend_e; rw [e1, e2, i1, cb, el]; exact fun _ _ => ⟨vb, t2⟩
      · have e2 : c = S.dropLast ++ S.getLast h1 :: (x :: Q') := by
          rw [h2]
          have := List.dropLast_concat_getLast h1
          calc S ++ x :: Q' = (S.dropLast ++ [S.getLast h1]) ++ x :: Q' := by rw [this]
            _ = _ := by rw [List.append_assoc]; rfl
        generalize S.getLast h1 = z at e2
        have h3 : vpa g (z :: x :: Q') := by have := hc.1; rw [e2] at this; exact vpa_app this
        have h4 := h3.1
        have h5 : oZ g z 0 = ((b.toNat : Nat) : Int) := by rw [h3.2.1 x Q' rfl, ← hb]; omega
        obtain ⟨j, j1, j2, j3⟩ := k3.2.2.2 z (by have := h4.1.1; omega) h4 h5
        refine ⟨S.dropLast, j, (l3 j j1 j2).mpr (fun hcn2 => ?_), j2, by rw [j3]; exact e2⟩
        rw [j3]
        have h6 := hc.2.2.2 hcn2 z (by rw [e2]; simp)
        have h7 : stt c = stt (x :: Q') := by rw [h2]; exact stt_app _ (by simp)
        have h8 : z ≠ stt (x :: Q') := fun hq => h3.2.2.1 (stt (x :: Q')) (stt_mem hne) (by rw [hq])
        omega
    · have i2 := i2 hbt
      refine ⟨s, o, ?_, ?_, Fp_rf _ s, rfl, fun _ _ => rfl, ho, fun q hq => Or.inl hq, Int.le_refl _, fun c hc ⟨S, h1, h2⟩ => ?_⟩
      · rw [lxe_e]; unfold tX7_extend_e; rw [if_neg nle, e1, e2, i2, if_pos rfl]
      · rw [qxe_e]; unfold uX7_extend_e; rw [e1, e2, i2]; exact fun _ hc => absurd rfl hc
      · have hS : 1 ≤ S.length := by cases S with | nil => exact absurd rfl h1 | cons a S => rw [List.length_cons]; omega
        have hcl := hc.2.1.2
        have hlc : c.length = S.length + (x :: Q').length := by rw [h2, List.length_append]
        have h7 : stt c = stt (x :: Q') := by rw [h2]; exact stt_app _ (by simp)
        have hup := fs_up hw (mf := mf) (fun d hd => r6 d hd) r4 (S := S) (P := x :: Q') (by have := hc.1; rw [h2] at this; exact this)
        rw [← h2] at hup
        have hSm : (S.length : Int) * mf ≤ (5 - ((x :: Q').length : Int)) * mf := Int.mul_le_mul_of_nonneg_right (by omega) r4
        have hce := cd_ext S (x :: Q') (by rw [← h2]; exact hcl) (fun y hy => RG_60 hw hc y (by rw [h2]; simp [hy]))
        rw [← h2] at hce
        refine BT_no hw hg hc (n := (x :: Q').length + 1) (f := fsR g (x :: Q') + X) (by omega) (by omega) (fun q hq => ?_) (by rw [h7]; exact hbt)
        rw [h7]
        rcases hp q hq with h | h
        · exact Or.inl h
        · exact Or.inr ⟨h.1, by omega⟩
end
