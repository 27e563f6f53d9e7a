-- needs: 41.ydies 42.qa 51.fr 54.copy 55.hist 56.hist 57.acts
section
variable {s : SM} {g : Nat → Int}
theorem kn_c (h : LdR s 31 5 g) (hw : WF g) (hi : HI s g) {t2 : SM} (f : Fr (InL 31) (mX2_note s 31 5) t2) : ∀ i, gI (mX2_keepNoted t2) 31 i = gI t2 31 i := by
  obtain ⟨nt, kp, hi⟩ := hi
  obtain ⟨m1, m2, m3, m4, m5⟩ := HIx_note h hw hi
  have b1 : gI t2 55 1 = zI (nt : Int) := by rw [f.1 55 (by omega)]; exact m1.2.2.1
  have b2 : gI t2 55 2 = zI (kp : Int) := by rw [f.1 55 (by omega)]; exact m1.2.2.2.1
  obtain ⟨p1, p2, p3⟩ := y_keepNoted hi.1 hi.2.1 b1 b2
  intro i
  rw [p1.1 31 (by omega)]
theorem q_write (h : LdR s 31 5 g) (h2 : RR s g) (hw : WF g) (hi : HI s g) (a1 a2 a3 a4 : Int32) : rX11_write s a1 a2 a3 a4 ∧ rX12_write (mX11_write s a1 a2 a3 a4) a1 a2 a3 a4 ∧ vX11_write s a1 a2 a3 a4 = vX12_write (mX11_write s a1 a2 a3 a4) a1 a2 a3 a4 ∧ AOK s g (mX12_write (mX11_write s a1 a2 a3 a4) a1 a2 a3 a4) := by
  obtain ⟨l, hl, rfl⟩ := z_ex a1
  obtain ⟨d, hd, rfl⟩ := z_ex a2
  obtain ⟨sm, hsm, rfl⟩ := z_ex a3
  obtain ⟨k, hk, rfl⟩ := z_ex a4
  have h0 := hw.w0
  have T := Th_R h2
  unfold rX11_write mX11_write vX11_write
  rw [y_hasDealers h.1 hw hl hd hk]
  have iS : ∀ t, vX12_isIn t (zI sm) 1 99 = bI (1 ≤ sm ∧ sm ≤ 99) := fun t => x_isIn t hsm (b := 1) (c := 99) (by omega) (by omega)
  have T0 : RR (pI s 248 0 0) g := T
  have jb : ∀ t, RR t g → vX12_isBody t (zI l) = bI (bdyZ g l) ∧ vX12_isBody t (zI d) = bI (bdyZ g d) ∧ vX12_isKind t (zI k) = bI (kndZ g k) := fun t ht => ⟨x_isBody ht hw hl, x_isBody ht hw hd, x_isKind ht hw hk⟩
  by_cases hc : bdyZ g l ∧ bdyZ g d ∧ kndZ g k
  · have b1 : ¬ bI (bdyZ g l ∧ bdyZ g d ∧ kndZ g k) = 0 := by rw [bI_0]; exact not_not_intro hc
    have c1 : ∀ t, RR t g → ¬ vX12_isBody t (zI l) = 0 ∧ ¬ vX12_isBody t (zI d) = 0 ∧ ¬ vX12_isKind t (zI k) = 0 := fun t ht => by
      obtain ⟨j1, j2, j3⟩ := jb t ht
      rw [j1, j2, j3, bI_0, bI_0, bI_0]
      exact ⟨not_not_intro hc.1, not_not_intro hc.2.1, not_not_intro hc.2.2⟩
    rw [if_neg b1, if_neg b1]
    by_cases hs : 1 ≤ sm ∧ sm ≤ 99
    · have b2 : ¬ zI sm < 1 := by rw [zl1, z_lt (by omega) (by omega)]; omega
      have b3 : zI sm ≤ 99 := by rw [zl99, z_le (by omega) (by omega)]; omega
      have b4 : ∀ t, ¬ vX12_isIn t (zI sm) 1 99 = 0 := fun t => by rw [iS, bI_0]; omega
      rw [if_neg b2, if_pos b3, if_neg b2, if_pos b3]
      obtain ⟨n4, n5⟩ := note_R h h2 hw hi
      obtain ⟨e, ll, f, r⟩ := y_tryWrite n4 (by omega) hw hc.1 hc.2.1 hc.2.2 hs
      have hb := wyZ_b g l d k
      rw [e]
      by_cases hq : wyZ g l d k = 0
      · have q0 : zI (wyZ g l d k) = 0 := by rw [hq]; rfl
        rw [if_pos hq] at ll
        rw [if_pos q0, if_pos q0]
        obtain ⟨k1, k2, k3⟩ := act_kp h h2 hw hi f
        obtain ⟨x1, x2⟩ := x_whyWrite k1 hw hc.1 hc.2.1 hc.2.2
        obtain ⟨y1, y2, y3, y4, y5, y6⟩ := wy_0 hw hc.1 hc.2.1 hc.2.2 hq
        obtain ⟨s1, s2, s3⟩ := x_writes (sm := sm) k2 hw hc.1 hc.2.1 hc.2.2 y6
        have sp : SP g (wrZ g l d sm k) := wrX_sp hw _ _ _ _ _ _
        have x1' : vX12_whyWrite (pI (mX2_keepNoted (mX4_tryWrite (mX2_note s 31 5) 31 5 (zI l) (zI d) (zI sm) (zI k))) 248 0 0) (zI l) (zI d) (zI k) = zI (wyZ g l d k) := x1
        have le : zI (wyZ g l d k) ≤ 0 := by rw [q0]; exact Int32.le_refl _
        obtain ⟨c2, c3, c4⟩ := c1 _ k1
        have c2 : ¬ vX12_isBody (pI (mX2_keepNoted (mX4_tryWrite (mX2_note s 31 5) 31 5 (zI l) (zI d) (zI sm) (zI k))) 248 0 0) (zI l) = 0 := c2
        have c3 : ¬ vX12_isBody (pI (mX2_keepNoted (mX4_tryWrite (mX2_note s 31 5) 31 5 (zI l) (zI d) (zI sm) (zI k))) 248 0 0) (zI d) = 0 := c3
        have c4 : ¬ vX12_isKind (pI (mX2_keepNoted (mX4_tryWrite (mX2_note s 31 5) 31 5 (zI l) (zI d) (zI sm) (zI k))) 248 0 0) (zI k) = 0 := c4
        unfold rX12_write vX12_write mX12_write
        rw [x1', if_neg c2, if_neg c3, if_neg c4, if_neg (b4 _), if_pos le, if_neg c2, if_neg c3, if_neg c4, if_neg (b4 _), if_pos le]
        obtain ⟨A1, A2, A3⟩ := act_ok h h2 hw hi sp (WA_wr hw y2 y3 (HI_wa hi)) f ll s2 s1
        refine ⟨fun _ _ _ => ⟨n5, r⟩, fun _ _ _ _ => ⟨x2, fun _ => ⟨k3, s3⟩⟩, ?_, wrZ g l d sm k, wrZ_wf hw hc.1 hc.2.1 hc.2.2 hs hq, sp, fun j hj => wrX_hi hw y6 _ _ _ _ _ _ hj, A1, s1, A2, A3⟩
        have v1 : gI (mX4_tryWrite (mX2_note s 31 5) 31 5 (zI l) (zI d) (zI sm) (zI k)) 31 9 = zI (wrZ g l d sm k 34) := ll.2.1.1
        have v2 : gI (mX12_writes (mX12_keep (pI (mX2_keepNoted (mX4_tryWrite (mX2_note s 31 5) 31 5 (zI l) (zI d) (zI sm) (zI k))) 248 0 0)) (zI l) (zI d) (zI sm) (zI k)) 250 (34 : Int32).toNatClampNeg = zI (wrZ g l d sm k 34) := s1 34
        rw [kn_c h hw hi f, v1, v2]
      · have q0 : ¬ zI (wyZ g l d k) = 0 := by rw [zl0, z_eq (by omega) (by omega)]; exact hq
        rw [if_neg hq] at ll
        rw [if_neg q0, if_neg q0]
        obtain ⟨R, A⟩ := act_no2 h h2 hw hi f ll
        obtain ⟨x1, x2⟩ := x_whyWrite R hw hc.1 hc.2.1 hc.2.2
        have x1' : vX12_whyWrite (pI (mX4_tryWrite (mX2_note s 31 5) 31 5 (zI l) (zI d) (zI sm) (zI k)) 248 0 0) (zI l) (zI d) (zI k) = zI (wyZ g l d k) := x1
        have le : ¬ zI (wyZ g l d k) ≤ 0 := by rw [zl0, z_le (by omega) (by omega)]; omega
        obtain ⟨c2, c3, c4⟩ := c1 _ R
        have c2 : ¬ vX12_isBody (pI (mX4_tryWrite (mX2_note s 31 5) 31 5 (zI l) (zI d) (zI sm) (zI k)) 248 0 0) (zI l) = 0 := c2
        have c3 : ¬ vX12_isBody (pI (mX4_tryWrite (mX2_note s 31 5) 31 5 (zI l) (zI d) (zI sm) (zI k)) 248 0 0) (zI d) = 0 := c3
        have c4 : ¬ vX12_isKind (pI (mX4_tryWrite (mX2_note s 31 5) 31 5 (zI l) (zI d) (zI sm) (zI k)) 248 0 0) (zI k) = 0 := c4
        unfold rX12_write vX12_write mX12_write
        rw [x1', if_neg c2, if_neg c3, if_neg c4, if_neg (b4 _), if_neg le, if_neg c2, if_neg c3, if_neg c4, if_neg (b4 _), if_neg le]
        exact ⟨fun _ _ _ => ⟨n5, r⟩, fun _ _ _ _ => ⟨x2, fun hc => absurd hc le⟩, rfl, A⟩
    · have b4 : ∀ t, vX12_isIn t (zI sm) 1 99 = 0 := fun t => by rw [iS, bI_0]; exact hs
      obtain ⟨c2, c3, c4⟩ := c1 _ T0
      have hm : (if zI sm < 1 then s else (if zI sm ≤ 99 then (if vX4_tryWrite (mX2_note s 31 5) 31 5 (zI l) (zI d) (zI sm) (zI k) = 0 then mX2_keepNoted (mX4_tryWrite (mX2_note s 31 5) 31 5 (zI l) (zI d) (zI sm) (zI k)) else mX4_tryWrite (mX2_note s 31 5) 31 5 (zI l) (zI d) (zI sm) (zI k)) else s)) = s := by
        by_cases q1 : zI sm < 1
        · rw [if_pos q1]
        · rw [if_neg q1, if_neg (by
            rw [zl1, z_lt (by omega) (by omega)] at q1
            rw [zl99, z_le (by omega) (by omega)]; omega)]
      rw [hm]
      unfold rX12_write vX12_write mX12_write
      rw [if_neg c2, if_neg c3, if_neg c4, if_pos (b4 _), if_neg c2, if_neg c3, if_neg c4, if_pos (b4 _)]
      refine ⟨fun _ q1 q2 => ?_, fun _ _ _ q => absurd (b4 _) q, ?_, AOK_th h h2 hw hi⟩
      · exfalso
        rw [zl1, z_lt (by omega) (by omega)] at q1
        rw [zl99, z_le (by omega) (by omega)] at q2
        omega
      · by_cases q1 : zI sm < 1
        · rw [if_pos q1]
        · rw [if_neg q1, if_neg (by
            rw [zl1, z_lt (by omega) (by omega)] at q1
            rw [zl99, z_le (by omega) (by omega)]; omega)]
  · have b1 : bI (bdyZ g l ∧ bdyZ g d ∧ kndZ g k) = 0 := by rw [bI_0]; exact hc
    rw [if_pos b1, if_pos b1]
    obtain ⟨j1, j2, j3⟩ := jb _ T0
    have hv : vX12_write s (zI l) (zI d) (zI sm) (zI k) = -1 ∧ mX12_write s (zI l) (zI d) (zI sm) (zI k) = Th s ∧ rX12_write s (zI l) (zI d) (zI sm) (zI k) := by
      unfold rX12_write vX12_write mX12_write
      rw [j1, j2, j3]
      by_cases q1 : bdyZ g l
      · by_cases q2 : bdyZ g d
        · have q3 : ¬ kndZ g k := fun hk => hc ⟨q1, q2, hk⟩
          rw [bI_T' q1, bI_T' q2, bI_F' q3]
          exact ⟨rfl, rfl, fun _ _ hh => absurd rfl hh⟩
        · rw [bI_T' q1, bI_F' q2]
          exact ⟨rfl, rfl, fun _ hh => absurd rfl hh⟩
      · rw [bI_F' q1]
        exact ⟨rfl, rfl, fun hh => absurd rfl hh⟩
    rw [hv.1, hv.2.1]
    exact ⟨fun q => absurd b1 q, hv.2.2, rfl, AOK_th h h2 hw hi⟩
theorem x_whyDies (h : RR s g) {b e : Int} (hb : bdyZ g b) (he : bdyZ g e) (h9 : g 0 ≤ 9) : vX12_whyDies s (zI b) (zI e) = zI (if b = e ∨ ¬ livZ g b ∨ ¬ livZ g e then 1 else 0) := by
  unfold vX12_whyDies
  rw [x_isLiving h, x_isLiving h]
  simp only [bI_0, z_eq (show IR b by omega) (show IR e by omega)]
  by_cases q1 : b = e
  · rw [if_pos q1, if_pos (Or.inl q1)]; rfl
  · by_cases q2 : livZ g b
    · by_cases q3 : livZ g e
      · rw [if_neg q1, if_neg (not_not_intro q2), if_neg (not_not_intro q3), if_neg (fun hc => by rcases hc with hc | hc | hc; exact q1 hc; exact hc q2; exact hc q3)]; rfl
      · rw [if_neg q1, if_neg (not_not_intro q2), if_pos q3, if_pos (Or.inr (Or.inr q3))]; rfl
    · rw [if_neg q1, if_pos q2, if_pos (Or.inr (Or.inl q2))]; rfl
theorem q_dies (h : LdR s 31 5 g) (h2 : RR s g) (hw : WF g) (hi : HI s g) (a1 a2 : Int32) : rX11_dies s a1 a2 ∧ rX12_dies (mX11_dies s a1 a2) a1 a2 ∧ vX11_dies s a1 a2 = vX12_dies (mX11_dies s a1 a2) a1 a2 ∧ AOK s g (mX12_dies (mX11_dies s a1 a2) a1 a2) := by
  obtain ⟨b, hb, rfl⟩ := z_ex a1
  obtain ⟨e, he, rfl⟩ := z_ex a2
  have h0 := hw.w0
  have n10 : ¬ ((1 : Int32) = 0) := by decide
  have n00 : (0 : Int32) = 0 := rfl
  have n1l : ¬ (zI 1 ≤ 0) := by decide
  have n0l : zI 0 ≤ 0 := by decide
  have T0 : RR (pI s 248 0 0) g := Th_R h2
  have jb : ∀ t, RR t g → vX12_isBody t (zI b) = bI (bdyZ g b) ∧ vX12_isBody t (zI e) = bI (bdyZ g e) := fun t ht => ⟨x_isBody ht hw hb, x_isBody ht hw he⟩
  unfold rX11_dies mX11_dies vX11_dies
  rw [y_hasBody h.1 hw hb, y_hasBody h.1 hw he]
  by_cases c1 : bdyZ g b
  · by_cases c2 : bdyZ g e
    · rw [bI_T' c1, bI_T' c2, if_neg n10, if_neg n10, if_neg n10, if_neg n10]
      obtain ⟨n4, n5⟩ := note_R h h2 hw hi
      obtain ⟨ev, ll, f, r⟩ := y_tryBury n4 (by omega) hw c1 c2
      obtain ⟨ev2, r2⟩ := y_openFor_l n4 hw hb he
      have ev2 : vX4_openFor (mX2_note s 31 5) 31 5 (zI b) (zI e) = fold (doC g b e) (g 34).toNat 0 := ev2
      have r2 : rX4_openFor (mX2_note s 31 5) 31 5 (zI b) (zI e) := r2
      rw [ev, ev2]
      by_cases hq : b = e ∨ ¬ livZ g b ∨ ¬ livZ g e
      · rw [if_pos hq] at ll ⊢
        rw [if_neg (show ¬ zI 1 = 0 by decide), if_neg (show ¬ zI 1 = 0 by decide)]
        obtain ⟨R, A⟩ := act_no2 h h2 hw hi f ll
        obtain ⟨j1, j2⟩ := jb _ R
        have x1 := x_whyDies R c1 c2 h0.1.2
        rw [if_pos hq] at x1
        have x1 : vX12_whyDies (pI (mX4_tryBury (mX2_note s 31 5) 31 5 (zI b) (zI e)) 248 0 0) (zI b) (zI e) = zI 1 := x1
        have j1 : vX12_isBody (pI (mX4_tryBury (mX2_note s 31 5) 31 5 (zI b) (zI e)) 248 0 0) (zI b) = bI (bdyZ g b) := j1
        have j2 : vX12_isBody (pI (mX4_tryBury (mX2_note s 31 5) 31 5 (zI b) (zI e)) 248 0 0) (zI e) = bI (bdyZ g e) := j2
        unfold rX12_dies vX12_dies mX12_dies
        rw [x1, j1, j2, bI_T' c1, bI_T' c2, if_neg n10, if_neg n10, if_neg n1l, if_neg n10, if_neg n10, if_neg n1l]
        exact ⟨fun _ _ => ⟨n5, r2, r⟩, fun _ _ hc => absurd hc (by decide), rfl, A⟩
      · rw [if_neg hq] at ll ⊢
        rw [if_pos (show zI 0 = 0 from rfl), if_pos (show zI 0 = 0 from rfl)]
        obtain ⟨k1, k2, k3⟩ := act_kp h h2 hw hi f
        obtain ⟨j1, j2⟩ := jb _ k1
        have x1 := x_whyDies k1 c1 c2 h0.1.2
        rw [if_neg hq] at x1
        have x1 : vX12_whyDies (pI (mX2_keepNoted (mX4_tryBury (mX2_note s 31 5) 31 5 (zI b) (zI e))) 248 0 0) (zI b) (zI e) = zI 0 := x1
        have j1 : vX12_isBody (pI (mX2_keepNoted (mX4_tryBury (mX2_note s 31 5) 31 5 (zI b) (zI e))) 248 0 0) (zI b) = bI (bdyZ g b) := j1
        have j2 : vX12_isBody (pI (mX2_keepNoted (mX4_tryBury (mX2_note s 31 5) 31 5 (zI b) (zI e))) 248 0 0) (zI e) = bI (bdyZ g e) := j2
        obtain ⟨s1, s2, s3, s4⟩ := x_buries k2 hw c1 c2 (fun hc => hq (Or.inl hc))
        obtain ⟨b1, b2, b3, -⟩ := buP_all hw c1 c2 (g 34).toNat
        have sp : SP g (buP g b e (g 34).toNat) := fun k hk => by rw [b2 k (by omega)]; unfold upZ; rw [if_neg (by omega)]
        obtain ⟨A1, A2, A3⟩ := act_ok h h2 hw hi sp (WA_bu hw c1 c2 (fun hc => hq (Or.inl hc)) (Classical.not_not.mp fun hc => hq (Or.inr (Or.inr hc))) (HI_wa hi)) f ll s2 s1
        unfold rX12_dies vX12_dies mX12_dies
        rw [x1, j1, j2, bI_T' c1, bI_T' c2, if_neg n10, if_neg n10, if_pos n0l, if_neg n10, if_neg n10, if_pos n0l]
        exact ⟨fun _ _ => ⟨n5, r2, r⟩, fun _ _ _ => ⟨k3, s4⟩, s3.symm, _, b1, sp, b3, A1, s1, A2, A3⟩
    · obtain ⟨j1, j2⟩ := jb _ T0
      rw [bI_T' c1, bI_F' c2, if_neg n10, if_pos n00, if_neg n10, if_pos n00]
      unfold rX12_dies vX12_dies mX12_dies
      rw [j1, j2, bI_T' c1, bI_F' c2, if_neg n10, if_pos n00, if_neg n10, if_pos n00]
      exact ⟨fun _ q => absurd rfl q, fun _ q => absurd rfl q, rfl, AOK_th h h2 hw hi⟩
  · obtain ⟨j1, j2⟩ := jb _ T0
    rw [bI_F' c1, if_pos n00, if_pos n00]
    unfold rX12_dies vX12_dies mX12_dies
    rw [j1, bI_F' c1, if_pos n00, if_pos n00]
    exact ⟨fun q => absurd rfl q, fun q => absurd rfl q, rfl, AOK_th h h2 hw hi⟩
end
