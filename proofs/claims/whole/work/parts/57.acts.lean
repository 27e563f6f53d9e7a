-- needs: 42.qa 51.fr 54.copy 55.hist 56.hist
/-- how an act leaves all -/
def AOK (s : SM) (g : Nat → Int) (t : SM) : Prop := ∃ g', WF g' ∧ SP g g' ∧ (∀ k, 586 ≤ k → g' k = g k) ∧ LdR t 31 5 g' ∧ RR t g' ∧ HI t g' ∧ Fp ActC s t
section
variable {s : SM} {g : Nat → Int}
theorem HI_th (hi : HI s g) : HI (Th s) g := by
  obtain ⟨nt, kp, i1, i2, i3, i4, i5, i6, i7⟩ := hi
  refine ⟨nt, kp, i1, i2, ?_, ?_, ?_, fun j hj => HRow_fr (i6 j hj) (fun _ _ => rfl) (fun c h1 h2 => ?_) ?_, i7⟩
  · rw [gI_n _ _ _ _ (by omega)]; exact i3
  · rw [gI_n _ _ _ _ (by omega)]; exact i4
  · rw [gI_s, if_neg (show ¬ 25 = 0 by decide)]; exact i5
  · funext i; exact gI_n _ _ _ _ (by unfold rowL at h1 h2; omega)
  · funext i; exact gI_n _ _ _ _ (by omega)
theorem AOK_th (h : LdR s 31 5 g) (h2 : RR s g) (hw : WF g) (hi : HI s g) : AOK s g (Th s) := ⟨g, hw, fun _ _ => rfl, fun _ _ => rfl, LdR_fr h (Fr_pI s 0 _ (A := fun c => c = 248) rfl) (fun c hc => by omega), Th_R h2, HI_th hi, Fp_p s (by unfold ActC; omega)⟩
/-- an act refused -/
theorem act_no2 (h : LdR s 31 5 g) (h2 : RR s g) (hw : WF g) (hi : HI s g) {t : SM} (ht : Fr (InL 31) (mX2_note s 31 5) t) (hl : LdR t 31 5 g) : RR (Th t) g ∧ AOK s g (Th t) := by
  obtain ⟨nt, kp, hi⟩ := hi
  obtain ⟨n1, n2, n3, n4, n5⟩ := HIx_note h hw hi
  have f : Fr (fun c => InL 31 c ∨ InL (57 + 12 * nt) c) s t := Fr_tr (Fr_mo n3 (fun c hc => Or.inr hc)) (Fr_mo ht (fun c hc => Or.inl hc))
  have hnt := hi.1
  have hit : HIx t g nt kp := by
    obtain ⟨i1, i2, i3, i4, i5, i6, i7⟩ := n1
    refine ⟨i1, i2, ?_, ?_, ?_, fun j hj => HRow_fr (i6 j hj) (fun _ _ => rfl) (fun c h1 h2 => ht.1 c (by unfold rowL at h1 h2; omega)) (ht.1 255 (by omega)), i7⟩
    · rw [ht.1 55 (by omega)]; exact i3
    · rw [ht.1 55 (by omega)]; exact i4
    · rw [ht.1 248 (by omega)]; exact i5
  obtain ⟨g1, w1, w2, w3, w4, w5, w6, w7⟩ := AOK_th hl (RR_fr h2 f (by omega)) hw ⟨nt, kp, hit⟩
  refine ⟨Th_R (RR_fr h2 f (by omega)), g1, w1, w2, w3, w4, w5, w6, Fp_tr (Fp_fr f (fun c hc i => ?_)) w7⟩
  unfold ActC; omega
/-- ahead of a reference's act -/
theorem act_kp (h : LdR s 31 5 g) (h2 : RR s g) (hw : WF g) (hi : HI s g) {t2 : SM} (f2 : Fr (InL 31) (mX2_note s 31 5) t2) : RR (Th (mX2_keepNoted t2)) g ∧ RR (mX12_keep (Th (mX2_keepNoted t2))) g ∧ rX12_keep (Th (mX2_keepNoted t2)) := by
  obtain ⟨nt, kp, hi⟩ := hi
  obtain ⟨n1, n2, n3, n4, n5⟩ := HIx_note h hw hi
  have i1 := hi.1
  have i2 := hi.2.1
  have b1 : gI t2 55 1 = zI (nt : Int) := by rw [f2.1 55 (by omega)]; exact n1.2.2.1
  have b2 : gI t2 55 2 = zI (kp : Int) := by rw [f2.1 55 (by omega)]; exact n1.2.2.2.1
  obtain ⟨k1, k2, k3⟩ := y_keepNoted i1 i2 b1 b2
  have b3 : gI (Th (mX2_keepNoted t2)) 248 25 = zI (kp : Int) := by
    rw [gI_s, if_neg (by omega), k1.1 248 (by omega), f2.1 248 (by omega)]; exact n1.2.2.2.2.1
  obtain ⟨t, e, r, f5, q1, q2, q3, q4⟩ := x_keep (Th (mX2_keepNoted t2)) i2 b3
  have R1 : RR (Th (mX2_keepNoted t2)) g := Th_R (RR_fr (RR_fr (RR_fr h2 n3 (by omega)) f2 (by omega)) k1 (by omega))
  rw [e]
  exact ⟨R1, RR_fr R1 f5 (by omega), r⟩
theorem note_R (h : LdR s 31 5 g) (h2 : RR s g) (hw : WF g) (hi : HI s g) : LdR (mX2_note s 31 5) 31 5 g ∧ rX2_note s 31 5 := by
  obtain ⟨nt, kp, hi⟩ := hi
  obtain ⟨n1, n2, n3, n4, n5⟩ := HIx_note h hw hi
  exact ⟨n4, n5⟩
theorem y_hasDealers {P : Nat} (h : PoR s P g) (hw : WF g) {a b k : Int} (ha : IR a) (hb : IR b) (hk : IR k) : vX6_hasDealers s P (zI a) (zI b) (zI k) = bI (bdyZ g a ∧ bdyZ g b ∧ kndZ g k) := by
  unfold vX6_hasDealers
  rw [y_hasBody h hw ha, y_hasBody h hw hb, y_hasKind h hw hk]
  simp only [bI_0]
  by_cases c1 : bdyZ g a
  · by_cases c2 : bdyZ g b
    · by_cases c3 : kndZ g k
      · rw [if_neg (not_not_intro c1), if_neg (not_not_intro c2), if_neg (not_not_intro c3), bI_T' ⟨c1, c2, c3⟩]
      · rw [if_neg (not_not_intro c1), if_neg (not_not_intro c2), if_pos c3, bI_F' (fun hc => c3 hc.2.2)]
    · rw [if_neg (not_not_intro c1), if_pos c2, bI_F' (fun hc => c2 hc.2.1)]
  · rw [if_pos c1, bI_F' (fun hc => c1 hc.1)]
theorem q_strike (h : LdR s 31 5 g) (h2 : RR s g) (hw : WF g) (hi : HI s g) (a1 : Int32) : rX11_strike s a1 ∧ rX12_strike (mX11_strike s a1) a1 ∧ vX11_strike s a1 = vX12_strike (mX11_strike s a1) a1 ∧ AOK s g (mX12_strike (mX11_strike s a1) a1) := by
  obtain ⟨d, hd, rfl⟩ := z_ex a1
  have h0 := hw.w0
  obtain ⟨n4, n5⟩ := note_R h h2 hw hi
  obtain ⟨e, l, f, r⟩ := y_tryStrike n4 (by omega) hw hd
  have hb := wsZ_b g d
  unfold rX11_strike mX11_strike vX11_strike
  rw [e]
  by_cases hq : wsZ g d = 0
  · have q0 : zI (wsZ g d) = 0 := by rw [hq]; rfl
    rw [if_pos hq] at l
    rw [if_pos q0]
    obtain ⟨k1, k2, k3⟩ := act_kp h h2 hw hi f
    obtain ⟨x1, x2⟩ := x_whyStrike k1 hw hd
    obtain ⟨sw, so⟩ := skZ_wf hw hq
    obtain ⟨s1, s2, s3⟩ := x_strikes k2 hw so
    have hwd := hw.wd so.1
    have sp : SP g (skZ g d) := fun k hk => by
      unfold skZ
      rw [exA_lo _ _ (by omega) (by omega), exA_lo _ _ (by omega) (by omega), stD_lo _ _ (by omega) (by omega) (by omega)]
    have x1' : vX12_whyStrike (pI (mX2_keepNoted (mX4_tryStrike (mX2_note s 31 5) 31 5 (zI d))) 248 0 0) (zI d) = zI (wsZ g d) := x1
    have le : zI (wsZ g d) ≤ 0 := by rw [q0]; exact Int32.le_refl _
    unfold rX12_strike vX12_strike mX12_strike
    rw [x1', if_pos le, if_pos le]
    obtain ⟨A1, A2, A3⟩ := act_ok h h2 hw hi sp (WA_sk hw so (HI_wa hi)) f l s2 s1
    exact ⟨⟨n5, r⟩, ⟨x2, fun _ => ⟨k3, s3⟩⟩, q0, skZ g d, sw, sp, fun k hk => by
      unfold skZ
      rw [exA_hi _ _ (by omega) (by omega), exA_hi _ _ (by omega) (by omega), stD_hi _ _ (by omega) (by omega) (by omega)], A1, s1, A2, A3⟩
  · have q0 : ¬ zI (wsZ g d) = 0 := by rw [zl0, z_eq (by omega) (by omega)]; exact hq
    rw [if_neg hq] at l
    rw [if_neg q0]
    obtain ⟨R, A⟩ := act_no2 h h2 hw hi f l
    obtain ⟨x1, x2⟩ := x_whyStrike R hw hd
    have x1' : vX12_whyStrike (pI (mX4_tryStrike (mX2_note s 31 5) 31 5 (zI d)) 248 0 0) (zI d) = zI (wsZ g d) := x1
    have le : ¬ zI (wsZ g d) ≤ 0 := by rw [zl0, z_le (by omega) (by omega)]; omega
    unfold rX12_strike vX12_strike mX12_strike
    rw [x1', if_neg le, if_neg le]
    exact ⟨⟨n5, r⟩, ⟨x2, fun hc => absurd hc le⟩, rfl, A⟩
theorem q_scar (h : LdR s 31 5 g) (h2 : RR s g) (hw : WF g) (hi : HI s g) (a1 a2 : Int32) : rX11_scar s a1 a2 ∧ rX12_scar (mX11_scar s a1 a2) a1 a2 ∧ vX11_scar s a1 a2 = vX12_scar (mX11_scar s a1 a2) a1 a2 ∧ AOK s g (mX12_scar (mX11_scar s a1 a2) a1 a2) := by
  obtain ⟨d, hd, rfl⟩ := z_ex a1
  obtain ⟨w, hw2, rfl⟩ := z_ex a2
  have h0 := hw.w0
  have iS : ∀ t, vX12_isIn t (zI w) 0 1 = bI (0 ≤ w ∧ w ≤ 1) := fun t => x_isIn t hw2 (b := 0) (c := 1) (by omega) (by omega)
  unfold rX11_scar mX11_scar vX11_scar rX12_scar vX12_scar mX12_scar
  rw [c_isSide s hw2]
  by_cases hs : w = 0 ∨ w = 1
  · have b1 : ¬ bI (w = 0 ∨ w = 1) = 0 := by rw [bI_0]; exact not_not_intro hs
    have b2 : ∀ t, ¬ vX12_isIn t (zI w) 0 1 = 0 := fun t => by rw [iS, bI_0]; omega
    rw [if_neg b1, if_neg b1, if_neg (b2 _), if_neg (b2 _)]
    obtain ⟨n4, n5⟩ := note_R h h2 hw hi
    obtain ⟨e, l, f, r⟩ := y_tryScar n4 (by omega) hw hd hs
    have hb := scW_b g d w
    rw [e]
    by_cases hq : scW g d w = 0
    · have q0 : zI (scW g d w) = 0 := by rw [hq]; rfl
      rw [if_pos hq] at l
      rw [if_pos q0]
      obtain ⟨k1, k2, k3⟩ := act_kp h h2 hw hi f
      obtain ⟨x1, x2⟩ := x_whyScar k1 hw hd hs
      have so : opZ g d := Classical.byContradiction (fun hc => by unfold scW at hq; rw [if_neg hc] at hq; omega)
      obtain ⟨s1, s2, s3, s4⟩ := x_scars (w := w) k2 hw so
      have x1' : vX12_whyScar (pI (mX2_keepNoted (mX4_tryScar (mX2_note s 31 5) 31 5 (zI d) (zI w))) 248 0 0) (zI d) (zI w) = zI (scW g d w) := x1
      have le : zI (scW g d w) ≤ 0 := by rw [q0]; exact Int32.le_refl _
      have sp : SP g (scZ g d w) := fun k hk => by
        unfold scZ
        rw [stD_lo _ _ (by omega) (by omega) (by omega)]
      rw [x1', if_pos le, if_pos le]
      obtain ⟨A1, A2, A3⟩ := act_ok h h2 hw hi sp (WA_sc so (HI_wa hi)) f l s2 s1
      exact ⟨fun _ => ⟨n5, r⟩, fun _ => ⟨x2, fun _ => ⟨k3, s3, s4⟩⟩, q0, scZ g d w, scZ_wf hw hs so, sp, fun k hk => by
        unfold scZ
        rw [stD_hi _ _ (by omega) (by omega) (by omega)], A1, s1, A2, A3⟩
    · have q0 : ¬ zI (scW g d w) = 0 := by rw [zl0, z_eq (by omega) (by omega)]; exact hq
      rw [if_neg hq] at l
      rw [if_neg q0]
      obtain ⟨R, A⟩ := act_no2 h h2 hw hi f l
      obtain ⟨x1, x2⟩ := x_whyScar R hw hd hs
      have x1' : vX12_whyScar (pI (mX4_tryScar (mX2_note s 31 5) 31 5 (zI d) (zI w)) 248 0 0) (zI d) (zI w) = zI (scW g d w) := x1
      have le : ¬ zI (scW g d w) ≤ 0 := by rw [zl0, z_le (by omega) (by omega)]; omega
      rw [x1', if_neg le, if_neg le]
      exact ⟨fun _ => ⟨n5, r⟩, fun _ => ⟨x2, fun hc => absurd hc le⟩, rfl, A⟩
  · have b1 : bI (w = 0 ∨ w = 1) = 0 := by rw [bI_0]; exact hs
    have b2 : ∀ t, vX12_isIn t (zI w) 0 1 = 0 := fun t => by rw [iS, bI_0]; omega
    rw [if_pos b1, if_pos b1, if_pos (b2 _), if_pos (b2 _)]
    exact ⟨fun hc => absurd b1 hc, fun hc => absurd (b2 _) hc, rfl, AOK_th h h2 hw hi⟩
theorem q_year (h : LdR s 31 5 g) (h2 : RR s g) (hw : WF g) (hi : HI s g) : rX11_year s ∧ rX12_year (mX11_year s) ∧ vX11_year s = vX12_year (mX11_year s) ∧ AOK s g (mX12_year (mX11_year s)) := by
  have h0 := hw.w0
  obtain ⟨n4, n5⟩ := note_R h h2 hw hi
  obtain ⟨e, l, f⟩ := y_tryYear n4 (by omega) hw
  have c35 : (35 : Int32).toNatClampNeg = 35 := rfl
  unfold rX11_year mX11_year vX11_year
  rw [e]
  by_cases hq : g 35 = 99
  · rw [if_pos hq] at l ⊢
    have q0 : ¬ zI 9 = 0 := by decide
    rw [if_neg q0, if_neg q0]
    obtain ⟨R, A⟩ := act_no2 h h2 hw hi f l
    have x1 : gI (pI (mX4_tryYear (mX2_note s 31 5) 31 5) 248 0 0) 250 (35 : Int32).toNatClampNeg = 99 := by rw [c35]; exact (R 35).trans (by rw [hq]; rfl)
    unfold rX12_year vX12_year mX12_year
    rw [if_pos x1, if_pos x1]
    exact ⟨n5, fun hc => absurd x1 hc, rfl, A⟩
  · rw [if_neg hq] at l ⊢
    rw [if_pos (show zI 0 = 0 from rfl), if_pos (show zI 0 = 0 from rfl)]
    obtain ⟨k1, k2, k3⟩ := act_kp h h2 hw hi f
    have x1 : ¬ gI (pI (mX2_keepNoted (mX4_tryYear (mX2_note s 31 5) 31 5)) 248 0 0) 250 (35 : Int32).toNatClampNeg = 99 := by
      rw [c35, show gI (pI (mX2_keepNoted (mX4_tryYear (mX2_note s 31 5) 31 5)) 248 0 0) 250 35 = zI (g 35) from k1 35, zl99, z_eq (by omega) (by omega)]; exact hq
    have kk : ∀ k, gI (mX12_keep (pI (mX2_keepNoted (mX4_tryYear (mX2_note s 31 5) 31 5)) 248 0 0)) 250 k = zI (g k) := k2
    unfold rX12_year vX12_year mX12_year
    rw [if_neg x1, if_neg x1]
    dsimp only []
    rw [c35, kk 35, zl1, z_add]
    have s1 := RR_up k2 35 (g 35 + 1)
    have s2 : Fr (fun c => c = 250) (mX12_keep (Th (mX2_keepNoted (mX4_tryYear (mX2_note s 31 5) 31 5)))) (pI (mX12_keep (Th (mX2_keepNoted (mX4_tryYear (mX2_note s 31 5) 31 5)))) 250 35 (zI (g 35 + 1))) := Fr_pI _ _ _ rfl
    have sp : SP g (upZ g 35 (g 35 + 1)) := SP_up g _ (by omega)
    obtain ⟨A1, A2, A3⟩ := act_ok h h2 hw hi sp (WA_35 (HI_wa hi)) f l s2 s1
    have v1 : gI (mX2_keepNoted (mX4_tryYear (mX2_note s 31 5) 31 5)) 31 10 = zI (g 35 + 1) := by
      obtain ⟨nt, kp, hi⟩ := hi
      obtain ⟨m1, m2, m3, m4, m5⟩ := HIx_note h hw hi
      have b1 : gI (mX4_tryYear (mX2_note s 31 5) 31 5) 55 1 = zI (nt : Int) := by rw [f.1 55 (by omega)]; exact m1.2.2.1
      have b2 : gI (mX4_tryYear (mX2_note s 31 5) 31 5) 55 2 = zI (kp : Int) := by rw [f.1 55 (by omega)]; exact m1.2.2.2.1
      obtain ⟨p1, p2, p3⟩ := y_keepNoted hi.1 hi.2.1 b1 b2
      rw [p1.1 31 (by omega)]
      exact l.2.1.2.1
    refine ⟨n5, fun _ => k3, ?_, upZ g 35 (g 35 + 1), WF_yr hw (by omega), sp, fun k hk => by unfold upZ; rw [if_neg (by omega)], A1, s1, A2, A3⟩
    rw [v1, gI_s, if_pos rfl]
end
