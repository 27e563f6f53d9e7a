-- needs: 69y.pack
theorem nar255 (x : Int32) : vp_nar .byte x.toInt8.toInt32 &&& 255 = x &&& 255 := by
  rw [vp_nar_byte]
  apply Int32.toBitVec_inj.mp
  apply BitVec.eq_of_getElem_eq
  intro i hi
  by_cases h : i < 8
  · simp [BitVec.getElem_signExtend, h, hi]
  · have : (255#32)[i] = false := by
      have hh : ∀ k : Fin 32, ¬ k.val < 8 → (255#32).getLsbD k.val = false := by decide
      rw [← BitVec.getLsbD_eq_getElem]
      exact hh ⟨i, hi⟩ h
    have e : (255 : Int32).toBitVec = 255#32 := rfl
    simp [e, this]
theorem a255 (x : Int32) : 0 ≤ (x &&& 255).toInt ∧ (x &&& 255).toInt < 256 := by
  have h : (x &&& 255).toBitVec.toNat < 256 := by
    have e : (255 : Int32).toBitVec = 255#32 := rfl
    rw [Int32.toBitVec_and, e, BitVec.toNat_and]
    have := @Nat.and_le_right x.toBitVec.toNat (255#32).toNat
    have e2 : (255#32 : BitVec 32).toNat = 255 := rfl
    omega
  have h2 : (x &&& 255).toInt = (x &&& 255).toBitVec.toInt := rfl
  rw [h2, BitVec.toInt_eq_toNat_cond]
  split <;> omega
def oct (a : Int32) (k : Nat) : Int32 := (a >>> (zI (24 - 8 * (k : Int)) &&& 31)) &&& 255
def btA (bt : Nat → Int) (n : Nat) (a : Int32) (i : Nat) : Int := if i < n then bt i else (oct a (i - n)).toInt
def TpY (s : SM) (n : Nat) (bt : Nat → Int) : Prop := gI s 3 1 = zI (n : Int) ∧ ∀ i, i < n → (0 ≤ bt i ∧ bt i < 256) ∧ gI s 4 i = zI (bt i)
def TpX (s : SM) (n : Nat) (bt : Nat → Int) : Prop := gI s 248 2 = zI (n : Int) ∧ ∀ i, i < n → (0 ≤ bt i ∧ bt i < 256) ∧ (gI s 249 i &&& 255) = zI (bt i)
theorem TpB_i {s : SM} {n : Nat} {bt : Nat → Int} : TpB s n bt ↔ n ≤ 640 ∧ TpY s n bt ∧ TpX s n bt := by
  constructor
  · rintro ⟨a, b, c, d⟩; exact ⟨a, ⟨b, fun i hi => ⟨(d i hi).1, (d i hi).2.1⟩⟩, ⟨c, fun i hi => ⟨(d i hi).1, (d i hi).2.2⟩⟩⟩
  · rintro ⟨a, ⟨b, d⟩, ⟨c, e⟩⟩; exact ⟨a, b, c, fun i hi => ⟨(d i hi).1, (d i hi).2, (e i hi).2⟩⟩
theorem y_add {s : SM} {n : Nat} {bt : Nat → Int} (h : TpY s n bt) (hn : n + 4 ≤ 640) (a : Int32) : ∃ t, mX9_add s a = t ∧ rX9_add s a ∧ TpY t (n + 4) (btA bt n a) ∧ Fp (fun c i => (c = 3 ∧ i = 1) ∨ c = 4) s t := by
  obtain ⟨t, ⟨i1, i2, i3, i4⟩, st⟩ := ST_up (B := 1) 4 (fun (d : Nat) (t : SM) => gI t 3 1 = zI ((n + d : Nat) : Int) ∧ (∀ i, i < n → gI t 4 i = gI s 4 i) ∧ (∀ k, k < d → gI t 4 (n + k) = oct a k) ∧ Fp (fun c i => (c = 3 ∧ i = 1) ∨ c = 4) s t) (fun d t m => lX9_add m t a (zI (24 - 8 * (d : Int)))) (fun d t m => qX9_add m t a (zI (24 - 8 * (d : Int)))) (fun d t hd ⟨h1, h2, h3, h4⟩ => by
    have n1 : ¬ zI (24 - 8 * (d : Int)) < 0 := by rw [zl0, z_lt (by omega) (by omega)]; omega
    have n2 : ¬ 640 ≤ zI ((n + d : Nat) : Int) := by rw [show (640 : Int32) = zI 640 from rfl, z_le (by omega) (by omega)]; omega
    have cj : (zI ((n + d : Nat) : Int)).toNatClampNeg = n + d := by rw [z_cl (by omega)]; exact Int.toNat_natCast _
    have e8 : zI (24 - 8 * (d : Int)) + (-8) = zI (24 - 8 * ((d + 1 : Nat) : Int)) := by rw [show (-8 : Int32) = zI (-8) from rfl, z_add]; congr 1; omega
    refine ⟨pI (pI t 4 (n + d) (oct a d)) 3 1 (zI ((n + (d + 1) : Nat) : Int)), ⟨?_, ?_, ?_, ?_⟩, ST_1 fun m => ?_⟩
    · rw [gI_pI, if_pos ⟨rfl, rfl⟩]
    · intro i hi
      rw [gI_pI, if_neg (by omega), gI_pI, if_neg (by omega), h2 i hi]
    · intro k hk
      rw [gI_pI, if_neg (by omega), gI_pI]
      by_cases hkd : k = d
      · rw [if_pos ⟨rfl, by omega⟩, hkd]
      · rw [if_neg (by omega), h3 k (by omega)]
    · exact Fp_tr h4 (Fp_tr (Fp_p _ (Or.inr rfl)) (Fp_p _ (Or.inl ⟨rfl, rfl⟩)))
    · show tX9_add_3 _ _ _ _ = _ ∧ (_ → uX9_add_3 _ _ _ _)
      unfold tX9_add_3 uX9_add_3
      have e3 : gI (pI t 4 (n + d) ((a >>> (zI (24 - 8 * (d : Int)) &&& 31)) &&& 255)) 3 1 + 1 = zI ((n + (d + 1) : Nat) : Int) := by
        rw [gI_pI, if_neg (by omega), h1, zl1, z_add]; congr 1
      rw [if_neg n1, h1, if_neg n2, cj, e3, e8]
      exact ⟨rfl, fun hh _ => ⟨fun hc => absurd hc n2, fun _ => ⟨by rw [z_in (by omega)]; omega, fun s2 hs => by rw [hs]; exact hh⟩⟩⟩) 4 0 s (by omega) ⟨h.1, fun _ _ => rfl, fun k hk => absurd hk (by omega), Fp_rf _ _⟩
  obtain ⟨E, R⟩ := ST_fu (ST_trans st (ST_1 (F' := fun _ => t) (C' := fun _ => True) (fun m => by
    show tX9_add_3 _ _ _ _ = _ ∧ (_ → uX9_add_3 _ _ _ _)
    unfold tX9_add_3 uX9_add_3
    have n1 : zI (24 - 8 * ((4 : Nat) : Int)) < 0 := by rw [zl0, z_lt (by omega) (by omega)]; omega
    rw [if_pos n1]
    exact ⟨rfl, fun _ hc => absurd n1 hc⟩))) (by omega)
  refine ⟨t, E, R, ⟨i1, fun i hi => ?_⟩, i4⟩
  unfold btA
  by_cases hin : i < n
  · rw [if_pos hin, i2 i hin]; exact h.2 i hin
  · rw [if_neg hin]
    have := i3 (i - n) (by omega)
    rw [show n + (i - n) = i by omega] at this
    exact ⟨a255 _, by rw [this, zI_tI]⟩
theorem x_four {s : SM} {n : Nat} {bt : Nat → Int} (h : TpX s n bt) (hn : n + 4 ≤ 640) (a : Int32) : ∃ t, mX12_four s a = t ∧ rX12_four s a ∧ TpX t (n + 4) (btA bt n a) ∧ Fp (fun c i => (c = 248 ∧ i = 2) ∨ c = 249) s t := by
  obtain ⟨t, ⟨i1, i2, i3, i4⟩, st⟩ := ST_up (B := 1) 4 (fun (d : Nat) (t : SM) => gI t 248 2 = zI ((n + d : Nat) : Int) ∧ (∀ i, i < n → gI t 249 i = gI s 249 i) ∧ (∀ k, k < d → gI t 249 (n + k) &&& 255 = oct a k) ∧ Fp (fun c i => (c = 248 ∧ i = 2) ∨ c = 249) s t) (fun d t m => lX12_four m t a (zI (24 - 8 * (d : Int)))) (fun d t m => qX12_four m t a (zI (24 - 8 * (d : Int)))) (fun d t hd ⟨h1, h2, h3, h4⟩ => by
    have n1 : ¬ zI (24 - 8 * (d : Int)) < 0 := by rw [zl0, z_lt (by omega) (by omega)]; omega
    have cj : (zI ((n + d : Nat) : Int)).toNatClampNeg = n + d := by rw [z_cl (by omega)]; exact Int.toNat_natCast _
    have e8 : zI (24 - 8 * (d : Int)) + (-8) = zI (24 - 8 * ((d + 1 : Nat) : Int)) := by rw [show (-8 : Int32) = zI (-8) from rfl, z_add]; congr 1; omega
    refine ⟨pI (pI t 249 (n + d) (vp_nar .byte (a >>> (zI (24 - 8 * (d : Int)) &&& 31)).toInt8.toInt32)) 248 2 (zI ((n + (d + 1) : Nat) : Int)), ⟨?_, ?_, ?_, ?_⟩, ST_1 fun m => ?_⟩
    · rw [gI_pI, if_pos ⟨rfl, rfl⟩]
    · intro i hi
      rw [gI_pI, if_neg (by omega), gI_pI, if_neg (by omega), h2 i hi]
    · intro k hk
      rw [gI_pI, if_neg (by omega), gI_pI]
      by_cases hkd : k = d
      · rw [if_pos ⟨rfl, by omega⟩, hkd, nar255]; rfl
      · rw [if_neg (by omega), h3 k (by omega)]
    · exact Fp_tr h4 (Fp_tr (Fp_p _ (Or.inr rfl)) (Fp_p _ (Or.inl ⟨rfl, rfl⟩)))
    · show tX12_four_3 _ _ _ _ = _ ∧ (_ → uX12_four_3 _ _ _ _)
      unfold tX12_four_3 uX12_four_3
      have e3 : gI (pI t 249 (n + d) (vp_nar .byte (a >>> (zI (24 - 8 * (d : Int)) &&& 31)).toInt8.toInt32)) 248 2 + 1 = zI ((n + (d + 1) : Nat) : Int) := by
        rw [gI_pI, if_neg (by omega), h1, zl1, z_add]; congr 1
      rw [if_neg n1, h1, cj, e3, e8]
      exact ⟨rfl, fun hh _ => ⟨by rw [z_in (by omega)]; omega, fun s2 hs => by rw [hs]; exact hh⟩⟩) 4 0 s (by omega) ⟨h.1, fun _ _ => rfl, fun k hk => absurd hk (by omega), Fp_rf _ _⟩
  obtain ⟨E, R⟩ := ST_fu (ST_trans st (ST_1 (F' := fun _ => t) (C' := fun _ => True) (fun m => by
    show tX12_four_3 _ _ _ _ = _ ∧ (_ → uX12_four_3 _ _ _ _)
    unfold tX12_four_3 uX12_four_3
    have n1 : zI (24 - 8 * ((4 : Nat) : Int)) < 0 := by rw [zl0, z_lt (by omega) (by omega)]; omega
    rw [if_pos n1]
    exact ⟨rfl, fun _ hc => absurd n1 hc⟩))) (by omega)
  refine ⟨t, E, R, ⟨i1, fun i hi => ?_⟩, i4⟩
  unfold btA
  by_cases hin : i < n
  · rw [if_pos hin, i2 i hin]; exact h.2 i hin
  · rw [if_neg hin]
    have := i3 (i - n) (by omega)
    rw [show n + (i - n) = i by omega] at this
    exact ⟨a255 _, by rw [this, zI_tI]⟩
abbrev FeeC (c i : Nat) : Prop := (c = 3 ∧ i = 1) ∨ c = 4 ∨ c = 249 ∨ (c = 248 ∧ (i = 0 ∨ i = 2))
theorem TpX_fp {s t : SM} {n : Nat} {bt : Nat → Int} {A : Nat → Nat → Prop} (h : TpX s n bt) (hf : Fp A s t) (hA : ∀ c i, (c = 248 ∧ i = 2) ∨ c = 249 → ¬ A c i) : TpX t n bt := ⟨by rw [hf.1 248 2 (hA _ _ (by omega))]; exact h.1, fun i hi => by rw [hf.1 249 i (hA _ _ (by omega))]; exact h.2 i hi⟩
theorem TpY_fp {s t : SM} {n : Nat} {bt : Nat → Int} {A : Nat → Nat → Prop} (h : TpY s n bt) (hf : Fp A s t) (hA : ∀ c i, (c = 3 ∧ i = 1) ∨ c = 4 → ¬ A c i) : TpY t n bt := ⟨by rw [hf.1 3 1 (hA _ _ (by omega))]; exact h.1, fun i hi => by rw [hf.1 4 i (hA _ _ (by omega))]; exact h.2 i hi⟩
theorem TpB_fp {s t : SM} {n : Nat} {bt : Nat → Int} {A : Nat → Nat → Prop} (h : TpB s n bt) (hf : Fp A s t) (hA : ∀ c i, (c = 3 ∧ i = 1) ∨ c = 4 ∨ (c = 248 ∧ i = 2) ∨ c = 249 → ¬ A c i) : TpB t n bt := by
  obtain ⟨h1, h2, h3⟩ := TpB_i.mp h
  exact TpB_i.mpr ⟨h1, TpY_fp h2 hf (fun c i hc => hA c i (by omega)), TpX_fp h3 hf (fun c i hc => hA c i (by omega))⟩
theorem q_feed {s : SM} {n : Nat} {bt : Nat → Int} (h : TpB s n bt) (a1 a2 a3 a4 a5 : Int32) : rX11_feed s a1 a2 a3 a4 a5 ∧ rX12_feed (mX11_feed s a1 a2 a3 a4 a5) a1 a2 a3 a4 a5 ∧ vX11_feed s a1 a2 a3 a4 a5 = vX12_feed (mX11_feed s a1 a2 a3 a4 a5) a1 a2 a3 a4 a5 ∧ (∃ n' bt', TpB (mX12_feed (mX11_feed s a1 a2 a3 a4 a5) a1 a2 a3 a4 a5) n' bt') ∧ Fp FeeC s (mX12_feed (mX11_feed s a1 a2 a3 a4 a5) a1 a2 a3 a4 a5) := by
  obtain ⟨hn, hy, hx⟩ := TpB_i.mp h
  have e1 : zI (n : Int) + 20 = zI ((n + 20 : Nat) : Int) := by rw [show (20 : Int32) = zI 20 from rfl, z_add]; congr 1
  by_cases hq : n + 20 ≤ 640
  · have l1 : zI ((n + 20 : Nat) : Int) ≤ 640 := by rw [show (640 : Int32) = zI 640 from rfl, z_le (by omega) (by omega)]; omega
    obtain ⟨t1, b1, c1, d1, f1⟩ := y_add hy (by omega) a1
    obtain ⟨t2, b2, c2, d2, f2⟩ := y_add d1 (by omega) a2
    obtain ⟨t3, b3, c3, d3, f3⟩ := y_add d2 (by omega) a3
    obtain ⟨t4, b4, c4, d4, f4⟩ := y_add d3 (by omega) a4
    obtain ⟨t5, b5, c5, d5, f5⟩ := y_add d4 (by omega) a5
    have g5 := Fp_tr f1 (Fp_tr f2 (Fp_tr f3 (Fp_tr f4 f5)))
    have em : mX11_feed s a1 a2 a3 a4 a5 = t5 := by unfold mX11_feed; rw [hy.1, e1, if_pos l1, b1, b2, b3, b4, b5]
    have ev : vX11_feed s a1 a2 a3 a4 a5 = zI ((n + 20 : Nat) : Int) := by unfold vX11_feed; rw [hy.1, e1, if_pos l1, b1, b2, b3, b4, b5, d5.1]
    have er : rX11_feed s a1 a2 a3 a4 a5 := by unfold rX11_feed; rw [b1, b2, b3, b4]; exact fun _ => ⟨c1, c2, c3, c4, c5⟩
    have f0 : Fp (fun c i => c = 248 ∧ i = 0) t5 (pI t5 248 0 0) := Fp_p _ ⟨rfl, rfl⟩
    have hx0 : TpX (pI t5 248 0 0) n bt := TpX_fp (TpX_fp hx g5 (fun c i hc => by omega)) f0 (fun c i hc => by omega)
    obtain ⟨u1, i1, j1, k1, l1'⟩ := x_four hx0 (by omega) a1
    obtain ⟨u2, i2, j2, k2, l2⟩ := x_four k1 (by omega) a2
    obtain ⟨u3, i3, j3, k3, l3⟩ := x_four k2 (by omega) a3
    obtain ⟨u4, i4, j4, k4, l4⟩ := x_four k3 (by omega) a4
    obtain ⟨u5, i5, j5, k5, l5⟩ := x_four k4 (by omega) a5
    have g6 := Fp_tr l1' (Fp_tr l2 (Fp_tr l3 (Fp_tr l4 l5)))
    have em2 : mX12_feed t5 a1 a2 a3 a4 a5 = u5 := by unfold mX12_feed; rw [hx0.1, e1, if_pos l1, i1, i2, i3, i4, i5]
    have ev2 : vX12_feed t5 a1 a2 a3 a4 a5 = zI ((n + 20 : Nat) : Int) := by unfold vX12_feed; rw [hx0.1, e1, if_pos l1, i1, i2, i3, i4, i5, k5.1]
    have er2 : rX12_feed t5 a1 a2 a3 a4 a5 := by unfold rX12_feed; rw [i1, i2, i3, i4]; exact fun _ => ⟨j1, j2, j3, j4, j5⟩
    rw [em, ev, em2, ev2]
    refine ⟨er, er2, rfl, ⟨_, _, TpB_i.mpr ⟨hq, TpY_fp (TpY_fp d5 f0 (fun c i hc => by omega)) g6 (fun c i hc => by omega), k5⟩⟩, Fp_tr (Fp_mo g5 (fun c i hc => by omega)) (Fp_tr (Fp_mo f0 (fun c i hc => by omega)) (Fp_mo g6 (fun c i hc => by omega)))⟩
  · have l1 : ¬ zI ((n + 20 : Nat) : Int) ≤ 640 := by rw [show (640 : Int32) = zI 640 from rfl, z_le (by omega) (by omega)]; omega
    have em : mX11_feed s a1 a2 a3 a4 a5 = s := by unfold mX11_feed; rw [hy.1, e1, if_neg l1]
    have ev : vX11_feed s a1 a2 a3 a4 a5 = -1 := by unfold vX11_feed; rw [hy.1, e1, if_neg l1]
    have er : rX11_feed s a1 a2 a3 a4 a5 := by unfold rX11_feed; rw [hy.1, e1]; exact fun hc => absurd hc l1
    have f0 : Fp (fun c i => c = 248 ∧ i = 0) s (pI s 248 0 0) := Fp_p _ ⟨rfl, rfl⟩
    have hx0 : TpX (pI s 248 0 0) n bt := TpX_fp hx f0 (fun c i hc => by omega)
    have em2 : mX12_feed s a1 a2 a3 a4 a5 = pI s 248 0 0 := by unfold mX12_feed; rw [hx0.1, e1, if_neg l1]
    have ev2 : vX12_feed s a1 a2 a3 a4 a5 = -1 := by unfold vX12_feed; rw [hx0.1, e1, if_neg l1]
    have er2 : rX12_feed s a1 a2 a3 a4 a5 := by unfold rX12_feed; rw [hx0.1, e1]; exact fun hc => absurd hc l1
    rw [em, ev, em2, ev2]
    exact ⟨er, er2, rfl, ⟨n, bt, TpB_fp h f0 (fun c i hc => by omega)⟩, Fp_mo f0 (fun c i hc => by omega)⟩
theorem q_end {s : SM} {n : Nat} {bt : Nat → Int} (h : TpB s n bt) (a1 : Int32) : vX11_end s a1 = vX12_end (mX11_end s a1) a1 ∧ (∃ n' bt', TpB (mX12_end (mX11_end s a1) a1) n' bt') ∧ Fp FeeC s (mX12_end (mX11_end s a1) a1) ∧ (mX11_end s a1).2.2.2 = s.2.2.2 := by
  obtain ⟨hn, hy, hx⟩ := TpB_i.mp h
  obtain ⟨a, ha, rfl⟩ := z_ex a1
  have f0 : ∀ s, Fp (fun c i => c = 248 ∧ i = 0) s (pI s 248 0 0) := fun s => Fp_p _ ⟨rfl, rfl⟩
  have no : (mX11_end s (zI a) = s ∧ vX11_end s (zI a) = 0) → (mX12_end s (zI a) = pI s 248 0 0 ∧ vX12_end s (zI a) = 0) → vX11_end s (zI a) = vX12_end (mX11_end s (zI a)) (zI a) ∧ (∃ n' bt', TpB (mX12_end (mX11_end s (zI a)) (zI a)) n' bt') ∧ Fp FeeC s (mX12_end (mX11_end s (zI a)) (zI a)) ∧ (mX11_end s (zI a)).2.2.2 = s.2.2.2 := by
    rintro ⟨e1, e2⟩ ⟨e3, e4⟩
    rw [e1, e2, e3, e4]
    exact ⟨rfl, ⟨n, bt, TpB_fp h (f0 s) (fun c i hc => by omega)⟩, Fp_mo (f0 s) (fun c i hc => by omega), rfl⟩
  have x1 : ∀ s, gI (pI s 248 0 0) 248 2 = gI s 248 2 := fun s => by rw [gI_pI, if_neg (by omega)]
  unfold mX11_end vX11_end mX12_end vX12_end at no ⊢
  by_cases n1 : a < 0
  · have l1 : zI a < 0 := by rw [zl0, z_lt ha (by omega)]; exact n1
    exact no ⟨if_pos l1, if_pos l1⟩ ⟨if_pos l1, if_pos l1⟩
  · have l1 : ¬ zI a < 0 := by rw [zl0, z_lt ha (by omega)]; exact n1
    by_cases n2 : a ≤ n
    · have l2 : zI a ≤ zI (n : Int) := by rw [z_le ha (by omega)]; exact n2
      have lx : zI a ≤ gI (pI (pI s 3 1 (zI a)) 248 0 0) 248 2 := by rw [x1, gI_pI, if_neg (by omega), hx.1]; exact l2
      rw [if_neg l1, if_neg l1, if_neg l1, if_neg l1, hy.1, if_pos l2, if_pos l2, if_pos lx, if_pos lx]
      refine ⟨rfl, ⟨a.toNat, bt, TpB_i.mpr ⟨by omega, ⟨?_, fun i hi => ?_⟩, ⟨?_, fun i hi => ?_⟩⟩⟩, ?_, rfl⟩
      · rw [gI_pI, if_neg (by omega), gI_pI, if_neg (by omega), gI_pI, if_pos ⟨rfl, rfl⟩]; congr 1; omega
      · rw [gI_pI, if_neg (by omega), gI_pI, if_neg (by omega), gI_pI, if_neg (by omega)]; exact hy.2 i (by omega)
      · rw [gI_pI, if_pos ⟨rfl, rfl⟩]; congr 1; omega
      · rw [gI_pI, if_neg (by omega), gI_pI, if_neg (by omega), gI_pI, if_neg (by omega)]; exact hx.2 i (by omega)
      · exact Fp_tr (Fp_p _ (by omega)) (Fp_tr (Fp_p _ (by omega)) (Fp_p _ (by omega)))
    · have l2 : ¬ zI a ≤ zI (n : Int) := by rw [z_le ha (by omega)]; exact n2
      have lx : ¬ zI a ≤ gI (pI s 248 0 0) 248 2 := by rw [x1, hx.1]; exact l2
      exact no ⟨by rw [if_neg l1, hy.1, if_neg l2], by rw [if_neg l1, hy.1, if_neg l2]⟩ ⟨by rw [if_neg l1, if_neg lx], by rw [if_neg l1, if_neg lx]⟩
