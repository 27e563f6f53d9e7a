-- needs: 69x.pack
/-- serials: G s is the port of serial s; r ports were read -/
def SvT (s : SM) (g : Nat → Int) (G : Nat → Nat → Int) (r : Nat) : Prop := r ≤ 100000 ∧ gI s 2 19 = zI (r : Int) ∧ gI s 248 23 = zI (r : Int) ∧ ∃ v, v ≤ r ∧ gI s 5 11 = zI (v : Int) ∧ gI s 248 22 = zI (v : Int) ∧ SP (G v) g
/-- the deals packed latest -/
def PkT (s : SM) (G : Nat → Nat → Int) (r : Nat) : Prop := (gI s 225 0 = zI 0 ∧ gI s 248 46 = zI (-1)) ∨ ∃ (n : Nat) (ld db kd : Nat → Int) (v : Nat) (c : List Nat), (1 ≤ n ∧ n ≤ 6) ∧ PkD (G v) ld db kd n ∧ (∀ i, 0 ≤ kd i ∧ kd i < 6) ∧ v ≤ r ∧ gI s 225 0 = zI (n : Int) ∧ gI s 248 46 = zI (n : Int) ∧ gI s 225 1 = zI (v : Int) ∧ gI s 248 47 = zI (v : Int) ∧ (∀ i, i < n → (gI s 226 i = zI (ld i) ∧ gI s 227 i = zI (db i) ∧ gI s 228 i = zI (kd i)) ∧ gI s 265 (3 * i) = zI (ld i) ∧ gI s 265 (3 * i + 1) = zI (db i) ∧ gI s 265 (3 * i + 2) = zI (kd i)) ∧ c.length = n ∧ (∀ w ∈ c, w ≤ 4) ∧ MPx 231 s c ∧ MPx 268 s c
abbrev PakC (c i : Nat) : Prop := (c = 3 ∧ i = 1) ∨ (225 ≤ c ∧ c ≤ 232) ∨ (264 ≤ c ∧ c ≤ 269) ∨ (c = 248 ∧ (i = 0 ∨ i = 2 ∨ i = 3 ∨ i = 4 ∨ i = 5 ∨ i = 45 ∨ i = 46 ∨ i = 47))
theorem PkT_fp {s t : SM} {G G' : Nat → Nat → Int} {r r' : Nat} {A : Nat → Nat → Prop} (h : PkT s G r) (hf : Fp A s t) (hA : ∀ c i, (c = 225 ∧ (i = 0 ∨ i = 1)) ∨ (226 ≤ c ∧ c ≤ 228) ∨ c = 231 ∨ c = 265 ∨ c = 268 ∨ (c = 248 ∧ (i = 46 ∨ i = 47)) → ¬ A c i) (hr : r ≤ r') (hG : ∀ v, v ≤ r → G' v = G v) : PkT t G' r' := by
  rcases h with ⟨h1, h2⟩ | ⟨n, ld, db, kd, v, c, h1, h2, h3, h4, h5, h6, h7, h8, h9, h10, h11, h12, h13⟩
  · exact Or.inl ⟨by rw [hf.1 225 0 (hA _ _ (by omega))]; exact h1, by rw [hf.1 248 46 (hA _ _ (by omega))]; exact h2⟩
  · refine Or.inr ⟨n, ld, db, kd, v, c, h1, by rw [hG v h4]; exact h2, h3, by omega, by rw [hf.1 225 0 (hA _ _ (by omega))]; exact h5, by rw [hf.1 248 46 (hA _ _ (by omega))]; exact h6, by rw [hf.1 225 1 (hA _ _ (by omega))]; exact h7, by rw [hf.1 248 47 (hA _ _ (by omega))]; exact h8, fun i hi => ?_, h10, h11, MPx_c h12 (fun k _ => hf.1 231 k (hA _ _ (by omega))), MPx_c h13 (fun k _ => hf.1 268 k (hA _ _ (by omega)))⟩
    rw [hf.1 226 i (hA _ _ (by omega)), hf.1 227 i (hA _ _ (by omega)), hf.1 228 i (hA _ _ (by omega)), hf.1 265 _ (hA _ _ (by omega)), hf.1 265 _ (hA _ _ (by omega)), hf.1 265 _ (hA _ _ (by omega))]
    exact h9 i hi
section
variable {s : SM} {g : Nat → Int} {G : Nat → Nat → Int} {r : Nat}
theorem q_pack (h : LdR s 31 5 g) (h2 : RR s g) (hw : WF g) (hi : HI s g) {N : Nat} {bt : Nat → Int} (ht : TpB s N bt) (hv : SvT s g G r) (hp : PkT s G r) : rX11_pack s ∧ rX12_pack (mX11_pack s) ∧ vX11_pack s = vX12_pack (mX11_pack s) ∧ LdR (mX12_pack (mX11_pack s)) 31 5 g ∧ RR (mX12_pack (mX11_pack s)) g ∧ HI (mX12_pack (mX11_pack s)) g ∧ gI (mX12_pack (mX11_pack s)) 3 1 = zI 0 ∧ gI (mX12_pack (mX11_pack s)) 248 2 = zI 0 ∧ PkT (mX12_pack (mX11_pack s)) G r ∧ Fp PakC s (mX12_pack (mX11_pack s)) := by
  have h0 := hw.w0
  obtain ⟨hN, t1, t2, t3⟩ := ht
  have fin : ∀ t : SM, Fp PakC s t → LdR t 31 5 g ∧ RR t g ∧ HI t g := fun t hf => ⟨LdR_fp h hf (fun c i hc => by omega), RR_fp h2 hf (fun i => by omega), HI_fp hi (fun _ _ => rfl) hf (fun c i hc => by omega)⟩
  obtain ⟨pr, p1, p2⟩ := y_ptake h.1 hw hN t1 (fun i hi => ⟨(t3 i hi).1, (t3 i hi).2.1⟩)
  have e3 : zI (N : Int) / 3 = zI ((N / 3 : Nat) : Int) := by rw [show (3 : Int32) = zI 3 from rfl, z_div (by omega) (by omega) (by omega), Int.tdiv_eq_ediv_of_nonneg (by omega)]; rfl
  have em : zI (N : Int) - zI (N : Int) / 3 * 3 = zI ((N % 3 : Nat) : Int) := by rw [e3, show (3 : Int32) = zI 3 from rfl, z_mul, z_sub]; congr 1; omega
  -- the reference's beginning
  have beg : ∀ t : SM, gI t 248 2 = zI (N : Int) → ∃ t', mX12_taken (pI t 248 0 0) 640 = t' ∧ Fp (fun c i => c = 248 ∧ (i = 0 ∨ i = 2 ∨ i = 3 ∨ i = 4 ∨ i = 5)) t t' ∧ gI t' 248 3 = zI (N : Int) ∧ gI t' 248 2 = zI 0 := by
    intro t htn
    refine ⟨_, rfl, ?_, ?_, ?_⟩
    · unfold mX12_taken
      exact Fp_tr (Fp_p t (by omega)) (Fp_tr (Fp_p _ (by omega)) (Fp_tr (Fp_p _ (by omega)) (Fp_tr (Fp_p _ (by omega)) (Fp_p _ (by omega)))))
    · unfold mX12_taken
      rw [gI_s, if_neg (by decide), gI_s, if_neg (by decide), gI_s, if_neg (by decide), gI_s, if_pos rfl, gI_s, if_neg (by decide)]; exact htn
    · unfold mX12_taken
      rw [gI_s, if_neg (by decide), gI_s, if_neg (by decide), gI_s, if_pos rfl]; rfl
  have xi : ∀ t : SM, vX12_isIn t (zI ((N / 3 : Nat) : Int)) 1 6 = bI (1 ≤ ((N / 3 : Nat) : Int) ∧ ((N / 3 : Nat) : Int) ≤ 6) := fun t => x_isIn t (by omega) (b := 1) (c := 6) (by omega) (by omega)
  by_cases hT : N % 3 = 0 ∧ 1 ≤ N / 3 ∧ N / 3 ≤ 6 ∧ TD g bt (N / 3)
  · obtain ⟨s1, v1, e1, f1, g1, g2, g3⟩ := p2 hT
    obtain ⟨n, hn⟩ : ∃ n, n = N / 3 := ⟨_, rfl⟩
    have hD := TD_d hw (n := N / 3) (by omega) hT.2.2.2
    obtain ⟨s2, hs2⟩ : ∃ s2, s2 = pI s1 3 1 0 := ⟨_, rfl⟩
    have f2 : Fp PakC s s2 := Fp_tr (Fp_mo f1 (fun c i hc => by omega)) (by rw [hs2]; exact Fp_p s1 (by omega))
    have n2 : ∀ c i, ¬ (c = 3 ∧ i = 1) → gI s2 c i = gI s1 c i := fun c i hc => by rw [hs2, gI_pI, if_neg hc]
    have gT : ∀ i, i < N / 3 → gI s2 226 i = zI (ldB bt i) ∧ gI s2 227 i = zI (dbB bt i) ∧ gI s2 228 i = zI (kdB bt (N / 3) i) := fun i hi => by
      rw [n2 226 i (by omega), n2 227 i (by omega), n2 228 i (by omega)]
      unfold ldB dbB kdB
      rw [if_pos hi]
      exact g3 i hi
    obtain ⟨s3, q, a1, a2, a3, a4, a5, a6⟩ := y_psearch (fin s2 f2).1 hw hD (by rw [n2 225 0 (by omega)]; exact g1) gT (bb := -1) (m := 0) (Or.inl ⟨rfl, rfl⟩)
    have a1 : mX5_search s2 31 5 (-1) 0 = s3 := a1
    have a2 : vX5_search s2 31 5 (-1) 0 = zI (cnt q : Int) := a2
    have a3 : rX5_search s2 31 5 (-1) 0 := a3
    obtain ⟨s4, hs4⟩ : ∃ s4, s4 = cp 231 230 6 s3 := ⟨_, rfl⟩
    have n0 : ¬ vX5_take s 5 = 0 := by rw [v1]; decide
    have em1 : mX11_pack s = s4 := by
      unfold mX11_pack
      rw [if_neg n0, e1, ← hs2, a1, hs4]; rfl
    have ev1 : vX11_pack s = zI (cnt q : Int) := by unfold vX11_pack; rw [if_neg n0, e1, ← hs2, a2]
    have er1 : rX11_pack s := by unfold rX11_pack; rw [e1, ← hs2]; exact ⟨pr, fun _ => a3⟩
    have f34 : Fp (fun c _ => c = 231) s3 s4 := by rw [hs4]; exact Fp_fr (cp_f (A := fun c => c = 231) s3 (a := 231) (b := 230) (n := 6) rfl) (fun c hc i => hc)
    have f4 : Fp PakC s s4 := Fp_tr f2 (Fp_tr (Fp_mo a4 (fun c i hc => by omega)) (Fp_mo f34 (fun c i hc => by omega)))
    have g482 : gI s4 248 2 = zI (N : Int) := by rw [f34.1 248 2 (by omega), a4.1 248 2 (by omega), n2 248 2 (by omega), f1.1 248 2 (by omega)]; exact t2
    obtain ⟨t0, b1, b2, b3, b4⟩ := beg s4 g482
    have ft0 : Fp PakC s t0 := Fp_tr f4 (Fp_mo b2 (fun c i hc => by omega))
    have g249 : ∀ i, i < N → (0 ≤ bt i ∧ bt i < 256) ∧ (gI t0 249 i &&& 255) = zI (bt i) := fun i hi => ⟨(t3 i hi).1, by rw [ft0.1 249 i (by omega)]; exact (t3 i hi).2.2⟩
    obtain ⟨-, x2⟩ := x_pack (fin t0 ft0).2.1 hw hN b3 g249 ⟨hT.1, hT.2.1, hT.2.2.1⟩
    obtain ⟨t1', q', c1, c2, c3, c4, c5, c6, c7, c8⟩ := x2 hT.2.2.2
    have hqq := BestP_1 hT.2.2.1 a6 c4
    have hqq : q = q' := by cases hqq; rfl
    subst hqq
    have l0 : zI ((N % 3 : Nat) : Int) = 0 := by rw [hT.1]; rfl
    have xT : ¬ vX12_isIn t0 (zI ((N / 3 : Nat) : Int)) 1 6 = 0 := by rw [xi, bI_0]; omega
    have E : fX12_pack s4 = (zI (cnt q : Int), t1') := by unfold fX12_pack; rw [b1, b3, em, if_pos l0, e3, if_neg xT]; exact c1
    have em2 : mX12_pack s4 = t1' := by unfold mX12_pack; rw [E]
    have ft1 : Fp PakC s t1' := Fp_tr ft0 (Fp_mo c3 (fun c i hc => by omega))
    obtain ⟨y1, y2, y3⟩ := fin t1' ft1
    obtain ⟨hr, r1, r2, v, hvr, w1, w2, w3⟩ := hv
    rw [em1, ev1, em2]
    refine ⟨er1, ?_, by unfold vX12_pack; rw [E], y1, y2, y3, ?_, ?_, Or.inr ⟨N / 3, ldB bt, dbB bt, kdB bt (N / 3), v, q, ⟨hT.2.1, hT.2.2.1⟩, PkD_sp hD (fun k hk => (w3 k hk).symm) (fun i => ?_), fun i => ?_, hvr, ?_, c6, ?_, ?_, fun i hi => ⟨?_, ?_⟩, (a6.1 q rfl).2, okC_4 (a6.1 q rfl).1.1, ?_, c5⟩, ft1⟩
    · unfold rX12_pack; rw [b1, b3, em, e3]; exact fun _ _ => c2
    · rw [c3.1 3 1 (by omega), b2.1 3 1 (by omega), f34.1 3 1 (by omega), a4.1 3 1 (by omega), hs2, gI_s, if_pos rfl]; rfl
    · rw [c3.1 248 2 (by omega)]; exact b4
    · have hk := hT.2.2.2
      unfold kdB
      by_cases hi : i < N / 3
      · rw [if_pos hi]; have := (hk i hi).2.2; omega
      · rw [if_neg hi]; have := (hk 0 (by omega)).2.2; have e : bt (3 * 0 + 2) = bt 2 := rfl; rw [e] at this; omega
    · have hk := hT.2.2.2
      unfold kdB
      by_cases hi : i < N / 3
      · rw [if_pos hi]; have := (hk i hi).2.2; omega
      · rw [if_neg hi]; have := (hk 0 (by omega)).2.2; have e : bt (3 * 0 + 2) = bt 2 := rfl; rw [e] at this; omega
    · rw [c3.1 225 0 (by omega), b2.1 225 0 (by omega), f34.1 225 0 (by omega), a4.1 225 0 (by omega), n2 225 0 (by omega)]; exact g1
    · rw [c3.1 225 1 (by omega), b2.1 225 1 (by omega), f34.1 225 1 (by omega), a4.1 225 1 (by omega), n2 225 1 (by omega), g2]; exact w1
    · rw [c7, b2.1 248 22 (by omega), f4.1 248 22 (by omega)]; exact w2
    · rw [c3.1 226 i (by omega), b2.1 226 i (by omega), f34.1 226 i (by omega), a4.1 226 i (by omega), c3.1 227 i (by omega), b2.1 227 i (by omega), f34.1 227 i (by omega), a4.1 227 i (by omega), c3.1 228 i (by omega), b2.1 228 i (by omega), f34.1 228 i (by omega), a4.1 228 i (by omega)]
      exact gT i hi
    · unfold ldB dbB kdB
      rw [if_pos hi]
      exact ⟨c8 _ (by omega), c8 _ (by omega), c8 _ (by omega)⟩
    · refine MPx_c a5 (fun k hk => ?_)
      have hk6 : k < 6 := by have := (a6.1 q rfl).2; omega
      rw [c3.1 231 k (by omega), b2.1 231 k (by omega), hs4, cp_1 _ hk6]
  · obtain ⟨v0, e1⟩ := p1 hT
    obtain ⟨s2, hs2⟩ : ∃ s2, s2 = pI s 3 1 0 := ⟨_, rfl⟩
    have f2 : Fp PakC s s2 := by rw [hs2]; exact Fp_p s (by omega)
    have em1 : mX11_pack s = s2 := by unfold mX11_pack; rw [if_pos v0, e1, hs2]
    have ev1 : vX11_pack s = -1 := by unfold vX11_pack; rw [if_pos v0]
    have er1 : rX11_pack s := by unfold rX11_pack; exact ⟨pr, fun hc => absurd v0 hc⟩
    have g482 : gI s2 248 2 = zI (N : Int) := by rw [hs2, gI_n _ _ _ _ (by omega)]; exact t2
    obtain ⟨t0, b1, b2, b3, b4⟩ := beg s2 g482
    have f20 : Fp (fun c i => (c = 3 ∧ i = 1) ∨ (c = 248 ∧ (i = 0 ∨ i = 2 ∨ i = 3 ∨ i = 4 ∨ i = 5))) s t0 := Fp_tr (by rw [hs2]; exact Fp_p s (by omega)) (Fp_mo b2 (fun c i hc => by omega))
    have ft0 : Fp PakC s t0 := Fp_mo f20 (fun c i hc => by omega)
    obtain ⟨y1, y2, y3⟩ := fin t0 ft0
    have E : fX12_pack s2 = (-1, t0) ∧ rX12_pack s2 := by
      unfold fX12_pack rX12_pack
      rw [b1, b3, em, e3]
      by_cases q1 : N % 3 = 0
      · have l0 : zI ((N % 3 : Nat) : Int) = 0 := by rw [q1]; rfl
        rw [if_pos l0]
        by_cases q2 : 1 ≤ N / 3 ∧ N / 3 ≤ 6
        · have xT : ¬ vX12_isIn t0 (zI ((N / 3 : Nat) : Int)) 1 6 = 0 := by rw [xi, bI_0]; omega
          rw [if_neg xT]
          have g249 : ∀ i, i < N → (0 ≤ bt i ∧ bt i < 256) ∧ (gI t0 249 i &&& 255) = zI (bt i) := fun i hi => ⟨(t3 i hi).1, by rw [ft0.1 249 i (by omega)]; exact (t3 i hi).2.2⟩
          obtain ⟨x1, -⟩ := x_pack y2 hw hN b3 g249 ⟨q1, q2.1, q2.2⟩
          obtain ⟨c1, c2⟩ := x1 (fun hc => hT ⟨q1, q2.1, q2.2, hc⟩)
          exact ⟨c1, fun _ _ => c2⟩
        · have xT : vX12_isIn t0 (zI ((N / 3 : Nat) : Int)) 1 6 = 0 := by rw [xi, bI_0]; omega
          rw [if_pos xT]
          exact ⟨rfl, fun _ hc => absurd xT hc⟩
      · have l0 : ¬ zI ((N % 3 : Nat) : Int) = 0 := by rw [zl0, z_eq (by omega) (by omega)]; omega
        rw [if_neg l0]
        exact ⟨rfl, fun hc => absurd hc l0⟩
    have em2 : mX12_pack s2 = t0 := by unfold mX12_pack; rw [E.1]
    rw [em1, ev1, em2]
    refine ⟨er1, E.2, by unfold vX12_pack; rw [E.1], y1, y2, y3, ?_, b4, PkT_fp hp f20 (fun c i hc => by omega) (Nat.le_refl _) (fun _ _ => rfl), ft0⟩
    rw [b2.1 3 1 (by omega), hs2, gI_s, if_pos rfl]; rfl
theorem q_packed (hp : PkT s G r) (a1 : Int32) : rX11_packed s a1 ∧ rX12_packed s a1 ∧ vX11_packed s a1 = vX12_packed s a1 ∧ mX12_packed s a1 = Th s := by
  obtain ⟨i, hi, rfl⟩ := z_ex a1
  have e46 : gI (pI s 248 0 0) 248 46 = gI s 248 46 := by rw [gI_s, if_neg (by omega)]
  have e268 : ∀ j, gI (pI s 248 0 0) 268 j = gI s 268 j := fun j => gI_n _ _ _ _ (by omega)
  unfold rX11_packed rX12_packed vX11_packed vX12_packed mX12_packed vX5_told rX5_told
  rw [e46, e268]
  rcases hp with ⟨h1, h2⟩ | ⟨n, ld, db, kd, v, c, h1, h2, h3, h4, h5, h6, h7, h8, h9, h10, h11, h12, h13⟩
  · rw [h1, h2]
    have iF : vX12_isIn (pI s 248 0 0) (zI i) 0 (zI (-1) - 1) = 0 := by
      rw [zl0, zl1, z_sub, x_isIn _ hi (by omega) (by omega)]; exact bI_F' (by omega)
    rw [if_pos iF]
    by_cases c1 : zI i < 0
    · rw [if_pos c1]; exact ⟨fun hc => absurd c1 hc, fun hc => absurd iF hc, rfl, rfl⟩
    · have c2 : zI 0 ≤ zI i := by rw [zl0, z_lt hi (by omega)] at c1; rw [z_le (by omega) hi]; omega
      rw [if_neg c1, if_pos c2]
      exact ⟨fun _ hc => absurd c2 hc, fun hc => absurd iF hc, rfl, rfl⟩
  · rw [h5, h6]
    have iS : vX12_isIn (pI s 248 0 0) (zI i) 0 (zI (n : Int) - 1) = bI (0 ≤ i ∧ i ≤ (n : Int) - 1) := by
      rw [zl0, zl1, z_sub]; exact x_isIn _ hi (by omega) (by omega)
    rw [iS]
    by_cases c1 : i < 0
    · have l1 : zI i < 0 := by rw [zl0, z_lt hi (by omega)]; exact c1
      rw [bI_F' (show ¬ (0 ≤ i ∧ i ≤ (n : Int) - 1) by omega), if_pos l1, if_pos rfl]
      exact ⟨fun hc => absurd l1 hc, fun hc => absurd rfl hc, rfl, rfl⟩
    · have l1 : ¬ zI i < 0 := by rw [zl0, z_lt hi (by omega)]; exact c1
      by_cases c2 : (n : Int) ≤ i
      · have l2 : zI (n : Int) ≤ zI i := by rw [z_le (by omega) hi]; exact c2
        rw [bI_F' (show ¬ (0 ≤ i ∧ i ≤ (n : Int) - 1) by omega), if_neg l1, if_pos l2, if_pos rfl]
        exact ⟨fun _ hc => absurd l2 hc, fun hc => absurd rfl hc, rfl, rfl⟩
      · have l2 : ¬ zI (n : Int) ≤ zI i := by rw [z_le (by omega) hi]; exact c2
        have l3 : ¬ 6 ≤ zI i := by rw [show (6 : Int32) = zI 6 from rfl, z_le (by omega) hi]; omega
        have vi : vp_in (zI i) 6 := by rw [z_in hi]; omega
        obtain ⟨w, w1, w2, -, -⟩ := MPx_k h12 i.toNat (by omega)
        have w3 := YO_ix h12 h13 i.toNat (by omega)
        rw [w2] at w3
        have hw4 := h11 w w1
        rw [bI_T' (show 0 ≤ i ∧ i ≤ (n : Int) - 1 by omega), if_neg l1, if_neg l2, if_neg l3, if_neg (show ¬ (1 : Int32) = 0 by decide), z_cl hi, w2, ← w3]
        by_cases h44 : w = 4
        · subst h44
          rw [if_pos (show zI ((4 : Nat) : Int) = 4 from rfl), if_pos (show 4 ≤ zI ((4 : Nat) : Int) by decide)]
          exact ⟨fun _ _ _ => ⟨vi, fun _ => vi⟩, fun _ => ⟨vi, fun _ => vi⟩, rfl, rfl⟩
        · have m1 : ¬ zI (w : Int) = 4 := by rw [show (4 : Int32) = zI 4 from rfl, z_eq (by omega) (by omega)]; omega
          have m2 : ¬ 4 ≤ zI (w : Int) := by rw [show (4 : Int32) = zI 4 from rfl, z_le (by omega) (by omega)]; omega
          rw [if_neg m1, if_neg m2]
          exact ⟨fun _ _ _ => ⟨vi, fun _ => vi⟩, fun _ => ⟨vi, fun _ => vi⟩, rfl, rfl⟩
theorem q_price (h : LdR s 31 5 g) (h2 : RR s g) (hw : WF g) (hi : HI s g) (hv : SvT s g G r) (hp : PkT s G r) (a1 a2 : Int32) : rX11_price s a1 a2 ∧ rX12_price (mX11_price s a1 a2) a1 a2 ∧ vX11_price s a1 a2 = vX12_price (mX11_price s a1 a2) a1 a2 ∧ LdR (mX12_price (mX11_price s a1 a2) a1 a2) 31 5 g ∧ RR (mX12_price (mX11_price s a1 a2) a1 a2) g ∧ HI (mX12_price (mX11_price s a1 a2) a1 a2) g ∧ PkT (mX12_price (mX11_price s a1 a2) a1 a2) G r ∧ Fp (fun c i => PlA c i ∨ c = 264 ∨ c = 266 ∨ c = 267 ∨ c = 269 ∨ (c = 248 ∧ (i = 0 ∨ i = 45))) s (mX12_price (mX11_price s a1 a2) a1 a2) := by
  obtain ⟨b, hb, rfl⟩ := z_ex a1
  obtain ⟨m, hm, rfl⟩ := z_ex a2
  have h0 := hw.w0
  have fin : ∀ t : SM, Fp (fun c i => PlA c i ∨ c = 264 ∨ c = 266 ∨ c = 267 ∨ c = 269 ∨ (c = 248 ∧ (i = 0 ∨ i = 45))) s t → LdR t 31 5 g ∧ RR t g ∧ HI t g ∧ PkT t G r := fun t hf => ⟨LdR_fp h hf (fun c i hc => by omega), RR_fp h2 hf (fun i => by omega), HI_fp hi (fun _ _ => rfl) hf (fun c i hc => by omega), PkT_fp hp hf (fun c i hc => by omega) (Nat.le_refl _) (fun _ _ => rfl)⟩
  have yb := y_hasBody h.1 hw hb
  have xb : ∀ t, RR t g → vX12_isBody t (zI b) = bI (bdyZ g b) := fun t ht => x_isBody ht hw hb
  have iS : ∀ t, vX12_isIn t (zI m) 1 99 = bI (1 ≤ m ∧ m ≤ 99) := fun t => x_isIn t hm (b := 1) (c := 99) (by omega) (by omega)
  obtain ⟨hr, r1, r2, v0, hv0, w1, w2, w3⟩ := hv
  -- refused
  have no : (vX11_price s (zI b) (zI m) = -1 ∧ mX11_price s (zI b) (zI m) = s ∧ rX11_price s (zI b) (zI m)) → (fX12_price s (zI b) (zI m) = (-1, pI s 248 0 0) ∧ rX12_price s (zI b) (zI m)) → _ := fun ⟨p1, p2, p3⟩ ⟨p4, p5⟩ => by
    have em2 : mX12_price s (zI b) (zI m) = pI s 248 0 0 := by unfold mX12_price; rw [p4]
    have hf : Fp (fun c i => PlA c i ∨ c = 264 ∨ c = 266 ∨ c = 267 ∨ c = 269 ∨ (c = 248 ∧ (i = 0 ∨ i = 45))) s (pI s 248 0 0) := Fp_p s (by omega)
    obtain ⟨y1, y2, y3, y4⟩ := fin _ hf
    show rX11_price s (zI b) (zI m) ∧ rX12_price (mX11_price s (zI b) (zI m)) (zI b) (zI m) ∧ vX11_price s (zI b) (zI m) = vX12_price (mX11_price s (zI b) (zI m)) (zI b) (zI m) ∧ LdR (mX12_price (mX11_price s (zI b) (zI m)) (zI b) (zI m)) 31 5 g ∧ RR (mX12_price (mX11_price s (zI b) (zI m)) (zI b) (zI m)) g ∧ HI (mX12_price (mX11_price s (zI b) (zI m)) (zI b) (zI m)) g ∧ PkT (mX12_price (mX11_price s (zI b) (zI m)) (zI b) (zI m)) G r ∧ Fp (fun c i => PlA c i ∨ c = 264 ∨ c = 266 ∨ c = 267 ∨ c = 269 ∨ (c = 248 ∧ (i = 0 ∨ i = 45))) s (mX12_price (mX11_price s (zI b) (zI m)) (zI b) (zI m))
    rw [p1, p2, em2]
    exact ⟨p3, p5, by unfold vX12_price; rw [p4], y1, y2, y3, y4, hf⟩
  have T0 : RR (pI s 248 0 0) g := Th_R h2
  have e46 : ∀ t : SM, gI (pI t 248 0 0) 248 46 = gI t 248 46 := fun t => by rw [gI_s, if_neg (by omega)]
  have e47 : ∀ t : SM, gI (pI t 248 0 0) 248 47 = gI t 248 47 := fun t => by rw [gI_s, if_neg (by omega)]
  have e22 : ∀ t : SM, gI (pI t 248 0 0) 248 22 = gI t 248 22 := fun t => by rw [gI_s, if_neg (by omega)]
  by_cases c1 : bdyZ g b
  · have n1 : ¬ bI (bdyZ g b) = 0 := by rw [bI_0]; exact not_not_intro c1
    by_cases c2 : 1 ≤ m ∧ m ≤ 99
    · have l1 : ¬ zI m < 1 := by rw [zl1, z_lt hm (by omega)]; omega
      have l2 : ¬ 99 < zI m := by rw [zl99, z_lt (by omega) hm]; omega
      have iT : ∀ t, ¬ vX12_isIn t (zI m) 1 99 = 0 := fun t => by rw [iS, bI_0]; exact not_not_intro c2
      rcases hp with ⟨h1, h3⟩ | ⟨n, ld, db, kd, v, c, h1, h2', h3, h4, h5, h6, h7, h8, h9, h10, h11, h12, h13⟩
      · refine no ⟨?_, ?_, ?_⟩ ⟨?_, ?_⟩
        · unfold vX11_price vX5_isPackedIn; rw [yb, if_neg n1, if_neg l1, if_neg l2, h1, if_pos (show zI 0 ≤ 0 by decide), if_pos rfl]
        · unfold mX11_price vX5_isPackedIn; rw [yb, if_neg n1, if_neg l1, if_neg l2, h1, if_pos (show zI 0 ≤ 0 by decide), if_pos rfl]
        · unfold rX11_price vX5_isPackedIn; rw [h1, if_pos (show zI 0 ≤ 0 by decide)]; exact fun _ _ _ hc => absurd rfl hc
        · unfold fX12_price; rw [xb _ T0, if_neg n1, if_neg (iT _), e46, h3, if_pos (by decide)]
        · unfold rX12_price; rw [e46, h3]; exact fun _ _ hc => absurd (by decide) hc
      · by_cases hvv : v = v0
        · subst hvv
          have hD : PkD g ld db kd n := PkD_sp h2' w3 h3
          have pk : vX5_isPackedIn s 5 = 1 := by
            unfold vX5_isPackedIn
            rw [h5, if_neg (by rw [zl0, z_le (by omega) (by omega)]; omega), h7, w1, if_pos rfl]
          have n0 : ¬ vX5_isPackedIn s 5 = 0 := by rw [pk]; decide
          obtain ⟨s1, qa, a1, a2, a3, a4, a5, a6⟩ := y_psearch h hw hD h5 (fun i hi => (h9 i hi).1) (bb := b) (m := m) (Or.inr ⟨c1, by omega⟩)
          have f1 : Fp (fun c i => PlA c i ∨ c = 264 ∨ c = 266 ∨ c = 267 ∨ c = 269 ∨ (c = 248 ∧ (i = 0 ∨ i = 45))) s s1 := Fp_mo a4 (fun c i hc => Or.inl hc)
          obtain ⟨s2, qb, b1, b2, b3, b4, b5, b6⟩ := y_psearch (fin s1 f1).1 hw hD (by rw [a4.1 225 0 (by omega)]; exact h5) (fun i hi => by rw [a4.1 226 i (by omega), a4.1 227 i (by omega), a4.1 228 i (by omega)]; exact (h9 i hi).1) (bb := -1) (m := 0) (Or.inl ⟨rfl, rfl⟩)
          have b1 : mX5_search s1 31 5 (-1) 0 = s2 := b1
          have b2 : vX5_search s1 31 5 (-1) 0 = zI (cnt qb : Int) := b2
          have b3 : rX5_search s1 31 5 (-1) 0 := b3
          have f2 : Fp (fun c i => PlA c i ∨ c = 264 ∨ c = 266 ∨ c = 267 ∨ c = 269 ∨ (c = 248 ∧ (i = 0 ∨ i = 45))) s s2 := Fp_tr f1 (Fp_mo b4 (fun c i hc => Or.inl hc))
          have em1 : mX11_price s (zI b) (zI m) = s2 := by unfold mX11_price; rw [yb, if_neg n1, if_neg l1, if_neg l2, if_neg n0, a1, b1]
          have ev1 : vX11_price s (zI b) (zI m) = zI (cnt qa : Int) - zI (cnt qb : Int) := by unfold vX11_price; rw [yb, if_neg n1, if_neg l1, if_neg l2, if_neg n0, a1, a2, b2]
          have er1 : rX11_price s (zI b) (zI m) := by unfold rX11_price; rw [a1]; exact fun _ _ _ _ => ⟨a3, b3⟩
          have T2 : RR (pI s2 248 0 0) g := Th_R (fin s2 f2).2.1
          have g46 : gI s2 248 46 = zI (n : Int) := by rw [f2.1 248 46 (by omega)]; exact h6
          have g47 : gI s2 248 47 = gI s2 248 22 := by rw [f2.1 248 47 (by omega), f2.1 248 22 (by omega), h8, w2]
          obtain ⟨t0, ht0⟩ : ∃ t0, t0 = pI (pI s2 248 0 0) 248 45 (zI (n : Int)) := ⟨_, rfl⟩
          have ft0 : Fp (fun c i => PlA c i ∨ c = 264 ∨ c = 266 ∨ c = 267 ∨ c = 269 ∨ (c = 248 ∧ (i = 0 ∨ i = 45))) s t0 := Fp_tr f2 (by rw [ht0]; exact Fp_tr (Fp_p s2 (by omega)) (Fp_p _ (by omega)))
          have g45 : ∀ t : SM, Fp (fun c _ => c = 264) t0 t → gI t 248 45 = zI (n : Int) := fun t ft => by rw [ft.1 248 45 (by omega), ht0, gI_s, if_pos rfl]
          have up := ST_up (B := 1) (3 * n) (fun i (a : SM) => Fp (fun c _ => c = 264) t0 a ∧ ∀ j, j < i → gI a 264 j = gI s 265 j) (fun i a k => lX12_price k a (zI b) (zI m) (zI (i : Int))) (fun i a k => qX12_price k a (zI b) (zI m) (zI (i : Int))) (by
            rintro i a hi ⟨f3, z3⟩
            have nle : ¬ 3 * zI (n : Int) ≤ zI (i : Int) := by rw [show (3 : Int32) = zI 3 from rfl, z_mul, z_le (by omega) (by omega)]; omega
            have ci : (zI (i : Int)).toNatClampNeg = i := by rw [z_cl (by omega)]; exact Int.toNat_natCast _
            have vi : vp_in (zI (i : Int)) 18 := by rw [z_in (by omega)]; omega
            have ei : zI (i : Int) + 1 = zI ((i + 1 : Nat) : Int) := by rw [zl1, z_add]; rfl
            have g265 : gI a 265 i = gI s 265 i := by rw [f3.1 265 i (by omega), ft0.1 265 i (by omega)]
            refine ⟨pI a 264 i (gI s 265 i), ⟨Fp_tr f3 (Fp_p a rfl), fun j hj => ?_⟩, ST_1 fun k => ?_⟩
            · rw [gI_s]
              by_cases hq : j = i
              · rw [if_pos hq, hq]
              · rw [if_neg hq]; exact z3 j (by omega)
            · show tX12_price_53 _ _ _ _ _ = _ ∧ (_ → uX12_price_53 _ _ _ _ _)
              unfold tX12_price_53 uX12_price_53
              rw [g45 a f3, if_neg nle, ci, g265, ei]
              exact ⟨rfl, fun hh => ⟨fun hc => absurd hc nle, fun _ => ⟨vi, vi, hh⟩⟩⟩)
          obtain ⟨t1, ⟨f3, z3⟩, st⟩ := up (3 * n) 0 t0 (by omega) ⟨Fp_rf _ t0, fun j hj => by omega⟩
          have ft1 : Fp (fun c i => PlA c i ∨ c = 264 ∨ c = 266 ∨ c = 267 ∨ c = 269 ∨ (c = 248 ∧ (i = 0 ∨ i = 45))) s t1 := Fp_tr ft0 (Fp_mo f3 (fun c i hc => by omega))
          have hx1 : PxC g ld db kd n t1 := ⟨(fin t1 ft1).2.1, g45 t1 f3, fun i hi => by rw [z3 _ (by omega), z3 _ (by omega), z3 _ (by omega)]; exact (h9 i hi).2⟩
          obtain ⟨t2, qc, d1, d2, d3, d4, d5, d6⟩ := x_bestPack hx1 hw hD (bb := -1) (m := 0) (Or.inl ⟨rfl, rfl⟩)
          have d1 : mX12_bestPack t1 (-1) 0 = t2 := d1
          have d2 : vX12_bestPack t1 (-1) 0 = zI (cnt qc : Int) := d2
          have d3 : rX12_bestPack t1 (-1) 0 := d3
          obtain ⟨t3, qd, i1, i2, i3, i4, i5, i6⟩ := x_bestPack (PxC_c hx1 d4 (fun c i hc => by omega)) hw hD (bb := b) (m := m) (Or.inr ⟨c1, by omega⟩)
          have q1 : qa = qd := by have := BestP_1 h1.2 a6 i6; cases this; rfl
          have q2 : qb = qc := by have := BestP_1 h1.2 b6 d6; cases this; rfl
          subst q1 q2
          have ft3 : Fp (fun c i => PlA c i ∨ c = 264 ∨ c = 266 ∨ c = 267 ∨ c = 269 ∨ (c = 248 ∧ (i = 0 ∨ i = 45))) s t3 := Fp_tr ft1 (Fp_tr (Fp_mo d4 (fun c i hc => by omega)) (Fp_mo i4 (fun c i hc => by omega)))
          have le : 3 * zI (n : Int) ≤ zI ((3 * n : Nat) : Int) := by rw [show (3 : Int32) = zI 3 from rfl, z_mul, z_le (by omega) (by omega)]; omega
          obtain ⟨E, R⟩ := ST_fu (ST_trans st (ST_1 (F' := fun _ => (zI (cnt qa : Int) - zI (cnt qb : Int), t3)) (C' := fun _ => True) (fun k => by
            show tX12_price_53 _ _ _ _ _ = _ ∧ (_ → uX12_price_53 _ _ _ _ _)
            unfold tX12_price_53 uX12_price_53
            rw [g45 t1 f3, if_pos le, d1, d2, i1, i2]
            exact ⟨rfl, fun _ => ⟨fun _ => ⟨d3, i3⟩, fun hc => absurd le hc⟩⟩))) (by omega)
          have n46 : ¬ zI (n : Int) < 0 := by rw [zl0, z_lt (by omega) (by omega)]; omega
          have E' : fX12_price s2 (zI b) (zI m) = (zI (cnt qa : Int) - zI (cnt qb : Int), t3) := by
            unfold fX12_price
            rw [xb _ T2, if_neg n1, if_neg (iT _), e46, g46, if_neg n46, e47, e22, if_pos g47, ← ht0]
            exact E
          have em2 : mX12_price s2 (zI b) (zI m) = t3 := by unfold mX12_price; rw [E']
          obtain ⟨y1, y2, y3, y4⟩ := fin t3 ft3
          rw [em1, ev1, em2]
          refine ⟨er1, ?_, by unfold vX12_price; rw [E'], y1, y2, y3, y4, ft3⟩
          unfold rX12_price
          rw [e46, g46, ← ht0]
          exact fun _ _ _ _ => R
        · have pk : vX5_isPackedIn s 5 = 0 := by
            unfold vX5_isPackedIn
            rw [h5, if_neg (by rw [zl0, z_le (by omega) (by omega)]; omega), h7, w1, if_neg (by rw [z_eq (by omega) (by omega)]; omega)]
          have ne : ¬ zI (v : Int) = zI (v0 : Int) := by rw [z_eq (by omega) (by omega)]; omega
          have n46 : ¬ zI (n : Int) < 0 := by rw [zl0, z_lt (by omega) (by omega)]; omega
          refine no ⟨?_, ?_, ?_⟩ ⟨?_, ?_⟩
          · unfold vX11_price; rw [yb, if_neg n1, if_neg l1, if_neg l2, pk, if_pos rfl]
          · unfold mX11_price; rw [yb, if_neg n1, if_neg l1, if_neg l2, pk, if_pos rfl]
          · unfold rX11_price; rw [pk]; exact fun _ _ _ hc => absurd rfl hc
          · unfold fX12_price; rw [xb _ T0, if_neg n1, if_neg (iT _), e46, h6, if_neg n46, e47, e22, h8, w2, if_neg ne]
          · unfold rX12_price; rw [e46, e47, e22, h8, w2]; exact fun _ _ _ hc => absurd hc ne
    · have iF : ∀ t, vX12_isIn t (zI m) 1 99 = 0 := fun t => by rw [iS, bI_0]; exact c2
      by_cases l1 : zI m < 1
      · refine no ⟨?_, ?_, ?_⟩ ⟨?_, ?_⟩
        · unfold vX11_price; rw [yb, if_neg n1, if_pos l1]
        · unfold mX11_price; rw [yb, if_neg n1, if_pos l1]
        · unfold rX11_price; exact fun _ hc => absurd l1 hc
        · unfold fX12_price; rw [xb _ T0, if_neg n1, if_pos (iF _)]
        · unfold rX12_price; exact fun _ hc => absurd (iF _) hc
      · have l2 : 99 < zI m := by rw [zl1, z_lt hm (by omega)] at l1; rw [zl99, z_lt (by omega) hm]; omega
        refine no ⟨?_, ?_, ?_⟩ ⟨?_, ?_⟩
        · unfold vX11_price; rw [yb, if_neg n1, if_neg l1, if_pos l2]
        · unfold mX11_price; rw [yb, if_neg n1, if_neg l1, if_pos l2]
        · unfold rX11_price; exact fun _ _ hc => absurd l2 hc
        · unfold fX12_price; rw [xb _ T0, if_neg n1, if_pos (iF _)]
        · unfold rX12_price; exact fun _ hc => absurd (iF _) hc
  · have n1 : bI (bdyZ g b) = 0 := by rw [bI_0]; exact c1
    refine no ⟨?_, ?_, ?_⟩ ⟨?_, ?_⟩
    · unfold vX11_price; rw [yb, if_pos n1]
    · unfold mX11_price; rw [yb, if_pos n1]
    · unfold rX11_price; rw [yb]; exact fun hc => absurd n1 hc
    · unfold fX12_price; rw [xb _ T0, if_pos n1]
    · unfold rX12_price; rw [xb _ T0]; exact fun hc => absurd n1 hc
end
