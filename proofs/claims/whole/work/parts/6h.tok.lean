-- needs: 6g.tok
section
variable {s : SM} {N : Nat} {bt : Nat → Int}
theorem x_next (h : TkS s N bt) (hN : N ≤ 640) {p : Nat} (hp : p ≤ N) (h4 : gI s 248 4 = zI (p : Int)) : ∃ t, mX12_next s = t ∧ rX12_next s ∧ Fq TxI TxL s t ∧ TkX t N (tokF N bt p) := by
  obtain ⟨e1, e2, e3, e4⟩ := skp_a N bt N p
  have e4 := e4 (by omega)
  obtain ⟨q, hq⟩ : ∃ q, q = skp N bt N p := ⟨_, rfl⟩
  unfold tokF
  rw [← hq] at e1 e2 e3 e4 ⊢
  obtain ⟨t0, ⟨i1, i2⟩, st⟩ := ST_up (B := 1) (q - p) (fun (k : Nat) (t : SM) => gI t 248 4 = zI ((p + k : Nat) : Int) ∧ Fq (fun c i => c = 248 ∧ i = 4) (fun _ _ => False) s t) (fun k t n => (lX12_next n).1 t) (fun k t n => (qX12_next n).1 t) (fun k t hk ⟨a1, a2⟩ => by
    have hy := TkS_fq h a2 (fun c i hc => by omega)
    have hlt : p + k < N := by omega
    have hb := (h.2.2 (p + k) hlt).1
    obtain ⟨b1, b2⟩ := x_pk hy hN (by omega) a1
    rw [if_pos hlt] at b1
    have hr := e3 (p + k) (by omega) (by omega)
    have e7 : zI ((p + k : Nat) : Int) + 1 = zI ((p + (k + 1) : Nat) : Int) := by rw [zl1, z_add]; congr 1
    refine ⟨pI t 248 4 (zI ((p + (k + 1) : Nat) : Int)), ⟨by rw [gI_pI, if_pos ⟨rfl, rfl⟩], Fq_tr a2 (Fq_p _ ⟨rfl, rfl⟩)⟩, ST_1 fun n => ?_⟩
    show tX12_next_0 (lX12_next n) t = _ ∧ (_ → uX12_next_0 (qX12_next n) t)
    unfold tX12_next_0 uX12_next_0
    rw [b1, a1, e7]
    by_cases c : bt (p + k) = 32
    · have k1 : zI (bt (p + k)) = 32 := by rw [c]; rfl
      rw [if_pos k1]
      exact ⟨rfl, fun hh => ⟨b2, fun _ => hh, fun hc => absurd k1 hc⟩⟩
    · have k1 : ¬ zI (bt (p + k)) = 32 := by rw [show (32 : Int32) = zI 32 from rfl, z_eq (by omega) (by omega)]; exact c
      have k2 : zI (bt (p + k)) = 10 := by rw [hr.resolve_left c]; rfl
      rw [if_neg k1, if_pos k2]
      exact ⟨rfl, fun hh => ⟨b2, fun hc => absurd hc k1, fun _ => ⟨b2, fun hc => absurd k2 hc, fun _ => hh⟩⟩⟩) (q - p) 0 s (by omega) ⟨h4, Fq_rf _ _ _⟩
  have hpq : p + (q - p) = q := by omega
  rw [hpq] at i1
  have hy := TkS_fq h i2 (fun c i hc => by omega)
  obtain ⟨b1, b2⟩ := x_pk hy hN (by omega) i1
  obtain ⟨c, hcd⟩ : ∃ c, c = if q < N then bt q else -1 := ⟨_, rfl⟩
  rw [← hcd] at b1
  have hcr : -1 ≤ c ∧ c < 256 := by
    rw [hcd]
    by_cases hh : q < N
    · rw [if_pos hh]; have := (h.2.2 q hh).1; omega
    · rw [if_neg hh]; omega
  have hnb : ¬ blk c := by
    rw [hcd]
    by_cases hh : q < N
    · rw [if_pos hh]; exact fun hb => e4 ⟨hh, hb⟩
    · rw [if_neg hh]; omega
  have k1 : ¬ zI c = 32 := by rw [show (32 : Int32) = zI 32 from rfl, z_eq (by omega) (by omega)]; omega
  have k2 : ¬ zI c = 10 := by rw [show (10 : Int32) = zI 10 from rfl, z_eq (by omega) (by omega)]; omega
  obtain ⟨t1, ht1⟩ : ∃ t1, t1 = pI (pI t0 248 12 (zI (q : Int))) 248 13 0 := ⟨_, rfl⟩
  have f1 : Fq TxI (fun _ _ => False) s t1 := by rw [ht1]; exact Fq_tr (Fq_mo i2 (fun c i hc => by omega) (fun _ _ hc => hc)) (Fq_tr (Fq_p _ (by omega)) (Fq_p _ (by omega)))
  have hy1 := TkS_fq h f1 (fun c i hc => by omega)
  have x12 : gI t1 248 12 = zI (q : Int) := by rw [ht1, gI_pI, if_neg (by omega), gI_pI, if_pos ⟨rfl, rfl⟩]
  have x4 : gI t1 248 4 = zI (q : Int) := by rw [ht1, gI_pI, if_neg (by omega), gI_pI, if_neg (by omega), i1]
  have x13 : gI t1 248 13 = 0 := by rw [ht1, gI_pI, if_pos ⟨rfl, rfl⟩]
  obtain ⟨b3, b4⟩ := x_pk hy1 hN (by omega) x4
  rw [← hcd] at b3
  have n6 : zI (N : Int) ≤ zI 600 ↔ N ≤ 600 := by rw [z_le (by omega) (by omega)]; omega
  have n7 : zI (q : Int) < zI 600 ↔ q < 600 := by rw [z_lt (by omega) (by omega)]; omega
  have fL : ∀ {A B : Nat → Nat → Prop} {a b : SM}, Fq A (fun _ _ => False) a b → Fq A B a b := fun hh => Fq_mo hh (fun _ _ x => x) (fun _ _ x => x.elim)
  by_cases c6 : N ≤ 600 ∨ q < 600
  · have g1 : ST 1 (fun n => (lX12_next n).1 t0) (fun n => (qX12_next n).1 t0) (fun n => (lX12_next n).2.1 t1) (fun n => (qX12_next n).2.1 t1) := by
      refine ST_1 fun n => ?_
      show tX12_next_0 (lX12_next n) t0 = _ ∧ (_ → uX12_next_0 (qX12_next n) t0)
      unfold tX12_next_0 uX12_next_0
      rw [b1, if_neg k1, if_neg k2, i1, ← ht1, hy1.1, hy1.2.1, x4]
      by_cases c1 : N ≤ 600
      · rw [if_pos (n6.mpr c1)]
        exact ⟨rfl, fun hh => ⟨b2, fun hc => absurd hc k1, fun _ => ⟨b2, fun _ => ⟨fun _ => hh, fun _ _ => hh⟩, fun hc => absurd hc k2⟩⟩⟩
      · rw [if_neg (fun hc => c1 (n6.mp hc)), if_pos (n7.mpr (c6.resolve_left c1))]
        exact ⟨rfl, fun hh => ⟨b2, fun hc => absurd hc k1, fun _ => ⟨b2, fun _ => ⟨fun _ => hh, fun _ _ => hh⟩, fun hc => absurd hc k2⟩⟩⟩
    by_cases cN : q < N
    · have cN6 : q < N ∧ q < 600 := by omega
      rw [if_pos cN] at hcd
      rw [if_pos cN6]
      have p0 : 0 ≤ zI c := by rw [zl0, z_le (by omega) (by omega), hcd]; exact (h.2.2 q cN).1.1
      obtain ⟨d1, d2⟩ := x_cls t1 hcr
      by_cases cr : ltr (bt q) ∨ dgt (bt q)
      · rw [if_pos cr]
        obtain ⟨t, r1, r2, r3, r4, r5, r6, r7⟩ := x_run hy1 hN cN cr x4 x13
        have g2 : ST 1 (fun n => (lX12_next n).2.1 t1) (fun n => (qX12_next n).2.1 t1) (fun n => (lX12_next n).2.2.1 t1 (zI (bt q))) (fun n => (qX12_next n).2.2.1 t1 (zI (bt q))) := by
          refine ST_1 fun n => ?_
          show tX12_next_80 (lX12_next n) t1 = _ ∧ (_ → uX12_next_80 (qX12_next n) t1)
          unfold tX12_next_80 uX12_next_80
          rw [b3, if_pos p0, d1, d2, ← hcd]
          rw [← hcd] at cr
          by_cases cl : ltr c
          · have kl : ¬ bI (ltr c) = 0 := by rw [bI_0]; exact fun hh => hh cl
            rw [if_neg kl]
            exact ⟨rfl, fun hh => ⟨b4, fun _ => ⟨fun _ => hh, fun hc => absurd hc kl⟩⟩⟩
          · have kl : bI (ltr c) = 0 := by rw [bI_0]; exact cl
            have kd : ¬ bI (dgt c) = 0 := by rw [bI_0]; exact fun hh => hh (cr.resolve_left cl)
            rw [if_pos kl, if_neg kd]
            exact ⟨rfl, fun hh => ⟨b4, fun _ => ⟨fun hc => absurd kl hc, fun _ _ => hh⟩⟩⟩
        obtain ⟨E, R⟩ := ST_fu (ST_trans st (ST_trans g1 (ST_trans g2 r1))) (by omega)
        have hne : ∀ a b : Nat, ¬ srt a b = 0 ∧ ¬ srt a b = 3 := fun a b => by unfold srt; split; omega; split; omega; omega
        refine ⟨t, E, R, Fq_tr (fL f1) r2, ?_, by rw [r3, x12], r4, r6, r7, fun hc => absurd hc (hne _ _).2⟩
        show gI t 248 11 = zI (if srt _ _ = 0 then _ else _)
        rw [if_neg (hne _ _).1]
        exact r5
      · rw [if_neg cr]
        rw [← hcd] at cr ⊢
        have kl : bI (ltr c) = 0 := by rw [bI_0]; exact fun hc => cr (Or.inl hc)
        have kd : bI (dgt c) = 0 := by rw [bI_0]; exact fun hc => cr (Or.inr hc)
        obtain ⟨S, hS⟩ : ∃ S : Int, S = if c = 59 then 3 else 4 := ⟨_, rfl⟩
        have eS : (if zI c = 59 then (3 : Int32) else 4) = zI S := by
          rw [hS]
          by_cases c : c = 59
          · rw [if_pos c, if_pos (by rw [c]; rfl)]; rfl
          · rw [if_neg c, if_neg (by rw [show (59 : Int32) = zI 59 from rfl, z_eq (by omega) (by omega)]; exact c)]; rfl
        have hS2 : S = 3 ∧ c = 59 ∨ S = 4 := by rw [hS]; split; exact Or.inl ⟨rfl, by assumption⟩; exact Or.inr rfl
        rw [← hS]
        obtain ⟨t, ht⟩ : ∃ t, t = pI (pI (pI t1 248 11 (zI S)) 248 14 (zI c)) 248 4 (zI ((q + 1 : Nat) : Int)) := ⟨_, rfl⟩
        have e7 : gI (pI (pI t1 248 11 (zI S)) 248 14 (zI c)) 248 4 + 1 = zI ((q + 1 : Nat) : Int) := by rw [gI_pI, if_neg (by omega), gI_pI, if_neg (by omega), x4, zl1, z_add]; congr 1
        have g2 : ST 1 (fun n => (lX12_next n).2.1 t1) (fun n => (qX12_next n).2.1 t1) (fun _ => t) (fun _ => True) := by
          refine ST_1 fun n => ?_
          show tX12_next_80 (lX12_next n) t1 = _ ∧ (_ → uX12_next_80 (qX12_next n) t1)
          unfold tX12_next_80 uX12_next_80
          rw [b3, if_pos p0, d1, d2, if_pos kl, if_pos kd, eS]
          dsimp only
          rw [e7, ← ht]
          exact ⟨rfl, fun _ => ⟨b4, fun _ => ⟨fun hc => absurd kl hc, fun _ hc => absurd kd hc⟩⟩⟩
        obtain ⟨E, R⟩ := ST_fu (ST_trans st (ST_trans g1 g2)) (by omega)
        refine ⟨t, E, R, ?_, ?_, ?_, ?_, fun hc => absurd hc (by show ¬ S = 1; omega), fun hc => absurd hc (by show ¬ S = 2; omega), fun hc => ?_⟩
        · rw [ht]
          exact Fq_tr (fL f1) (Fq_tr (Fq_p _ (by omega)) (Fq_tr (Fq_p _ (by omega)) (Fq_p _ (by omega))))
        · show gI t 248 11 = zI (if S = 0 then _ else S)
          rw [if_neg (by omega), ht, gI_pI, if_neg (by omega), gI_pI, if_neg (by omega), gI_pI, if_pos ⟨rfl, rfl⟩]
        · rw [ht, gI_pI, if_neg (by omega), gI_pI, if_neg (by omega), gI_pI, if_neg (by omega), x12]
        · rw [ht, gI_pI, if_pos ⟨rfl, rfl⟩]
        · have hc : S = 3 := hc
          rw [ht, gI_pI, if_neg (by omega), gI_pI, if_pos ⟨rfl, rfl⟩, show c = 59 by omega]
    · have cN6 : ¬ (q < N ∧ q < 600) := by omega
      rw [if_neg cN] at hcd
      rw [if_neg cN6]
      have hN6 : N ≤ 600 := by omega
      have p0 : ¬ 0 ≤ zI c := by rw [zl0, z_le (by omega) (by omega)]; omega
      obtain ⟨t, ht⟩ : ∃ t, t = pI t1 248 11 0 := ⟨_, rfl⟩
      have g2 : ST 1 (fun n => (lX12_next n).2.1 t1) (fun n => (qX12_next n).2.1 t1) (fun _ => t) (fun _ => True) := by
        refine ST_1 fun n => ?_
        show tX12_next_80 (lX12_next n) t1 = _ ∧ (_ → uX12_next_80 (qX12_next n) t1)
        unfold tX12_next_80 uX12_next_80
        rw [b3, if_neg p0, ← ht]
        exact ⟨rfl, fun _ => ⟨b4, fun hc => absurd hc p0⟩⟩
      obtain ⟨E, R⟩ := ST_fu (ST_trans st (ST_trans g1 g2)) (by omega)
      refine ⟨t, E, R, ?_, ?_, ?_, ?_, fun hc => absurd hc (by show ¬ (0 : Int) = 1; omega), fun hc => absurd hc (by show ¬ (0 : Int) = 2; omega), fun hc => absurd hc (by show ¬ (0 : Int) = 3; omega)⟩
      · rw [ht]; exact Fq_tr (fL f1) (Fq_p _ (by omega))
      · show gI t 248 11 = zI (if (0 : Int) = 0 then (if N ≤ 600 then 0 else 4) else 0)
        rw [if_pos rfl, if_pos hN6, ht, gI_pI, if_pos ⟨rfl, rfl⟩]; rfl
      · show gI t 248 12 = zI ((min N 600 : Nat) : Int)
        rw [ht, gI_pI, if_neg (by omega), x12, show min N 600 = q by omega]
      · rw [ht, gI_pI, if_neg (by omega), x4]
  · have cN6 : ¬ (q < N ∧ q < 600) := by omega
    rw [if_neg cN6]
    obtain ⟨t, ht⟩ : ∃ t, t = pI (pI t1 248 12 (zI 600)) 248 11 4 := ⟨_, rfl⟩
    have g1 : ST 1 (fun n => (lX12_next n).1 t0) (fun n => (qX12_next n).1 t0) (fun _ => t) (fun _ => True) := by
      refine ST_1 fun n => ?_
      show tX12_next_0 (lX12_next n) t0 = _ ∧ (_ → uX12_next_0 (qX12_next n) t0)
      have m1 : ¬ zI (N : Int) ≤ zI 600 := fun hc => c6 (Or.inl (n6.mp hc))
      have m2 : ¬ zI (q : Int) < zI 600 := fun hc => c6 (Or.inr (n7.mp hc))
      unfold tX12_next_0 uX12_next_0
      rw [b1, if_neg k1, if_neg k2, i1, ← ht1, hy1.1, hy1.2.1, x4, if_neg m1, if_neg m2]
      dsimp only
      rw [← ht]
      exact ⟨rfl, fun _ => ⟨b2, fun hc => absurd hc k1, fun _ => ⟨b2, fun _ => ⟨fun hc => absurd hc m1, fun _ hc => absurd hc m2⟩, fun hc => absurd hc k2⟩⟩⟩
    obtain ⟨E, R⟩ := ST_fu (ST_trans st g1) (by omega)
    refine ⟨t, E, R, ?_, ?_, ?_, ?_, fun hc => absurd hc (by show ¬ (0 : Int) = 1; omega), fun hc => absurd hc (by show ¬ (0 : Int) = 2; omega), fun hc => absurd hc (by show ¬ (0 : Int) = 3; omega)⟩
    · rw [ht]; exact Fq_tr (fL f1) (Fq_tr (Fq_p _ (by omega)) (Fq_p _ (by omega)))
    · show gI t 248 11 = zI (if (0 : Int) = 0 then (if N ≤ 600 then 0 else 4) else 0)
      rw [if_pos rfl, if_neg (by omega), ht, gI_pI, if_pos ⟨rfl, rfl⟩]; rfl
    · show gI t 248 12 = zI ((min N 600 : Nat) : Int)
      rw [ht, gI_pI, if_neg (by omega), gI_pI, if_pos ⟨rfl, rfl⟩, show min N 600 = 600 by omega]; rfl
    · rw [ht, gI_pI, if_neg (by omega), gI_pI, if_neg (by omega), x4]
end
