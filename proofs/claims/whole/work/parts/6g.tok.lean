-- needs: 6f.tok
/-! the reference's tokens -/
def TkS (s : SM) (N : Nat) (bt : Nat → Int) : Prop := gI s 248 3 = zI (N : Int) ∧ gI s 248 5 = zI 600 ∧ ∀ i, i < N → (0 ≤ bt i ∧ bt i < 256) ∧ (gI s 249 i &&& 255) = zI (bt i)
def TkX (t : SM) (N : Nat) (k : Tok) : Prop := gI t 248 11 = zI (if k.1 = 0 then (if N ≤ 600 then 0 else 4) else k.1) ∧ gI t 248 12 = zI (k.2.1 : Int) ∧ gI t 248 4 = zI (k.2.2.1 : Int) ∧ (k.1 = 1 → gL t 248 17 = k.2.2.2.1) ∧ (k.1 = 2 → gI t 248 14 = k.2.2.2.2) ∧ (k.1 = 3 → gI t 248 14 = zI 59)
section
variable {s : SM} {N : Nat} {bt : Nat → Int}
theorem TkS_fq {t : SM} {A B : Nat → Nat → Prop} (h : TkS s N bt) (hf : Fq A B s t) (hA : ∀ c i, c = 249 ∨ (c = 248 ∧ (i = 3 ∨ i = 5)) → ¬ A c i) : TkS t N bt := ⟨by rw [hf.1 248 3 (hA _ _ (by omega))]; exact h.1, by rw [hf.1 248 5 (hA _ _ (by omega))]; exact h.2.1, fun i hi => by rw [hf.1 249 i (hA _ _ (by omega))]; exact h.2.2 i hi⟩
theorem x_pk (h : TkS s N bt) (hN : N ≤ 640) {p : Nat} (hp : p ≤ N) (h4 : gI s 248 4 = zI (p : Int)) : vX12_peek s = zI (if p < N then bt p else -1) ∧ rX12_peek s := by
  have cj : (zI (p : Int)).toNatClampNeg = p := by rw [z_cl (by omega)]; exact Int.toNat_natCast _
  unfold vX12_peek rX12_peek
  rw [h.1, h4, cj]
  by_cases c : p < N
  · have n1 : ¬ zI (N : Int) ≤ zI (p : Int) := by rw [z_le (by omega) (by omega)]; omega
    rw [if_neg n1, if_pos c, (h.2.2 p c).2]
    exact ⟨rfl, fun _ => by rw [z_in (by omega)]; omega⟩
  · have n1 : zI (N : Int) ≤ zI (p : Int) := by rw [z_le (by omega) (by omega)]; omega
    rw [if_pos n1, if_neg c]
    exact ⟨rfl, fun hc => absurd n1 hc⟩
theorem x_cls (t : SM) {c : Int} (h : -1 ≤ c ∧ c < 256) : vX12_isSmall t (zI c) = bI (ltr c) ∧ vX12_isDigit t (zI c) = bI (dgt c) := by
  unfold vX12_isSmall vX12_isDigit bI
  rw [show (97 : Int32) = zI 97 from rfl, show (122 : Int32) = zI 122 from rfl, show (48 : Int32) = zI 48 from rfl, show (57 : Int32) = zI 57 from rfl]
  simp only [z_lt (show IR c by omega) (show IR 97 by omega), z_lt (show IR 122 by omega) (show IR c by omega), z_lt (show IR c by omega) (show IR 48 by omega), z_lt (show IR 57 by omega) (show IR c by omega)]
  refine ⟨?_, ?_⟩
  · by_cases c1 : c < 97
    · rw [if_pos c1, if_neg (by omega)]
    · rw [if_neg c1]
      by_cases c2 : 122 < c
      · rw [if_pos c2, if_neg (by omega)]
      · rw [if_neg c2, if_pos (by omega)]
  · by_cases c1 : c < 48
    · rw [if_pos c1, if_neg (by omega)]
    · rw [if_neg c1]
      by_cases c2 : 57 < c
      · rw [if_pos c2, if_neg (by omega)]
      · rw [if_neg c2, if_pos (by omega)]
/-- the first k of the run are of one class -/
abbrev samF (bt : Nat → Int) (q k : Nat) : Prop := if ltr (bt q) then dgF bt q k = 0 else ltF bt q k = 0
theorem x_run (h : TkS s N bt) (hN : N ≤ 640) {q : Nat} (hq : q < N) (hc : ltr (bt q) ∨ dgt (bt q)) (h4 : gI s 248 4 = zI (q : Int)) (h13 : gI s 248 13 = 0) : ∃ t, ST 4000 (fun n => (lX12_next n).2.2.1 s (zI (bt q))) (fun n => (qX12_next n).2.2.1 s (zI (bt q))) (fun _ => t) (fun _ => True) ∧ Fq TxI TxL s t ∧ gI t 248 12 = gI s 248 12 ∧ gI t 248 4 = zI (rnE N bt N q : Int) ∧ gI t 248 11 = zI (srt (ltF bt q (rnE N bt N q - q)) (dgF bt q (rnE N bt N q - q))) ∧ (srt (ltF bt q (rnE N bt N q - q)) (dgF bt q (rnE N bt N q - q)) = 1 → gL t 248 17 = wdF bt q (rnE N bt N q - q)) ∧ (srt (ltF bt q (rnE N bt N q - q)) (dgF bt q (rnE N bt N q - q)) = 2 → gI t 248 14 = nmF bt q (rnE N bt N q - q)) := by
  obtain ⟨e1, e2, e3, e4⟩ := rnE_a N bt N q
  have e4 := e4 (by omega)
  obtain ⟨E, hE⟩ : ∃ E, E = rnE N bt N q := ⟨_, rfl⟩
  rw [← hE] at e1 e2 e3 e4 ⊢
  obtain ⟨m, hm⟩ : ∃ m, m = E - q := ⟨_, rfl⟩
  rw [← hm]
  have hsum : ∀ k, k ≤ m → ltF bt q k + dgF bt q k = k := fun k hk => lt_dg bt q k (fun j hj => e3 (q + j) (by omega) (by omega))
  have hb0 := (h.2.2 q hq).1
  have f0 : Fq TxI TxL s (pI (pL s 248 17 0) 248 14 0) := Fq_tr (Fq_L s ⟨rfl, rfl⟩) (Fq_p _ (by omega))
  have st0 : ST 1 (fun n => (lX12_next n).2.2.1 s (zI (bt q))) (fun n => (qX12_next n).2.2.1 s (zI (bt q))) (fun n => (lX12_next n).2.2.2.1 (pI (pL s 248 17 0) 248 14 0) (zI (bt q)) (bI (ltr (bt q))) (bI (samF bt q 0))) (fun n => (qX12_next n).2.2.2.1 (pI (pL s 248 17 0) 248 14 0) (zI (bt q)) (bI (ltr (bt q))) (bI (samF bt q 0))) := by
    refine ST_1 fun n => ?_
    show tX12_next_140 (lX12_next n) s (zI (bt q)) = _ ∧ (_ → uX12_next_140 (qX12_next n) s (zI (bt q)))
    have e : bI (samF bt q 0) = 1 := by rw [bI_1]; unfold samF; split; exact rfl; exact rfl
    unfold tX12_next_140 uX12_next_140
    rw [(x_cls s (c := bt q) (by omega)).1, e]
    exact ⟨rfl, fun hh => hh⟩
  obtain ⟨t, ⟨i1, i2, i3, i4, i5, i6⟩, st⟩ := ST_up (B := 4) m (fun (k : Nat) (t : SM) => gI t 248 4 = zI ((q + k : Nat) : Int) ∧ gI t 248 13 = zI (k : Int) ∧ gL t 248 17 = wdF bt q (min k 7) ∧ gI t 248 14 = nmF bt q (min k 2) ∧ gI t 248 12 = gI s 248 12 ∧ Fq TxI TxL s t) (fun k t n => (lX12_next n).2.2.2.1 t (zI (bt q)) (bI (ltr (bt q))) (bI (samF bt q k))) (fun k t n => (qX12_next n).2.2.2.1 t (zI (bt q)) (bI (ltr (bt q))) (bI (samF bt q k))) (fun k t hk ⟨a1, a2, a3, a4, a5, a6⟩ => by
    have hy := TkS_fq h a6 (fun c i hc => by omega)
    have hlt : q + k < N := by omega
    have hb := (h.2.2 (q + k) hlt).1
    obtain ⟨b1, b2⟩ := x_pk hy hN (by omega) a1
    rw [if_pos hlt] at b1
    have hr := e3 (q + k) (by omega) (by omega)
    have el : ltF bt q (k + 1) = ltF bt q k + if ltr (bt (q + k)) then 1 else 0 := rfl
    have ed : dgF bt q (k + 1) = dgF bt q k + if dgt (bt (q + k)) then 1 else 0 := rfl
    have hsm : samF bt q (k + 1) ↔ samF bt q k ∧ (ltr (bt (q + k)) ↔ ltr (bt q)) := by
      unfold samF
      rw [el, ed]
      by_cases c1 : ltr (bt q)
      · rw [if_pos c1, if_pos c1]
        by_cases c2 : ltr (bt (q + k))
        · rw [if_neg (by omega)]
          exact ⟨fun hh => ⟨hh, fun _ => c1, fun _ => c2⟩, fun hh => hh.1⟩
        · rw [if_pos (by omega)]
          exact ⟨fun hh => absurd hh (by omega), fun hh => absurd (hh.2.mpr c1) c2⟩
      · rw [if_neg c1, if_neg c1]
        by_cases c2 : ltr (bt (q + k))
        · rw [if_pos c2]
          exact ⟨fun hh => absurd hh (by omega), fun hh => absurd (hh.2.mp c2) c1⟩
        · rw [if_neg c2]
          exact ⟨fun hh => ⟨hh, fun hc => absurd hc c2, fun hc => absurd hc c1⟩, fun hh => hh.1⟩
    -- the word
    obtain ⟨t1, ht1⟩ : ∃ t1, t1 = (if 7 ≤ zI (k : Int) then t else pL t 248 17 ((gL t 248 17 <<< ((8 : Int32).toInt64 &&& 63)) ||| (zI (bt (q + k))).toInt64)) := ⟨_, rfl⟩
    have k7 : 7 ≤ zI (k : Int) ↔ 7 ≤ k := by rw [show (7 : Int32) = zI 7 from rfl, z_le (by omega) (by omega)]; omega
    have k2 : 2 ≤ zI (k : Int) ↔ 2 ≤ k := by rw [show (2 : Int32) = zI 2 from rfl, z_le (by omega) (by omega)]; omega
    have w1 : Fq (fun _ _ => False) TxL t t1 ∧ gL t1 248 17 = wdF bt q (min (k + 1) 7) := by
      rw [ht1]
      by_cases c : 7 ≤ k
      · rw [if_pos (k7.mpr c), a3, show min k 7 = min (k + 1) 7 by omega]; exact ⟨Fq_rf _ _ _, rfl⟩
      · rw [if_neg (fun hc => c (k7.mp hc)), gL_pL, if_pos ⟨rfl, rfl⟩, a3, show min k 7 = k by omega, show min (k + 1) 7 = k + 1 by omega]
        exact ⟨Fq_L t ⟨rfl, rfl⟩, rfl⟩
    have x4 : gI t1 248 4 = zI ((q + k : Nat) : Int) := by rw [w1.1.1 _ _ (fun h => h)]; exact a1
    have x13 : gI t1 248 13 = zI (k : Int) := by rw [w1.1.1 _ _ (fun h => h)]; exact a2
    have x14 : gI t1 248 14 = nmF bt q (min k 2) := by rw [w1.1.1 _ _ (fun h => h)]; exact a4
    have hy1 := TkS_fq (A := fun _ _ => False) hy w1.1 (fun c i _ hh => hh)
    obtain ⟨b3, b4⟩ := x_pk hy1 hN (by omega) x4
    rw [if_pos hlt] at b3
    obtain ⟨t2, ht2⟩ : ∃ t2, t2 = (if 2 ≤ zI (k : Int) then pI t1 248 13 (zI ((k + 1 : Nat) : Int)) else pI (pI t1 248 14 (10 * gI t1 248 14 + zI (bt (q + k)) - 48)) 248 13 (zI ((k + 1 : Nat) : Int))) := ⟨_, rfl⟩
    obtain ⟨t3, ht3⟩ : ∃ t3, t3 = pI t2 248 4 (zI ((q + (k + 1) : Nat) : Int)) := ⟨_, rfl⟩
    have w2 : Fq (fun c i => c = 248 ∧ (i = 13 ∨ i = 14)) (fun _ _ => False) t1 t2 ∧ gI t2 248 13 = zI ((k + 1 : Nat) : Int) ∧ gI t2 248 14 = nmF bt q (min (k + 1) 2) := by
      rw [ht2]
      by_cases c : 2 ≤ k
      · rw [if_pos (k2.mpr c), gI_pI, if_pos ⟨rfl, rfl⟩, gI_pI, if_neg (by omega), x14, show min k 2 = min (k + 1) 2 by omega]; exact ⟨Fq_p _ (by omega), rfl, rfl⟩
      · rw [if_neg (fun hc => c (k2.mp hc)), gI_pI, if_pos ⟨rfl, rfl⟩, gI_pI, if_neg (by omega), gI_pI, if_pos ⟨rfl, rfl⟩, x14, show min k 2 = k by omega, show min (k + 1) 2 = k + 1 by omega]
        refine ⟨Fq_tr (Fq_p _ (by omega)) (Fq_p _ (by omega)), rfl, ?_⟩
        show 10 * nmF bt q k + zI (bt (q + k)) - 48 = nmF bt q k * 10 + (zI (bt (q + k)) - 48)
        rw [Int32.mul_comm, Int32.sub_eq_add_neg, Int32.sub_eq_add_neg, Int32.add_assoc]
    have f3 : Fq TxI TxL t t3 := by
      rw [ht3]
      exact Fq_tr (Fq_mo w1.1 (fun _ _ hh => hh.elim) (fun _ _ hh => hh)) (Fq_tr (Fq_mo w2.1 (fun c i hh => by omega) (fun _ _ hh => hh.elim)) (Fq_p _ (by omega)))
    have e13 : zI (k : Int) + 1 = zI ((k + 1 : Nat) : Int) := by rw [zl1, z_add]; congr 1
    have e4' : zI ((q + k : Nat) : Int) + 1 = zI ((q + (k + 1) : Nat) : Int) := by rw [zl1, z_add]; congr 1
    have p1 : ST 1 (fun n => (lX12_next n).2.2.2.1 t (zI (bt q)) (bI (ltr (bt q))) (bI (samF bt q k))) (fun n => (qX12_next n).2.2.2.1 t (zI (bt q)) (bI (ltr (bt q))) (bI (samF bt q k))) (fun n => (lX12_next n).2.2.2.2.1 t (zI (bt q)) (bI (ltr (bt q))) (bI (samF bt q k))) (fun n => (qX12_next n).2.2.2.2.1 t (zI (bt q)) (bI (ltr (bt q))) (bI (samF bt q k))) := by
      refine ST_1 fun n => ?_
      show tX12_next_157 (lX12_next n) t _ _ _ = _ ∧ (_ → uX12_next_157 (qX12_next n) t _ _ _)
      unfold tX12_next_157 uX12_next_157
      obtain ⟨c1, c2⟩ := x_cls t (c := bt (q + k)) (by omega)
      rw [b1, c1, c2]
      by_cases c : ltr (bt (q + k))
      · have k1 : ¬ bI (ltr (bt (q + k))) = 0 := by rw [bI_0]; exact fun hh => hh c
        rw [if_neg k1]
        exact ⟨rfl, fun hh => ⟨b2, fun _ => hh, fun hc => absurd hc k1⟩⟩
      · have k1 : bI (ltr (bt (q + k))) = 0 := by rw [bI_0]; exact c
        have k2 : ¬ bI (dgt (bt (q + k))) = 0 := by rw [bI_0]; exact fun hh => hh (hr.resolve_left c)
        rw [if_pos k1, if_neg k2]
        exact ⟨rfl, fun hh => ⟨b2, fun hc => absurd k1 hc, fun _ => ⟨b2, fun _ => hh⟩⟩⟩
    have p3 : ST 1 (fun n => (lX12_next n).2.2.2.2.2.2 t1 (zI (bt q)) (bI (ltr (bt q))) (bI (samF bt q (k + 1)))) (fun n => (qX12_next n).2.2.2.2.2.2 t1 (zI (bt q)) (bI (ltr (bt q))) (bI (samF bt q (k + 1)))) (fun n => (lX12_next n).2.2.2.1 t3 (zI (bt q)) (bI (ltr (bt q))) (bI (samF bt q (k + 1)))) (fun n => (qX12_next n).2.2.2.1 t3 (zI (bt q)) (bI (ltr (bt q))) (bI (samF bt q (k + 1)))) := by
      refine ST_1 fun n => ?_
      show tX12_next_224 (lX12_next n) t1 _ _ _ = _ ∧ (_ → uX12_next_224 (qX12_next n) t1 _ _ _)
      unfold tX12_next_224 uX12_next_224
      rw [x13, b3, ht3, ht2]
      by_cases c : 2 ≤ k
      · have kk := k2.mpr c
        have g4 : gI (pI t1 248 13 (zI ((k + 1 : Nat) : Int))) 248 4 + 1 = zI ((q + (k + 1) : Nat) : Int) := by rw [gI_pI, if_neg (by omega), x4, e4']
        rw [if_pos kk, if_pos kk, e13]
        dsimp only
        rw [g4]
        exact ⟨rfl, fun hh => ⟨fun _ s1 hs => by rw [hs]; exact hh, fun hc => absurd kk hc⟩⟩
      · have kk : ¬ 2 ≤ zI (k : Int) := fun hc => c (k2.mp hc)
        have g13 : gI (pI t1 248 14 (10 * gI t1 248 14 + zI (bt (q + k)) - 48)) 248 13 + 1 = zI ((k + 1 : Nat) : Int) := by rw [gI_pI, if_neg (by omega), x13, e13]
        have g4 : gI (pI (pI t1 248 14 (10 * gI t1 248 14 + zI (bt (q + k)) - 48)) 248 13 (zI ((k + 1 : Nat) : Int))) 248 4 + 1 = zI ((q + (k + 1) : Nat) : Int) := by rw [gI_pI, if_neg (by omega), gI_pI, if_neg (by omega), x4, e4']
        rw [if_neg kk, if_neg kk, g13]
        dsimp only
        rw [g4]
        exact ⟨rfl, fun hh => ⟨fun hc => absurd hc kk, fun _ => ⟨b4, fun s2 hs => by rw [hs, g4]; exact hh⟩⟩⟩
    have p2 : ST 2 (fun n => (lX12_next n).2.2.2.2.1 t (zI (bt q)) (bI (ltr (bt q))) (bI (samF bt q k))) (fun n => (qX12_next n).2.2.2.2.1 t (zI (bt q)) (bI (ltr (bt q))) (bI (samF bt q k))) (fun n => (lX12_next n).2.2.2.2.2.2 t1 (zI (bt q)) (bI (ltr (bt q))) (bI (samF bt q (k + 1)))) (fun n => (qX12_next n).2.2.2.2.2.2 t1 (zI (bt q)) (bI (ltr (bt q))) (bI (samF bt q (k + 1)))) := by
      obtain ⟨c1, c2⟩ := x_cls t (c := bt (q + k)) (by omega)
      have hbl : bI (ltr (bt (q + k))) = bI (ltr (bt q)) ↔ (ltr (bt (q + k)) ↔ ltr (bt q)) := by
        constructor
        · intro hh
          have u1 := bI_0 (ltr (bt (q + k)))
          have u2 := bI_0 (ltr (bt q))
          rw [hh] at u1
          have u3 := u1.symm.trans u2
          exact ⟨fun a => Classical.byContradiction fun b => u3.mpr b a, fun a => Classical.byContradiction fun b => u3.mp b a⟩
        · exact fun hh => bI_c hh
      by_cases cs : samF bt q (k + 1)
      · have ks := (hsm.mp cs)
        have n0 : ¬ bI (samF bt q k) = 0 := by rw [bI_0]; exact fun hh => hh ks.1
        have n1 : bI (samF bt q (k + 1)) = 1 := by rw [bI_1]; exact cs
        refine ST_mono (ST_1 fun n => ?_) (by omega)
        show tX12_next_177 (lX12_next n) t _ _ _ = _ ∧ (_ → uX12_next_177 (qX12_next n) t _ _ _)
        unfold tX12_next_177 uX12_next_177
        rw [if_neg n0, b1, c1, if_pos (hbl.mpr ks.2), a2, n1, ht1]
        by_cases c : 7 ≤ zI (k : Int)
        · rw [if_pos c, if_pos c]
          exact ⟨rfl, fun hh => ⟨fun hc => absurd hc n0, fun _ => ⟨b2, fun hc => absurd (hbl.mpr ks.2) hc, fun _ => ⟨fun _ => hh, fun hc => absurd c hc⟩⟩⟩⟩
        · rw [if_neg c, if_neg c]
          exact ⟨rfl, fun hh => ⟨fun hc => absurd hc n0, fun _ => ⟨b2, fun hc => absurd (hbl.mpr ks.2) hc, fun _ => ⟨fun hc => absurd hc c, fun _ => ⟨b2, hh⟩⟩⟩⟩⟩
      · have n1 : bI (samF bt q (k + 1)) = 0 := by rw [bI_0]; exact cs
        refine ST_trans (B1 := 1) (B2 := 1) (ST_1 (F' := fun n => (lX12_next n).2.2.2.2.2.1 t (zI (bt q)) (bI (ltr (bt q))) (bI (samF bt q k))) (C' := fun n => (qX12_next n).2.2.2.2.2.1 t (zI (bt q)) (bI (ltr (bt q))) (bI (samF bt q k))) (fun n => ?_)) (ST_1 fun n => ?_)
        · show tX12_next_177 (lX12_next n) t _ _ _ = _ ∧ (_ → uX12_next_177 (qX12_next n) t _ _ _)
          unfold tX12_next_177 uX12_next_177
          rw [b1, c1]
          by_cases c : samF bt q k
          · have n0 : ¬ bI (samF bt q k) = 0 := by rw [bI_0]; exact fun hh => hh c
            have n2 : ¬ bI (ltr (bt (q + k))) = bI (ltr (bt q)) := fun hh => cs (hsm.mpr ⟨c, hbl.mp hh⟩)
            rw [if_neg n0, if_neg n2]
            exact ⟨rfl, fun hh => ⟨fun hc => absurd hc n0, fun _ => ⟨b2, fun _ => hh, fun hc => absurd hc n2⟩⟩⟩
          · have n0 : bI (samF bt q k) = 0 := by rw [bI_0]; exact c
            rw [if_pos n0]
            exact ⟨rfl, fun hh => ⟨fun _ => hh, fun hc => absurd n0 hc⟩⟩
        · show tX12_next_196 (lX12_next n) t (zI (bt q)) (bI (ltr (bt q))) (bI (samF bt q k)) = _ ∧ (_ → uX12_next_196 (qX12_next n) t (zI (bt q)) (bI (ltr (bt q))) (bI (samF bt q k)))
          unfold tX12_next_196 uX12_next_196
          rw [a2, b1, n1, ht1]
          by_cases c : 7 ≤ zI (k : Int)
          · rw [if_pos c, if_pos c]
            exact ⟨rfl, fun hh => ⟨fun _ => hh, fun hc => absurd c hc⟩⟩
          · rw [if_neg c, if_neg c]
            exact ⟨rfl, fun hh => ⟨fun hc => absurd hc c, fun _ => ⟨b2, hh⟩⟩⟩
    refine ⟨t3, ⟨?_, ?_, ?_, ?_, ?_, Fq_tr a6 f3⟩, ST_mono (ST_trans p1 (ST_trans p2 p3)) (by omega)⟩
    · rw [ht3, gI_pI, if_pos ⟨rfl, rfl⟩]
    · rw [ht3, gI_pI, if_neg (by omega), w2.2.1]
    · rw [ht3, gL_pI, w2.1.2.1 _ _ (fun h => h), w1.2]
    · rw [ht3, gI_pI, if_neg (by omega), w2.2.2]
    · rw [ht3, gI_pI, if_neg (by omega), w2.1.1 248 12 (by omega), w1.1.1 _ _ (fun h => h), a5]) m 0 (pI (pL s 248 17 0) 248 14 0) (by omega) ⟨by rw [gI_pI, if_neg (by omega), gI_pL, h4]; rfl, by rw [gI_pI, if_neg (by omega), gI_pL, h13]; rfl, by rw [gL_pI, gL_pL, if_pos ⟨rfl, rfl⟩]; rfl, by rw [gI_pI, if_pos ⟨rfl, rfl⟩]; rfl, by rw [gI_pI, if_neg (by omega), gI_pL], f0⟩
  have hy := TkS_fq h i6 (fun c i hc => by omega)
  have hs := hsum m (Nat.le_refl _)
  have hqm : q + m = E := by omega
  have m1 : 1 ≤ m := by
    by_cases hh : E = q
    · rw [hh] at e4; exact absurd ⟨hq, hc⟩ e4
    · omega
  rw [hqm] at i1
  obtain ⟨b1, b2⟩ := x_pk hy hN (by omega) i1
  have hnr : ¬ (ltr (if E < N then bt E else -1) ∨ dgt (if E < N then bt E else -1)) := by
    by_cases c : E < N
    · rw [if_pos c]; exact fun hh => e4 ⟨c, hh⟩
    · rw [if_neg c]; omega
  have hcr : -1 ≤ (if E < N then bt E else -1) ∧ (if E < N then bt E else -1) < 256 := by
    by_cases c : E < N
    · rw [if_pos c]; have := (h.2.2 E c).1; omega
    · rw [if_neg c]; omega
  obtain ⟨c1, c2⟩ := x_cls t hcr
  have l0 : 1 ≤ ltF bt q m ∨ 1 ≤ dgF bt q m := by omega
  -- the first of the run counts
  have first : ∀ k, (ltr (bt q) → 1 ≤ ltF bt q (k + 1)) ∧ (¬ ltr (bt q) → 1 ≤ dgF bt q (k + 1)) := by
    intro k
    induction k with
    | zero =>
      have el : ltF bt q 1 = 0 + if ltr (bt (q + 0)) then 1 else 0 := rfl
      have ed : dgF bt q 1 = 0 + if dgt (bt (q + 0)) then 1 else 0 := rfl
      rw [Nat.add_zero] at el ed
      exact ⟨fun hh => by rw [el, if_pos hh]; omega, fun hh => by rw [ed, if_pos (hc.resolve_left hh)]; omega⟩
    | succ k ih =>
      have el : ltF bt q (k + 1 + 1) = ltF bt q (k + 1) + if ltr (bt (q + (k + 1))) then 1 else 0 := rfl
      have ed : dgF bt q (k + 1 + 1) = dgF bt q (k + 1) + if dgt (bt (q + (k + 1))) then 1 else 0 := rfl
      exact ⟨fun hh => by have := ih.1 hh; omega, fun hh => by have := ih.2 hh; omega⟩
  have hf := first (m - 1)
  rw [show m - 1 + 1 = m by omega] at hf
  have m7 : zI (m : Int) ≤ 7 ↔ m ≤ 7 := by rw [show (7 : Int32) = zI 7 from rfl, z_le (by omega) (by omega)]; omega
  have m2 : zI (m : Int) ≤ 2 ↔ m ≤ 2 := by rw [show (2 : Int32) = zI 2 from rfl, z_le (by omega) (by omega)]; omega
  have hS : (if bI (samF bt q m) = 0 then (4 : Int32) else (if bI (ltr (bt q)) = 0 then (if zI (m : Int) ≤ 2 then (if bI (ltr (bt q)) = 0 then 2 else 1) else 4) else (if zI (m : Int) ≤ 7 then (if bI (ltr (bt q)) = 0 then 2 else 1) else 4))) = zI (srt (ltF bt q m) (dgF bt q m)) := by
    unfold srt
    by_cases cs : samF bt q m
    · have n0 : ¬ bI (samF bt q m) = 0 := by rw [bI_0]; exact fun hh => hh cs
      rw [if_neg n0]
      unfold samF at cs
      by_cases cl : ltr (bt q)
      · have kl : ¬ bI (ltr (bt q)) = 0 := by rw [bI_0]; exact fun hh => hh cl
        rw [if_pos cl] at cs
        have := hf.1 cl
        rw [if_neg kl]
        by_cases c7 : m ≤ 7
        · rw [if_pos (m7.mpr c7), if_neg kl, if_pos ⟨cs, by omega⟩]; rfl
        · rw [if_neg (fun hh => c7 (m7.mp hh)), if_neg (by omega), if_neg (by omega)]; rfl
      · have kl : bI (ltr (bt q)) = 0 := by rw [bI_0]; exact cl
        rw [if_neg cl] at cs
        have := hf.2 cl
        rw [if_pos kl]
        by_cases c7 : m ≤ 2
        · rw [if_pos (m2.mpr c7), if_pos kl, if_neg (by omega), if_pos ⟨cs, by omega⟩]; rfl
        · rw [if_neg (fun hh => c7 (m2.mp hh)), if_neg (by omega), if_neg (by omega)]; rfl
    · have n0 : bI (samF bt q m) = 0 := by rw [bI_0]; exact cs
      rw [if_pos n0]
      unfold samF at cs
      by_cases cl : ltr (bt q)
      · rw [if_pos cl] at cs
        have := hf.1 cl
        rw [if_neg (by omega), if_neg (by omega)]; rfl
      · rw [if_neg cl] at cs
        have := hf.2 cl
        rw [if_neg (by omega), if_neg (by omega)]; rfl
  obtain ⟨t', ht'⟩ : ∃ t', t' = pI t 248 11 (zI (srt (ltF bt q m) (dgF bt q m))) := ⟨_, rfl⟩
  have g1 : ST 1 (fun n => (lX12_next n).2.2.2.1 t (zI (bt q)) (bI (ltr (bt q))) (bI (samF bt q m))) (fun n => (qX12_next n).2.2.2.1 t (zI (bt q)) (bI (ltr (bt q))) (bI (samF bt q m))) (fun _ => t') (fun _ => True) := by
    refine ST_1 fun n => ?_
    show tX12_next_157 (lX12_next n) t (zI (bt q)) (bI (ltr (bt q))) (bI (samF bt q m)) = _ ∧ (_ → uX12_next_157 (qX12_next n) t (zI (bt q)) (bI (ltr (bt q))) (bI (samF bt q m)))
    have k1 : bI (ltr (if E < N then bt E else -1)) = 0 := by rw [bI_0]; exact fun hh => hnr (Or.inl hh)
    have k2 : bI (dgt (if E < N then bt E else -1)) = 0 := by rw [bI_0]; exact fun hh => hnr (Or.inr hh)
    unfold tX12_next_157 uX12_next_157
    rw [b1, c1, c2, if_pos k1, if_pos k2, i2, hS, ← ht']
    exact ⟨rfl, fun _ => ⟨b2, fun hc => absurd k1 hc, fun _ => ⟨b2, fun hc => absurd k2 hc⟩⟩⟩
  have fin : Fq TxI TxL t t' := by rw [ht']; exact Fq_p _ (by omega)
  refine ⟨t', ST_mono (ST_trans st0 (ST_trans st g1)) (by omega), Fq_tr i6 fin, ?_, ?_, ?_, fun hh => ?_, fun hh => ?_⟩
  · rw [ht', gI_pI, if_neg (by omega), i5]
  · rw [ht', gI_pI, if_neg (by omega), i1]
  · rw [ht', gI_pI, if_pos ⟨rfl, rfl⟩]
  · have : m ≤ 7 := by
      unfold srt at hh
      by_cases c : dgF bt q m = 0 ∧ ltF bt q m ≤ 7
      · omega
      · rw [if_neg c] at hh
        by_cases c' : ltF bt q m = 0 ∧ dgF bt q m ≤ 2
        · omega
        · rw [if_neg c'] at hh; omega
    rw [ht', gL_pI, i3, show min m 7 = m by omega]
  · have : m ≤ 2 := by
      unfold srt at hh
      by_cases c : dgF bt q m = 0 ∧ ltF bt q m ≤ 7
      · rw [if_pos c] at hh; omega
      · rw [if_neg c] at hh
        by_cases c' : ltF bt q m = 0 ∧ dgF bt q m ≤ 2
        · omega
        · rw [if_neg c'] at hh; omega
    rw [ht', gI_pI, if_neg (by omega), i4, show min m 2 = m by omega]
end
