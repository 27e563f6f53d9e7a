-- needs: 6e.tok
section
variable {s : SM} {N : Nat} {bt : Nat → Int}
/-- what the class holds after a token -/
def TkY (t : SM) (k : Tok) : Prop := gI t 3 9 = zI k.1 ∧ gI t 3 8 = zI (k.2.1 : Int) ∧ gI t 3 7 = zI (k.2.2.1 : Int) ∧ (k.1 = 1 → gL t 3 4 = k.2.2.2.1) ∧ (k.1 = 2 → gI t 3 5 = k.2.2.2.2)
theorem y_next (h : TpY s N bt) (hN : N ≤ 640) {p : Nat} (hp : p ≤ N) (h7 : gI s 3 7 = zI (p : Int)) : ∃ t, mX9_nextToken s = t ∧ rX9_nextToken s ∧ Fq TkI TkL s t ∧ TkY t (tokF N bt p) := by
  obtain ⟨e1, e2, e3, e4⟩ := skp_a N bt N p
  have e4 := e4 (by omega)
  obtain ⟨q, hq⟩ : ∃ q, q = skp N bt N p := ⟨_, rfl⟩
  unfold tokF
  rw [← hq] at e1 e2 e3 e4 ⊢
  obtain ⟨t0, ⟨i1, i2⟩, st⟩ := ST_up (B := 1) (q - p) (fun (k : Nat) (t : SM) => gI t 3 7 = zI ((p + k : Nat) : Int) ∧ Fq (fun c i => c = 3 ∧ i = 7) (fun _ _ => False) s t) (fun k t n => (lX9_nextToken n).1 t) (fun k t n => (qX9_nextToken n).1 t) (fun k t hk ⟨a1, a2⟩ => by
    have hy := TpY_fq h a2 (fun c i hc => by omega)
    have hlt : p + k < N := by omega
    have hb := (h.2 (p + k) hlt).1
    obtain ⟨b1, b2⟩ := y_byte hy hN hlt
    obtain ⟨c1, -, -⟩ := y_bk t hb
    have hr := e3 (p + k) (by omega) (by omega)
    have n1 : ¬ zI (N : Int) ≤ zI ((p + k : Nat) : Int) := by rw [z_le (by omega) (by omega)]; omega
    have k1 : ¬ bI (blk (bt (p + k))) = 0 := by rw [bI_0]; exact fun hh => hh hr
    have e7 : zI ((p + k : Nat) : Int) + 1 = zI ((p + (k + 1) : Nat) : Int) := by rw [zl1, z_add]; congr 1
    refine ⟨pI t 3 7 (zI ((p + (k + 1) : Nat) : Int)), ⟨by rw [gI_pI, if_pos ⟨rfl, rfl⟩], Fq_tr a2 (Fq_p _ ⟨rfl, rfl⟩)⟩, ST_1 fun n => ?_⟩
    show tX9_nextToken_0 (lX9_nextToken n) t = _ ∧ (_ → uX9_nextToken_0 (qX9_nextToken n) t)
    unfold tX9_nextToken_0 uX9_nextToken_0
    rw [hy.1, a1, if_neg n1, b1, c1, if_neg k1, e7]
    exact ⟨rfl, fun hh => ⟨fun hc => absurd hc n1, fun _ => ⟨b2, fun hc => absurd hc k1, fun _ => hh⟩⟩⟩) (q - p) 0 s (by omega) ⟨h7, Fq_rf _ _ _⟩
  have hpq : p + (q - p) = q := by omega
  rw [hpq] at i1
  have hy := TpY_fq h i2 (fun c i hc => by omega)
  have g1 : ST 1 (fun n => (lX9_nextToken n).1 t0) (fun n => (qX9_nextToken n).1 t0) (fun n => (lX9_nextToken n).2.1 t0) (fun n => (qX9_nextToken n).2.1 t0) := by
    refine ST_1 fun n => ?_
    show tX9_nextToken_0 (lX9_nextToken n) t0 = _ ∧ (_ → uX9_nextToken_0 (qX9_nextToken n) t0)
    unfold tX9_nextToken_0 uX9_nextToken_0
    rw [hy.1, i1]
    by_cases c : q < N
    · have n1 : ¬ zI (N : Int) ≤ zI (q : Int) := by rw [z_le (by omega) (by omega)]; omega
      obtain ⟨b1, b2⟩ := y_byte hy hN c
      obtain ⟨c1, -, -⟩ := y_bk t0 (h.2 q c).1
      have k1 : bI (blk (bt q)) = 0 := by rw [bI_0]; exact fun hc => e4 ⟨c, hc⟩
      rw [if_neg n1, b1, c1, if_pos k1]
      exact ⟨rfl, fun hh => ⟨fun hc => absurd hc n1, fun _ => ⟨b2, fun _ => hh, fun hc => absurd k1 hc⟩⟩⟩
    · have n1 : zI (N : Int) ≤ zI (q : Int) := by rw [z_le (by omega) (by omega)]; omega
      rw [if_pos n1]
      exact ⟨rfl, fun hh => ⟨fun _ => hh, fun hc => absurd n1 hc⟩⟩
  obtain ⟨t1, ht1⟩ : ∃ t1, t1 = pI t0 3 8 (zI (q : Int)) := ⟨_, rfl⟩
  have f1 : Fq (fun c i => c = 3 ∧ (i = 7 ∨ i = 8)) (fun _ _ => False) s t1 := by rw [ht1]; exact Fq_tr (Fq_mo i2 (fun c i hc => by omega) (fun _ _ hc => hc)) (Fq_p _ ⟨rfl, by omega⟩)
  have x8 : gI t1 3 8 = zI (q : Int) := by rw [ht1, gI_pI, if_pos ⟨rfl, rfl⟩]
  have x7 : gI t1 3 7 = zI (q : Int) := by rw [ht1, gI_pI, if_neg (by omega), i1]
  have hy1 := TpY_fq h f1 (fun c i hc => by omega)
  by_cases cN : q < N ∧ q < 600
  · rw [if_pos cN]
    have n1 : ¬ zI (N : Int) ≤ zI (q : Int) := by rw [z_le (by omega) (by omega)]; omega
    have n2 : zI (q : Int) < 600 := by rw [show (600 : Int32) = zI 600 from rfl, z_lt (by omega) (by omega)]; omega
    obtain ⟨b1, b2⟩ := y_byte hy1 hN cN.1
    obtain ⟨-, c2, c3⟩ := y_bk t1 (h.2 q cN.1).1
    by_cases cr : ltr (bt q) ∨ dgt (bt q)
    · rw [if_pos cr]
      obtain ⟨t, r1, r2, r3, r4, r5, r6, r7, r8⟩ := y_run hy1 hN cN.1 cr x7
      have g2 : ST 1 (fun n => (lX9_nextToken n).2.1 t0) (fun n => (qX9_nextToken n).2.1 t0) (fun _ => t) (fun _ => True) := by
        refine ST_1 fun n => ?_
        show tX9_nextToken_39 (lX9_nextToken n) t0 = _ ∧ (_ → uX9_nextToken_39 (qX9_nextToken n) t0)
        unfold tX9_nextToken_39 uX9_nextToken_39
        rw [i1, ← ht1, hy1.1, x7, if_neg n1, if_pos n2, b1, c2, c3, r1]
        by_cases c : ltr (bt q)
        · have k1 : ¬ bI (ltr (bt q)) = 0 := by rw [bI_0]; exact fun hh => hh c
          rw [if_neg k1]
          exact ⟨rfl, fun _ => ⟨fun hc => absurd hc n1, fun _ => ⟨fun _ => ⟨b2, fun _ => r2, fun hc => absurd hc k1⟩, fun hc => absurd n2 hc⟩⟩⟩
        · have k1 : bI (ltr (bt q)) = 0 := by rw [bI_0]; exact c
          have k2 : ¬ bI (dgt (bt q)) = 0 := by rw [bI_0]; exact fun hh => hh (cr.resolve_left c)
          rw [if_pos k1, if_neg k2]
          exact ⟨rfl, fun _ => ⟨fun hc => absurd hc n1, fun _ => ⟨fun _ => ⟨b2, fun hc => absurd k1 hc, fun _ _ => r2⟩, fun hc => absurd n2 hc⟩⟩⟩
      obtain ⟨E, R⟩ := ST_fu (ST_trans st (ST_trans g1 g2)) (by omega)
      exact ⟨t, E, R, Fq_tr (Fq_mo f1 (fun c i hc => by omega) (fun _ _ hc => hc.elim)) r3, r6, by rw [r4, x8], r5, fun _ => r7, fun _ => r8⟩
    · rw [if_neg cr]
      have k1 : bI (ltr (bt q)) = 0 := by rw [bI_0]; exact fun hc => cr (Or.inl hc)
      have k2 : bI (dgt (bt q)) = 0 := by rw [bI_0]; exact fun hc => cr (Or.inr hc)
      obtain ⟨S, hS⟩ : ∃ S : Int, S = if bt q = 59 then 3 else 4 := ⟨_, rfl⟩
      have eS : (if zI (bt q) = 59 then (3 : Int32) else 4) = zI S := by
        have hb := (h.2 q cN.1).1
        rw [hS]
        by_cases c : bt q = 59
        · rw [if_pos c, if_pos (by rw [c]; rfl)]; rfl
        · rw [if_neg c, if_neg (by rw [show (59 : Int32) = zI 59 from rfl, z_eq (by omega) (by omega)]; exact c)]; rfl
      have hS2 : S = 3 ∨ S = 4 := by rw [hS]; split; exact Or.inl rfl; exact Or.inr rfl
      obtain ⟨t, ht⟩ : ∃ t, t = pI (pI t1 3 9 (zI S)) 3 7 (zI ((q + 1 : Nat) : Int)) := ⟨_, rfl⟩
      have e7 : gI (pI t1 3 9 (zI S)) 3 7 + 1 = zI ((q + 1 : Nat) : Int) := by rw [gI_pI, if_neg (by omega), x7, zl1, z_add]; congr 1
      have g2 : ST 1 (fun n => (lX9_nextToken n).2.1 t0) (fun n => (qX9_nextToken n).2.1 t0) (fun _ => t) (fun _ => True) := by
        refine ST_1 fun n => ?_
        show tX9_nextToken_39 (lX9_nextToken n) t0 = _ ∧ (_ → uX9_nextToken_39 (qX9_nextToken n) t0)
        unfold tX9_nextToken_39 uX9_nextToken_39
        rw [i1, ← ht1, hy1.1, x7, if_neg n1, if_pos n2, b1, c2, c3, if_pos k1, if_pos k2, eS]
        dsimp only
        rw [e7, ← ht]
        exact ⟨rfl, fun _ => ⟨fun hc => absurd hc n1, fun _ => ⟨fun _ => ⟨b2, fun hc => absurd k1 hc, fun _ hc => absurd k2 hc⟩, fun hc => absurd n2 hc⟩⟩⟩
      obtain ⟨E, R⟩ := ST_fu (ST_trans st (ST_trans g1 g2)) (by omega)
      rw [← hS]
      refine ⟨t, E, R, ?_, ?_, ?_, ?_, fun hc => absurd hc (by show ¬ S = 1; omega), fun hc => absurd hc (by show ¬ S = 2; omega)⟩
      · rw [ht]
        exact Fq_tr (Fq_mo f1 (fun c i hc => by omega) (fun _ _ hc => hc.elim)) (Fq_tr (Fq_p _ (by omega)) (Fq_p _ (by omega)))
      · rw [ht, gI_pI, if_neg (by omega), gI_pI, if_pos ⟨rfl, rfl⟩]
      · rw [ht, gI_pI, if_neg (by omega), gI_pI, if_neg (by omega), x8]
      · rw [ht, gI_pI, if_pos ⟨rfl, rfl⟩]
  · rw [if_neg cN]
    obtain ⟨t, ht⟩ : ∃ t, t = pI (pI t1 3 8 (zI ((min N 600 : Nat) : Int))) 3 9 0 := ⟨_, rfl⟩
    have em : (if 600 < zI (N : Int) then (600 : Int32) else zI (N : Int)) = zI ((min N 600 : Nat) : Int) := by
      by_cases c : 600 < N
      · rw [if_pos (by rw [show (600 : Int32) = zI 600 from rfl, z_lt (by omega) (by omega)]; omega), show min N 600 = 600 by omega]; rfl
      · rw [if_neg (by rw [show (600 : Int32) = zI 600 from rfl, z_lt (by omega) (by omega)]; omega), show min N 600 = N by omega]
    have g2 : ST 1 (fun n => (lX9_nextToken n).2.1 t0) (fun n => (qX9_nextToken n).2.1 t0) (fun n => (lX9_nextToken n).2.2 t1) (fun n => (qX9_nextToken n).2.2 t1) := by
      refine ST_1 fun n => ?_
      show tX9_nextToken_39 (lX9_nextToken n) t0 = _ ∧ (_ → uX9_nextToken_39 (qX9_nextToken n) t0)
      unfold tX9_nextToken_39 uX9_nextToken_39
      rw [i1, ← ht1, hy1.1, x7]
      by_cases c : q < N
      · have n1 : ¬ zI (N : Int) ≤ zI (q : Int) := by rw [z_le (by omega) (by omega)]; omega
        have n2 : ¬ zI (q : Int) < 600 := by rw [show (600 : Int32) = zI 600 from rfl, z_lt (by omega) (by omega)]; omega
        rw [if_neg n1, if_neg n2]
        exact ⟨rfl, fun hh => ⟨fun hc => absurd hc n1, fun _ => ⟨fun hc => absurd hc n2, fun _ => hh⟩⟩⟩
      · have n1 : zI (N : Int) ≤ zI (q : Int) := by rw [z_le (by omega) (by omega)]; omega
        rw [if_pos n1]
        exact ⟨rfl, fun hh => ⟨fun _ => hh, fun hc => absurd n1 hc⟩⟩
    have g3 : ST 1 (fun n => (lX9_nextToken n).2.2 t1) (fun n => (qX9_nextToken n).2.2 t1) (fun _ => t) (fun _ => True) := by
      refine ST_1 fun n => ?_
      show tX9_nextToken_68 (lX9_nextToken n) t1 = _ ∧ (_ → uX9_nextToken_68 (qX9_nextToken n) t1)
      unfold tX9_nextToken_68 uX9_nextToken_68
      rw [hy1.1, em, ← ht]
      exact ⟨rfl, fun _ => trivial⟩
    obtain ⟨E, R⟩ := ST_fu (ST_trans st (ST_trans g1 (ST_trans g2 g3))) (by omega)
    refine ⟨t, E, R, ?_, ?_, ?_, ?_, fun hc => absurd hc (by show ¬ (0 : Int) = 1; omega), fun hc => absurd hc (by show ¬ (0 : Int) = 2; omega)⟩
    · rw [ht]
      exact Fq_tr (Fq_mo f1 (fun c i hc => by omega) (fun _ _ hc => hc.elim)) (Fq_tr (Fq_p _ (by omega)) (Fq_p _ (by omega)))
    · rw [ht, gI_pI, if_pos ⟨rfl, rfl⟩]; rfl
    · rw [ht, gI_pI, if_neg (by omega), gI_pI, if_pos ⟨rfl, rfl⟩]
    · rw [ht, gI_pI, if_neg (by omega), gI_pI, if_neg (by omega), x7]
end
