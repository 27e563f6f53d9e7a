-- needs: 6d.skin
/-! the tokens of a text -/
def Fq (A B : Nat → Nat → Prop) (s t : SM) : Prop := (∀ c i, ¬ A c i → gI t c i = gI s c i) ∧ (∀ c i, ¬ B c i → gL t c i = gL s c i) ∧ t.2.2.2 = s.2.2.2
theorem Fq_rf (A B : Nat → Nat → Prop) (s : SM) : Fq A B s s := ⟨fun _ _ _ => rfl, fun _ _ _ => rfl, rfl⟩
theorem Fq_tr {A B : Nat → Nat → Prop} {s t u : SM} (h1 : Fq A B s t) (h2 : Fq A B t u) : Fq A B s u := ⟨fun c i hc => (h2.1 c i hc).trans (h1.1 c i hc), fun c i hc => (h2.2.1 c i hc).trans (h1.2.1 c i hc), h2.2.2.trans h1.2.2⟩
theorem Fq_mo {A B A' B' : Nat → Nat → Prop} {s t : SM} (h : Fq A B s t) (hA : ∀ c i, A c i → A' c i) (hB : ∀ c i, B c i → B' c i) : Fq A' B' s t := ⟨fun c i hc => h.1 c i (fun ha => hc (hA c i ha)), fun c i hc => h.2.1 c i (fun ha => hc (hB c i ha)), h.2.2⟩
theorem Fq_fp {A B : Nat → Nat → Prop} {s t : SM} (h : Fp A s t) : Fq A B s t := ⟨h.1, fun c i _ => by rw [h.2.1], h.2.2⟩
theorem Fq_p {A B : Nat → Nat → Prop} (s : SM) {c i : Nat} {v : Int32} (h : A c i) : Fq A B s (pI s c i v) := Fq_fp (Fp_p s h)
theorem Fq_L {A B : Nat → Nat → Prop} (s : SM) {c i : Nat} {v : Int64} (h : B c i) : Fq A B s (pL s c i v) := ⟨fun _ _ _ => rfl, fun c' i' hc => by rw [gL_pL, if_neg (fun hq => hc (by rw [hq.1, hq.2]; exact h))], rfl⟩
abbrev TkI (c i : Nat) : Prop := c = 3 ∧ (i = 5 ∨ i = 7 ∨ i = 8 ∨ i = 9)
abbrev TkL (c i : Nat) : Prop := c = 3 ∧ i = 4
abbrev TxI (c i : Nat) : Prop := c = 248 ∧ (i = 4 ∨ i = 11 ∨ i = 12 ∨ i = 13 ∨ i = 14)
abbrev TxL (c i : Nat) : Prop := c = 248 ∧ i = 17
abbrev blk (c : Int) : Prop := c = 32 ∨ c = 10
abbrev ltr (c : Int) : Prop := 97 ≤ c ∧ c ≤ 122
abbrev dgt (c : Int) : Prop := 48 ≤ c ∧ c ≤ 57
section
variable (N : Nat) (bt : Nat → Int)
def skp : Nat → Nat → Nat
  | 0, p => p
  | k + 1, p => if p < N ∧ blk (bt p) then skp k (p + 1) else p
def rnE : Nat → Nat → Nat
  | 0, p => p
  | k + 1, p => if p < N ∧ (ltr (bt p) ∨ dgt (bt p)) then rnE k (p + 1) else p
theorem skp_a : ∀ k p, p ≤ skp N bt k p ∧ skp N bt k p ≤ max p N ∧ (∀ j, p ≤ j → j < skp N bt k p → blk (bt j)) ∧ (N ≤ p + k → ¬ (skp N bt k p < N ∧ blk (bt (skp N bt k p)))) := by
  intro k
  induction k with
  | zero => intro p; exact ⟨Nat.le_refl _, by show p ≤ _; omega, fun j h1 h2 => by have : j < p := h2; omega, fun h => by show ¬ (p < N ∧ _); omega⟩
  | succ k ih =>
    intro p
    unfold skp
    by_cases c : p < N ∧ blk (bt p)
    · rw [if_pos c]
      obtain ⟨a, b, d, e⟩ := ih (p + 1)
      refine ⟨by omega, by omega, fun j h1 h2 => ?_, fun h => e (by omega)⟩
      by_cases hj : j = p
      · rw [hj]; exact c.2
      · exact d j (by omega) h2
    · rw [if_neg c]
      exact ⟨Nat.le_refl _, by omega, fun j h1 h2 => by omega, fun _ => c⟩
theorem rnE_a : ∀ k p, p ≤ rnE N bt k p ∧ rnE N bt k p ≤ max p N ∧ (∀ j, p ≤ j → j < rnE N bt k p → ltr (bt j) ∨ dgt (bt j)) ∧ (N ≤ p + k → ¬ (rnE N bt k p < N ∧ (ltr (bt (rnE N bt k p)) ∨ dgt (bt (rnE N bt k p))))) := by
  intro k
  induction k with
  | zero => intro p; exact ⟨Nat.le_refl _, by show p ≤ _; omega, fun j h1 h2 => by have : j < p := h2; omega, fun h => by show ¬ (p < N ∧ _); omega⟩
  | succ k ih =>
    intro p
    unfold rnE
    by_cases c : p < N ∧ (ltr (bt p) ∨ dgt (bt p))
    · rw [if_pos c]
      obtain ⟨a, b, d, e⟩ := ih (p + 1)
      refine ⟨by omega, by omega, fun j h1 h2 => ?_, fun h => e (by omega)⟩
      by_cases hj : j = p
      · rw [hj]; exact c.2
      · exact d j (by omega) h2
    · rw [if_neg c]
      exact ⟨Nat.le_refl _, by omega, fun j h1 h2 => by omega, fun _ => c⟩
end
section
variable (bt : Nat → Int)
def wdF (q : Nat) : Nat → Int64
  | 0 => 0
  | k + 1 => ((wdF q k) <<< ((8 : Int32).toInt64 &&& 63)) ||| (zI (bt (q + k))).toInt64
def nmF (q : Nat) : Nat → Int32
  | 0 => 0
  | k + 1 => nmF q k * 10 + (zI (bt (q + k)) - 48)
def ltF (q : Nat) : Nat → Nat
  | 0 => 0
  | k + 1 => ltF q k + if ltr (bt (q + k)) then 1 else 0
def dgF (q : Nat) : Nat → Nat
  | 0 => 0
  | k + 1 => dgF q k + if dgt (bt (q + k)) then 1 else 0
theorem lt_dg (q : Nat) : ∀ k, (∀ j, j < k → ltr (bt (q + j)) ∨ dgt (bt (q + j))) → ltF bt q k + dgF bt q k = k := by
  intro k
  induction k with
  | zero => intro _; rfl
  | succ k ih =>
    intro h
    have h1 := ih (fun j hj => h j (by omega))
    have h2 := h k (by omega)
    unfold ltF dgF
    by_cases c1 : ltr (bt (q + k)) <;> by_cases c2 : dgt (bt (q + k))
    · omega
    · rw [if_pos c1, if_neg c2]; omega
    · rw [if_neg c1, if_pos c2]; omega
    · exact absurd h2 (by omega)
def srt (l d : Nat) : Int := if d = 0 ∧ l ≤ 7 then 1 else if l = 0 ∧ d ≤ 2 then 2 else 4
end
/-- the token from p on: its sort, its start, where it ends -/
abbrev Tok := Int × Nat × Nat × Int64 × Int32
def tokF (N : Nat) (bt : Nat → Int) (p : Nat) : Tok :=
  if skp N bt N p < N ∧ skp N bt N p < 600 then
    if ltr (bt (skp N bt N p)) ∨ dgt (bt (skp N bt N p)) then
      (srt (ltF bt (skp N bt N p) (rnE N bt N (skp N bt N p) - skp N bt N p)) (dgF bt (skp N bt N p) (rnE N bt N (skp N bt N p) - skp N bt N p)), skp N bt N p, rnE N bt N (skp N bt N p), wdF bt (skp N bt N p) (rnE N bt N (skp N bt N p) - skp N bt N p), nmF bt (skp N bt N p) (rnE N bt N (skp N bt N p) - skp N bt N p))
    else (if bt (skp N bt N p) = 59 then 3 else 4, skp N bt N p, skp N bt N p + 1, 0, 0)
  else (0, min N 600, skp N bt N p, 0, 0)
section
variable {s : SM} {N : Nat} {bt : Nat → Int}
theorem y_bk (t : SM) {c : Int} (h : 0 ≤ c ∧ c < 256) : vX9_isBlank t (zI c) = bI (blk c) ∧ vX9_isLetter t (zI c) = bI (ltr c) ∧ vX9_isDigit t (zI c) = bI (dgt c) := by
  unfold vX9_isBlank vX9_isLetter vX9_isDigit bI
  rw [show (32 : Int32) = zI 32 from rfl, show (10 : Int32) = zI 10 from rfl, show (97 : Int32) = zI 97 from rfl, show (122 : Int32) = zI 122 from rfl, show (48 : Int32) = zI 48 from rfl, show (57 : Int32) = zI 57 from rfl]
  simp only [z_eq (show IR c by omega) (show IR 32 by omega), z_eq (show IR c by omega) (show IR 10 by omega), z_lt (show IR c by omega) (show IR 97 by omega), z_lt (show IR 122 by omega) (show IR c by omega), z_lt (show IR c by omega) (show IR 48 by omega), z_lt (show IR 57 by omega) (show IR c by omega)]
  refine ⟨?_, ?_, ?_⟩
  · by_cases c1 : c = 32
    · rw [if_pos c1, if_pos (Or.inl c1)]
    · rw [if_neg c1]
      by_cases c2 : c = 10
      · rw [if_pos c2, if_pos (Or.inr c2)]
      · rw [if_neg c2, if_neg (by omega)]
  · by_cases c1 : c < 97
    · rw [if_pos c1, if_neg (by omega)]
    · rw [if_neg c1]
      by_cases c2 : 122 < c
      · rw [if_pos c2, if_neg (by omega)]
      · rw [if_neg c2, if_pos (by omega)]
  · by_cases c1 : c < 48
    · rw [if_pos c1, if_neg (by omega)]
    · rw [if_neg c1]
      by_cases c2 : 57 < c
      · rw [if_pos c2, if_neg (by omega)]
      · rw [if_neg c2, if_pos (by omega)]
theorem TpY_fq {t : SM} {A B : Nat → Nat → Prop} (h : TpY s N bt) (hf : Fq A B s t) (hA : ∀ c i, (c = 3 ∧ i = 1) ∨ c = 4 → ¬ A c i) : TpY t N bt := ⟨by rw [hf.1 3 1 (hA _ _ (by omega))]; exact h.1, fun i hi => by rw [hf.1 4 i (hA _ _ (by omega))]; exact h.2 i hi⟩
theorem y_byte (h : TpY s N bt) (hN : N ≤ 640) {j : Nat} (hj : j < N) : vX9_byteOr s (zI (j : Int)) 0 = zI (bt j) ∧ rX9_byteOr s (zI (j : Int)) 0 := y_byteOr hN h.1 (fun i hi => (h.2 i hi).2) hj 0
theorem y_run (h : TpY s N bt) (hN : N ≤ 640) {q : Nat} (hq : q < N) (hc : ltr (bt q) ∨ dgt (bt q)) (h7 : gI s 3 7 = zI (q : Int)) : ∃ t, mX9_readRun s = t ∧ rX9_readRun s ∧ Fq TkI TkL s t ∧ gI t 3 8 = gI s 3 8 ∧ gI t 3 7 = zI (rnE N bt N q : Int) ∧ gI t 3 9 = zI (srt (ltF bt q (rnE N bt N q - q)) (dgF bt q (rnE N bt N q - q))) ∧ gL t 3 4 = wdF bt q (rnE N bt N q - q) ∧ gI t 3 5 = nmF bt q (rnE N bt N q - q) := by
  obtain ⟨e1, e2, e3, e4⟩ := rnE_a N bt N q
  have e4 := e4 (by omega)
  obtain ⟨E, hE⟩ : ∃ E, E = rnE N bt N q := ⟨_, rfl⟩
  rw [← hE] at e1 e2 e3 e4 ⊢
  obtain ⟨m, hm⟩ : ∃ m, m = E - q := ⟨_, rfl⟩
  rw [← hm]
  have hsum : ∀ k, k ≤ m → ltF bt q k + dgF bt q k = k := fun k hk => lt_dg bt q k (fun j hj => e3 (q + j) (by omega) (by omega))
  obtain ⟨t, ⟨i1, i2, i3, i4, i5⟩, st⟩ := ST_up (B := 2) m (fun (k : Nat) (t : SM) => gI t 3 7 = zI ((q + k : Nat) : Int) ∧ gL t 3 4 = wdF bt q k ∧ gI t 3 5 = nmF bt q k ∧ gI t 3 8 = gI s 3 8 ∧ Fq TkI TkL s t) (fun k t n => (lX9_readRun n).1 t (zI (ltF bt q k : Int)) (zI (dgF bt q k : Int))) (fun k t n => (qX9_readRun n).1 t (zI (ltF bt q k : Int)) (zI (dgF bt q k : Int))) (fun k t hk ⟨a1, a2, a3, a4, a5⟩ => by
    have hy := TpY_fq h a5 (fun c i hc => by omega)
    have hlt : q + k < N := by omega
    have hb := (h.2 (q + k) hlt).1
    obtain ⟨b1, b2⟩ := y_byte hy hN hlt
    obtain ⟨-, c2, c3⟩ := y_bk t hb
    have hr := e3 (q + k) (by omega) (by omega)
    have n1 : ¬ zI (N : Int) ≤ zI ((q + k : Nat) : Int) := by rw [z_le (by omega) (by omega)]; omega
    have el : zI (ltF bt q k : Int) + (if bI (ltr (bt (q + k))) = 0 then 0 else 1) = zI (ltF bt q (k + 1) : Int) := by
      have e : ltF bt q (k + 1) = ltF bt q k + if ltr (bt (q + k)) then 1 else 0 := rfl
      rw [e]
      by_cases c : ltr (bt (q + k))
      · rw [if_neg (by rw [bI_0]; exact fun hh => hh c), if_pos c, zl1, z_add]; congr 1
      · rw [if_pos (by rw [bI_0]; exact c), if_neg c, zl0, z_add]; congr 1
    have ed : zI (dgF bt q k : Int) + (if bI (dgt (bt (q + k))) = 0 then 0 else 1) = zI (dgF bt q (k + 1) : Int) := by
      have e : dgF bt q (k + 1) = dgF bt q k + if dgt (bt (q + k)) then 1 else 0 := rfl
      rw [e]
      by_cases c : dgt (bt (q + k))
      · rw [if_neg (by rw [bI_0]; exact fun hh => hh c), if_pos c, zl1, z_add]; congr 1
      · rw [if_pos (by rw [bI_0]; exact c), if_neg c, zl0, z_add]; congr 1
    obtain ⟨t1, ht1⟩ : ∃ t1, t1 = pI (pL t 3 4 (wdF bt q (k + 1))) 3 5 (nmF bt q (k + 1)) := ⟨_, rfl⟩
    obtain ⟨t2, ht2⟩ : ∃ t2, t2 = pI t1 3 7 (zI ((q + (k + 1) : Nat) : Int)) := ⟨_, rfl⟩
    have f1 : Fq TkI TkL t t1 := by rw [ht1]; exact Fq_tr (Fq_L t ⟨rfl, rfl⟩) (Fq_p _ ⟨rfl, Or.inl rfl⟩)
    have f2 : Fq TkI TkL t t2 := by rw [ht2]; exact Fq_tr f1 (Fq_p _ ⟨rfl, by omega⟩)
    have g7 : gI t1 3 7 + 1 = zI ((q + (k + 1) : Nat) : Int) := by
      rw [ht1, gI_pI, if_neg (by omega), gI_pL, a1, zl1, z_add]; congr 1
    refine ⟨t2, ⟨?_, ?_, ?_, ?_, Fq_tr a5 f2⟩, ST_trans (B1 := 1) (B2 := 1) (ST_1 (F' := fun n => (lX9_readRun n).2.1 t (zI (ltF bt q k : Int)) (zI (dgF bt q k : Int))) (C' := fun n => (qX9_readRun n).2.1 t (zI (ltF bt q k : Int)) (zI (dgF bt q k : Int))) (fun n => ?_)) (ST_1 fun n => ?_)⟩
    · rw [ht2, gI_pI, if_pos ⟨rfl, rfl⟩]
    · rw [ht2, ht1, gL_pI, gL_pI, gL_pL, if_pos ⟨rfl, rfl⟩]
    · rw [ht2, gI_pI, if_neg (by omega), ht1, gI_pI, if_pos ⟨rfl, rfl⟩]
    · rw [ht2, gI_pI, if_neg (by omega), ht1, gI_pI, if_neg (by omega), gI_pL]; exact a4
    · show tX9_readRun_14 (lX9_readRun n) t _ _ = _ ∧ (_ → uX9_readRun_14 (qX9_readRun n) t _ _)
      unfold tX9_readRun_14 uX9_readRun_14
      rw [hy.1, a1, if_neg n1, b1, c2, c3]
      by_cases c : ltr (bt (q + k))
      · have k1 : ¬ bI (ltr (bt (q + k))) = 0 := by rw [bI_0]; exact fun hh => hh c
        rw [if_neg k1]
        exact ⟨rfl, fun hh => ⟨fun hc => absurd hc n1, fun _ => ⟨b2, fun _ => hh, fun hc => absurd hc k1⟩⟩⟩
      · have k1 : bI (ltr (bt (q + k))) = 0 := by rw [bI_0]; exact c
        have k2 : ¬ bI (dgt (bt (q + k))) = 0 := by rw [bI_0]; exact fun hh => hh (hr.resolve_left c)
        rw [if_pos k1, if_neg k2]
        exact ⟨rfl, fun hh => ⟨fun hc => absurd hc n1, fun _ => ⟨b2, fun hc => absurd k1 hc, fun _ => ⟨b2, fun hc => absurd hc k2, fun _ => hh⟩⟩⟩⟩
    · show tX9_readRun_55 (lX9_readRun n) t _ _ = _ ∧ (_ → uX9_readRun_55 (qX9_readRun n) t _ _)
      have e5 : (gL t 3 4 <<< ((8 : Int32).toInt64 &&& 63)) ||| (zI (bt (q + k))).toInt64 = wdF bt q (k + 1) := by rw [a2]; rfl
      have e6 : gI (pL t 3 4 (wdF bt q (k + 1))) 3 5 * 10 + (zI (bt (q + k)) - 48) = nmF bt q (k + 1) := by rw [gI_pL, a3]; rfl
      unfold tX9_readRun_55 uX9_readRun_55
      rw [a1, b1, c2, c3, e5, e6, el, ed, ← ht1]
      dsimp only
      rw [g7, ← ht2]
      exact ⟨rfl, fun hh => ⟨b2, fun s1 hs => by rw [hs, g7, ← ht2]; exact hh⟩⟩) m 0 (pI (pL s 3 4 0) 3 5 0) (by omega) ⟨by rw [gI_pI, if_neg (by omega), gI_pL, h7]; rfl, by rw [gL_pI, gL_pL, if_pos ⟨rfl, rfl⟩]; rfl, by rw [gI_pI, if_pos ⟨rfl, rfl⟩]; rfl, by rw [gI_pI, if_neg (by omega), gI_pL], Fq_tr (Fq_L s ⟨rfl, rfl⟩) (Fq_p _ ⟨rfl, Or.inl rfl⟩)⟩
  have hy := TpY_fq h i5 (fun c i hc => by omega)
  have hs := hsum m (Nat.le_refl _)
  have hqm : q + m = E := by omega
  have m1 : 1 ≤ m := by
    by_cases hh : E = q
    · rw [hh] at e4; exact absurd ⟨hq, hc⟩ e4
    · omega
  rw [hqm] at i1
  obtain ⟨t1, ht1⟩ : ∃ t1, t1 = (if zI (dgF bt q m : Int) = 0 then (if 7 < zI (ltF bt q m : Int) then pI t 3 9 4 else pI (pI t 3 9 4) 3 9 1) else pI t 3 9 4) := ⟨_, rfl⟩
  obtain ⟨t2, ht2⟩ : ∃ t2, t2 = (if zI (ltF bt q m : Int) = 0 then (if 2 < zI (dgF bt q m : Int) then t1 else pI t1 3 9 2) else t1) := ⟨_, rfl⟩
  have d0 : zI (dgF bt q m : Int) = 0 ↔ dgF bt q m = 0 := by rw [zl0, z_eq (by omega) (by omega)]; omega
  have l0 : zI (ltF bt q m : Int) = 0 ↔ ltF bt q m = 0 := by rw [zl0, z_eq (by omega) (by omega)]; omega
  have l7 : 7 < zI (ltF bt q m : Int) ↔ 7 < ltF bt q m := by rw [show (7 : Int32) = zI 7 from rfl, z_lt (by omega) (by omega)]; omega
  have d2 : 2 < zI (dgF bt q m : Int) ↔ 2 < dgF bt q m := by rw [show (2 : Int32) = zI 2 from rfl, z_lt (by omega) (by omega)]; omega
  have r1 : Fq (fun c i => c = 3 ∧ i = 9) (fun _ _ => False) t t1 ∧ gI t1 3 9 = (if dgF bt q m = 0 ∧ ltF bt q m ≤ 7 then 1 else 4) := by
    rw [ht1]
    by_cases c1 : dgF bt q m = 0
    · rw [if_pos (d0.mpr c1)]
      by_cases c2 : 7 < ltF bt q m
      · rw [if_pos (l7.mpr c2), if_neg (by omega), gI_pI, if_pos ⟨rfl, rfl⟩]; exact ⟨Fq_p _ ⟨rfl, rfl⟩, rfl⟩
      · rw [if_neg (fun hc => c2 (l7.mp hc)), if_pos (by omega), gI_pI, if_pos ⟨rfl, rfl⟩]; exact ⟨Fq_tr (Fq_p _ ⟨rfl, rfl⟩) (Fq_p _ ⟨rfl, rfl⟩), rfl⟩
    · rw [if_neg (fun hc => c1 (d0.mp hc)), if_neg (by omega), gI_pI, if_pos ⟨rfl, rfl⟩]; exact ⟨Fq_p _ ⟨rfl, rfl⟩, rfl⟩
  have r2 : Fq (fun c i => c = 3 ∧ i = 9) (fun _ _ => False) t1 t2 ∧ gI t2 3 9 = zI (srt (ltF bt q m) (dgF bt q m)) := by
    rw [ht2]
    unfold srt
    by_cases c1 : ltF bt q m = 0
    · have k1 : ¬ (dgF bt q m = 0 ∧ ltF bt q m ≤ 7) := by omega
      rw [if_pos (l0.mpr c1)]
      by_cases c2 : 2 < dgF bt q m
      · have k2 : ¬ (ltF bt q m = 0 ∧ dgF bt q m ≤ 2) := by omega
        rw [if_pos (d2.mpr c2), r1.2, if_neg k1, if_neg k1, if_neg k2]; exact ⟨Fq_rf _ _ _, rfl⟩
      · have k2 : ltF bt q m = 0 ∧ dgF bt q m ≤ 2 := by omega
        rw [if_neg (fun hc => c2 (d2.mp hc)), if_neg k1, if_pos k2, gI_pI, if_pos ⟨rfl, rfl⟩]; exact ⟨Fq_p _ ⟨rfl, rfl⟩, rfl⟩
    · rw [if_neg (fun hc => c1 (l0.mp hc)), r1.2]
      refine ⟨Fq_rf _ _ _, ?_⟩
      by_cases c2 : dgF bt q m = 0 ∧ ltF bt q m ≤ 7
      · rw [if_pos c2, if_pos c2]; rfl
      · rw [if_neg c2, if_neg c2, if_neg (by omega)]; rfl
  have n1 : zI (N : Int) ≤ zI (E : Int) ∨ (E < N ∧ ¬ (ltr (bt E) ∨ dgt (bt E))) := by
    rw [z_le (by omega) (by omega)]
    by_cases hh : E < N
    · exact Or.inr ⟨hh, fun hc => e4 ⟨hh, hc⟩⟩
    · exact Or.inl (by omega)
  have g1 : ST 1 (fun n => (lX9_readRun n).1 t (zI (ltF bt q m : Int)) (zI (dgF bt q m : Int))) (fun n => (qX9_readRun n).1 t (zI (ltF bt q m : Int)) (zI (dgF bt q m : Int))) (fun n => (lX9_readRun n).2.2.1 t (zI (ltF bt q m : Int)) (zI (dgF bt q m : Int))) (fun n => (qX9_readRun n).2.2.1 t (zI (ltF bt q m : Int)) (zI (dgF bt q m : Int))) := by
    refine ST_1 fun n => ?_
    show tX9_readRun_14 (lX9_readRun n) t _ _ = _ ∧ (_ → uX9_readRun_14 (qX9_readRun n) t _ _)
    unfold tX9_readRun_14 uX9_readRun_14
    rw [hy.1, i1]
    rcases n1 with n1 | ⟨n1, n2⟩
    · rw [if_pos n1]
      exact ⟨rfl, fun hh => ⟨fun _ => hh, fun hc => absurd n1 hc⟩⟩
    · have n3 : ¬ zI (N : Int) ≤ zI (E : Int) := by rw [z_le (by omega) (by omega)]; omega
      obtain ⟨b1, b2⟩ := y_byte hy hN n1
      obtain ⟨-, c2, c3⟩ := y_bk t (h.2 E n1).1
      have k1 : bI (ltr (bt E)) = 0 := by rw [bI_0]; exact fun hc => n2 (Or.inl hc)
      have k2 : bI (dgt (bt E)) = 0 := by rw [bI_0]; exact fun hc => n2 (Or.inr hc)
      rw [if_neg n3, b1, c2, c3, if_pos k1, if_pos k2]
      exact ⟨rfl, fun hh => ⟨fun hc => absurd hc n3, fun _ => ⟨b2, fun hc => absurd k1 hc, fun _ => ⟨b2, fun _ => hh, fun hc => absurd k2 hc⟩⟩⟩⟩
  have g2 : ST 1 (fun n => (lX9_readRun n).2.2.1 t (zI (ltF bt q m : Int)) (zI (dgF bt q m : Int))) (fun n => (qX9_readRun n).2.2.1 t (zI (ltF bt q m : Int)) (zI (dgF bt q m : Int))) (fun n => (lX9_readRun n).2.2.2 t1 (zI (ltF bt q m : Int)) (zI (dgF bt q m : Int))) (fun n => (qX9_readRun n).2.2.2 t1 (zI (ltF bt q m : Int)) (zI (dgF bt q m : Int))) := by
    refine ST_1 fun n => ?_
    show tX9_readRun_138 (lX9_readRun n) t _ _ = _ ∧ (_ → uX9_readRun_138 (qX9_readRun n) t _ _)
    unfold tX9_readRun_138 uX9_readRun_138
    rw [ht1]
    by_cases c1 : zI (dgF bt q m : Int) = 0
    · by_cases c2 : 7 < zI (ltF bt q m : Int)
      · rw [if_pos c1, if_pos c2, if_pos c1, if_pos c2]
        exact ⟨rfl, fun hh => ⟨fun hc => absurd c1 hc, fun _ => ⟨fun _ => hh, fun hc => absurd c2 hc⟩⟩⟩
      · rw [if_pos c1, if_neg c2, if_pos c1, if_neg c2]
        exact ⟨rfl, fun hh => ⟨fun hc => absurd c1 hc, fun _ => ⟨fun hc => absurd hc c2, fun _ => hh⟩⟩⟩
    · rw [if_neg c1, if_neg c1]
      exact ⟨rfl, fun hh => ⟨fun _ => hh, fun hc => absurd hc c1⟩⟩
  have g3 : ST 1 (fun n => (lX9_readRun n).2.2.2 t1 (zI (ltF bt q m : Int)) (zI (dgF bt q m : Int))) (fun n => (qX9_readRun n).2.2.2 t1 (zI (ltF bt q m : Int)) (zI (dgF bt q m : Int))) (fun _ => t2) (fun _ => True) := by
    refine ST_1 fun n => ?_
    show tX9_readRun_158 (lX9_readRun n) t1 (zI (ltF bt q m : Int)) (zI (dgF bt q m : Int)) = _ ∧ (_ → uX9_readRun_158 (qX9_readRun n) t1 (zI (ltF bt q m : Int)) (zI (dgF bt q m : Int)))
    unfold tX9_readRun_158 uX9_readRun_158
    rw [ht2]
    exact ⟨rfl, fun _ => trivial⟩
  obtain ⟨EE, RR⟩ := ST_fu (ST_trans st (ST_trans g1 (ST_trans g2 g3))) (by omega)
  have ff := Fq_tr r1.1 r2.1
  refine ⟨t2, EE, RR, Fq_tr i5 (Fq_mo ff (fun c i hc => by omega) (fun _ _ hc => hc.elim)), ?_, ?_, r2.2, ?_, ?_⟩
  · rw [ff.1 3 8 (by omega), i4]
  · rw [ff.1 3 7 (by omega), i1]
  · rw [ff.2.1 3 4 (fun h => h), i2]
  · rw [ff.1 3 5 (by omega), i3]
end
