-- needs: 6i.tak
abbrev YtI (c i : Nat) : Prop := c = 3 ∧ (i = 2 ∨ i = 3 ∨ i = 5 ∨ i = 6 ∨ i = 7 ∨ i = 8 ∨ i = 9)
abbrev XtI (c i : Nat) : Prop := c = 248 ∧ (i = 4 ∨ i = 11 ∨ i = 12 ∨ i = 13 ∨ i = 14 ∨ i = 15 ∨ i = 16 ∨ i = 18)
def FtY (s : SM) (f : Int) (A : Nat) : Prop := gI s 3 2 = zI f ∧ gI s 3 3 = zI (A : Int)
def FtX (t : SM) (f : Int) (A : Nat) : Prop := gI t 248 15 = zI f ∧ gI t 248 16 = zI (A : Int)
abbrev nuOk (k : Tok) (lo hi : Int32) : Prop := k.1 = 2 ∧ ¬ k.2.2.2.2 < lo ∧ k.2.2.2.2 ≤ hi
section
variable {s : SM} {N : Nat} {bt : Nat → Int} {k : Tok}
theorem y_ref (h : TkY s k) (f : Int32) : vX9_refuse s f = 0 ∧ FtY (mX9_refuse s f) f.toInt k.2.1 ∧ Fq YtI TkL s (mX9_refuse s f) := by
  refine ⟨rfl, ⟨?_, ?_⟩, Fq_tr (Fq_p _ (by omega)) (Fq_p _ (by omega))⟩
  · unfold mX9_refuse; rw [gI_pI, if_neg (by omega), gI_pI, if_pos ⟨rfl, rfl⟩, zI_tI]
  · unfold mX9_refuse; rw [gI_pI, if_pos ⟨rfl, rfl⟩, gI_pI, if_neg (by omega)]; exact h.2.1
theorem x_bad (h : TkX s N k) (f : Int32) : vX12_bad s f = 0 ∧ FtX (mX12_bad s f) f.toInt k.2.1 ∧ Fq XtI TxL s (mX12_bad s f) := by
  refine ⟨rfl, ⟨?_, ?_⟩, Fq_tr (Fq_p _ (by omega)) (Fq_p _ (by omega))⟩
  · unfold mX12_bad; rw [gI_pI, if_neg (by omega), gI_pI, if_pos ⟨rfl, rfl⟩, zI_tI]
  · unfold mX12_bad; rw [gI_pI, if_pos ⟨rfl, rfl⟩, gI_pI, if_neg (by omega)]; exact h.2.1
theorem TkY_fq {t : SM} {A B : Nat → Nat → Prop} (h : TkY s k) (hf : Fq A B s t) (hA : ∀ c i, TkI c i → ¬ A c i) (hB : ∀ c i, TkL c i → ¬ B c i) : TkY t k := ⟨by rw [hf.1 3 9 (hA _ _ (by omega))]; exact h.1, by rw [hf.1 3 8 (hA _ _ (by omega))]; exact h.2.1, by rw [hf.1 3 7 (hA _ _ (by omega))]; exact h.2.2.1, fun hk => by rw [hf.2.1 3 4 (hB _ _ (by omega))]; exact h.2.2.2.1 hk, fun hk => by rw [hf.1 3 5 (hA _ _ (by omega))]; exact h.2.2.2.2 hk⟩
theorem TkX_fq {t : SM} {A B : Nat → Nat → Prop} (h : TkX s N k) (hf : Fq A B s t) (hA : ∀ c i, TxI c i → ¬ A c i) (hB : ∀ c i, TxL c i → ¬ B c i) : TkX t N k := ⟨by rw [hf.1 248 11 (hA _ _ (by omega))]; exact h.1, by rw [hf.1 248 12 (hA _ _ (by omega))]; exact h.2.1, by rw [hf.1 248 4 (hA _ _ (by omega))]; exact h.2.2.1, fun hk => by rw [hf.2.1 248 17 (hB _ _ (by omega))]; exact h.2.2.2.1 hk, fun hk => by rw [hf.1 248 14 (hA _ _ (by omega))]; exact h.2.2.2.2.1 hk, fun hk => by rw [hf.1 248 14 (hA _ _ (by omega))]; exact h.2.2.2.2.2 hk⟩
theorem TkX_s (h : TkX s N k) (hk : 0 ≤ k.1 ∧ k.1 ≤ 4) : (gI s 248 11 = 1 ↔ k.1 = 1) ∧ (gI s 248 11 = 2 ↔ k.1 = 2) ∧ (gI s 248 11 = 3 ↔ k.1 = 3) ∧ (gI s 248 11 = 0 ↔ k.1 = 0 ∧ N ≤ 600) := by
  obtain ⟨x, hx⟩ : ∃ x, x = (if k.1 = 0 then (if N ≤ 600 then 0 else 4) else k.1) := ⟨_, rfl⟩
  have hx2 : (k.1 = 0 ∧ N ≤ 600 ∧ x = 0) ∨ (k.1 = 0 ∧ ¬ N ≤ 600 ∧ x = 4) ∨ (¬ k.1 = 0 ∧ x = k.1) := by
    by_cases c : k.1 = 0
    · rw [if_pos c] at hx
      by_cases c2 : N ≤ 600
      · rw [if_pos c2] at hx; exact Or.inl ⟨c, c2, hx⟩
      · rw [if_neg c2] at hx; exact Or.inr (Or.inl ⟨c, c2, hx⟩)
    · rw [if_neg c] at hx; exact Or.inr (Or.inr ⟨c, hx⟩)
  rw [h.1, ← hx, zl0, zl1, zl2, show (3 : Int32) = zI 3 from rfl, z_eq (by omega) (by omega), z_eq (by omega) (by omega), z_eq (by omega) (by omega), z_eq (by omega) (by omega)]
  omega
/-- a word told -/
theorem y_says (h : TkY s k) (hk : 0 ≤ k.1 ∧ k.1 ≤ 4) (w : Int64) : vX9_says s w = bI (k.1 = 1 ∧ k.2.2.2.1 = w) := by
  have k1 : zI k.1 = 1 ↔ k.1 = 1 := by rw [zl1, z_eq (by omega) (by omega)]
  unfold vX9_says bI
  rw [h.1]
  by_cases c : k.1 = 1
  · rw [if_pos (k1.mpr c), h.2.2.2.1 c]
    by_cases c2 : k.2.2.2.1 = w
    · rw [if_pos ((lgc _ _).mpr c2), if_pos ⟨c, c2⟩]
    · rw [if_neg (fun hc => c2 ((lgc _ _).mp hc)), if_neg (fun hc => c2 hc.2)]
  · rw [if_neg (fun hc => c (k1.mp hc)), if_neg (fun hc => c hc.1)]
theorem x_says (h : TkX s N k) (hk : 0 ≤ k.1 ∧ k.1 ≤ 4) (w : Int64) : vX12_isWord s w = bI (k.1 = 1 ∧ k.2.2.2.1 = w) := by
  have k1 := (TkX_s h hk).1
  unfold vX12_isWord bI
  by_cases c : k.1 = 1
  · rw [if_pos (k1.mpr c), h.2.2.2.1 c]
    by_cases c2 : k.2.2.2.1 = w
    · rw [if_pos ((lgc _ _).mpr c2), if_pos ⟨c, c2⟩]
    · rw [if_neg (fun hc => c2 ((lgc _ _).mp hc)), if_neg (fun hc => c2 hc.2)]
  · rw [if_neg (fun hc => c (k1.mp hc)), if_neg (fun hc => c hc.1)]
/-- the stop -/
theorem y_isStop (h : TkY s k) (hk : 0 ≤ k.1 ∧ k.1 ≤ 4) : (k.1 = 3 → vX9_isStop s = 1 ∧ mX9_isStop s = s) ∧ (¬ k.1 = 3 → vX9_isStop s = 0 ∧ FtY (mX9_isStop s) 1 k.2.1 ∧ Fq YtI TkL s (mX9_isStop s)) := by
  have k1 : zI k.1 = 3 ↔ k.1 = 3 := by rw [show (3 : Int32) = zI 3 from rfl, z_eq (by omega) (by omega)]
  unfold vX9_isStop mX9_isStop
  rw [h.1]
  refine ⟨fun c => ?_, fun c => ?_⟩
  · rw [if_pos (k1.mpr c), if_pos (k1.mpr c)]; exact ⟨rfl, rfl⟩
  · rw [if_neg (fun hc => c (k1.mp hc)), if_neg (fun hc => c (k1.mp hc))]
    exact ⟨rfl, (y_ref h 1).2⟩
theorem x_sign (h : TkX s N k) (hk : 0 ≤ k.1 ∧ k.1 ≤ 4) (hs : TkS s N bt) (hN : N ≤ 640) (hE : k.2.2.1 ≤ N) : (k.1 = 3 → vX12_sign s 59 = 1 ∧ rX12_sign s 59 ∧ Fq XtI TxL s (mX12_sign s 59) ∧ TkX (mX12_sign s 59) N (tokF N bt k.2.2.1) ∧ gI (mX12_sign s 59) 248 15 = gI s 248 15) ∧ (¬ k.1 = 3 → vX12_sign s 59 = 0 ∧ rX12_sign s 59 ∧ FtX (mX12_sign s 59) 1 k.2.1 ∧ Fq XtI TxL s (mX12_sign s 59)) := by
  have k1 := (TkX_s h hk).2.2.1
  unfold vX12_sign mX12_sign rX12_sign vX12_isSign
  refine ⟨fun c => ?_, fun c => ?_⟩
  · obtain ⟨t, p1, p2, p3, p4⟩ := x_next hs hN hE h.2.2.1
    have e : gI s 248 14 = 59 := h.2.2.2.2.2 c
    rw [if_pos (k1.mpr c), if_pos e, if_neg (by decide), if_neg (by decide), p1]
    exact ⟨rfl, fun _ => p2, Fq_mo p3 (fun c i hc => by omega) (fun c i hc => hc), p4, p3.1 248 15 (by omega)⟩
  · rw [if_neg (fun hc => c (k1.mp hc)), if_pos rfl, if_pos rfl]
    exact ⟨rfl, fun hc => absurd rfl hc, (x_bad h 1).2⟩
/-- a number -/
theorem y_takeNumber (h : TpY s N bt) (hN : N ≤ 640) {p : Nat} (hp : p ≤ N) (h7 : gI s 3 7 = zI (p : Int)) (lo hi : Int32) : ∃ t, mX9_takeNumber s lo hi = t ∧ rX9_takeNumber s lo hi ∧ Fq YtI TkL s t ∧ (nuOk (tokF N bt p) lo hi → vX9_takeNumber s lo hi = 1 ∧ TkY t (tokF N bt p)) ∧ (¬ nuOk (tokF N bt p) lo hi → vX9_takeNumber s lo hi = 0 ∧ FtY t (if (tokF N bt p).1 = 2 then 2 else 1) (tokF N bt p).2.1) ∧ (vX9_takeNumber s lo hi = 1 → gI t 3 2 = gI s 3 2) := by
  obtain ⟨t, p1, p2, p3, p4⟩ := y_next h hN hp h7
  have hk := tok_S (N := N) bt p
  obtain ⟨k, hkk⟩ : ∃ k, k = tokF N bt p := ⟨_, rfl⟩
  rw [← hkk] at p4 hk ⊢
  have k2 : zI k.1 = 2 ↔ k.1 = 2 := by rw [zl2, z_eq (by omega) (by omega)]
  obtain ⟨-, r2, r3⟩ := y_ref p4 2
  obtain ⟨-, q2, q3⟩ := y_ref p4 1
  have one : (lX9_takeNumber FU) t lo hi = (0, mX9_refuse t 2) ∧ (qX9_takeNumber FU) t lo hi := ST_fu (ST_1 (F := fun n => lX9_takeNumber n t lo hi) (C := fun n => qX9_takeNumber n t lo hi) (F' := fun _ => (0, mX9_refuse t 2)) (C' := fun _ => True) (fun n => by
    show tX9_takeNumber_34 (lX9_takeNumber n) t lo hi = _ ∧ (_ → uX9_takeNumber_34 (qX9_takeNumber n) t lo hi)
    unfold tX9_takeNumber_34 uX9_takeNumber_34
    exact ⟨rfl, fun _ => trivial⟩)) (by omega)
  have f0 : Fq YtI TkL s t := Fq_mo p3 (fun c i hc => by omega) (fun c i hc => hc)
  unfold mX9_takeNumber vX9_takeNumber fX9_takeNumber rX9_takeNumber
  rw [p1, p4.1]
  by_cases c : k.1 = 2
  · rw [if_pos (k2.mpr c), p4.2.2.2.2 c, if_pos c, one.1]
    by_cases c1 : k.2.2.2.2 < lo
    · rw [if_pos c1]
      exact ⟨_, rfl, ⟨p2, fun _ => ⟨fun _ => one.2, fun _ _ => one.2⟩⟩, Fq_tr f0 r3, fun hc => absurd c1 hc.2.1, fun _ => ⟨rfl, r2⟩, fun hc => absurd (show (0 : Int32) = 1 from hc) (by decide)⟩
    · rw [if_neg c1]
      by_cases c2 : k.2.2.2.2 ≤ hi
      · rw [if_pos c2]
        exact ⟨_, rfl, ⟨p2, fun _ => ⟨fun _ => one.2, fun _ _ => one.2⟩⟩, f0, fun _ => ⟨rfl, p4⟩, fun hc => absurd ⟨c, c1, c2⟩ hc, fun _ => p3.1 3 2 (by omega)⟩
      · rw [if_neg c2]
        exact ⟨_, rfl, ⟨p2, fun _ => ⟨fun _ => one.2, fun _ _ => one.2⟩⟩, Fq_tr f0 r3, fun hc => absurd hc.2.2 c2, fun _ => ⟨rfl, r2⟩, fun hc => absurd (show (0 : Int32) = 1 from hc) (by decide)⟩
  · rw [if_neg (fun hc => c (k2.mp hc)), if_neg c]
    exact ⟨_, rfl, ⟨p2, fun hc => absurd (k2.mp hc) c⟩, Fq_tr f0 q3, fun hc => absurd hc.1 c, fun _ => ⟨rfl, q2⟩, fun hc => absurd (show (0 : Int32) = 1 from hc) (by decide)⟩
theorem x_takes (h : TkX s N k) (hk : 0 ≤ k.1 ∧ k.1 ≤ 4) (hs : TkS s N bt) (hN : N ≤ 640) (hE : k.2.2.1 ≤ N) (lo hi : Int32) : ∃ t, mX12_takes s lo hi = t ∧ rX12_takes s lo hi ∧ Fq XtI TxL s t ∧ (nuOk k lo hi → vX12_takes s lo hi = 1 ∧ TkX t N (tokF N bt k.2.2.1) ∧ gI t 248 18 = k.2.2.2.2) ∧ (¬ nuOk k lo hi → vX12_takes s lo hi = 0 ∧ FtX t (if k.1 = 2 then 2 else 1) k.2.1) ∧ (vX12_takes s lo hi = 1 → gI t 248 15 = gI s 248 15) := by
  have k2 := (TkX_s h hk).2.1
  obtain ⟨-, r2, r3⟩ := x_bad h 2
  obtain ⟨-, q2, q3⟩ := x_bad h 1
  unfold mX12_takes vX12_takes rX12_takes
  by_cases c : k.1 = 2
  · have e14 := h.2.2.2.2.1 c
    rw [if_pos (k2.mpr c), if_pos (k2.mpr c), e14, if_pos c]
    have hin : vX12_isIn s k.2.2.2.2 lo hi = bI (¬ k.2.2.2.2 < lo ∧ k.2.2.2.2 ≤ hi) := by
      unfold vX12_isIn bI
      by_cases c1 : k.2.2.2.2 < lo
      · rw [if_pos c1, if_neg (fun hc => hc.1 c1)]
      · rw [if_neg c1]
        by_cases c2 : hi < k.2.2.2.2
        · rw [if_pos c2, if_neg (fun hc => absurd c2 (Int32.not_lt.mpr hc.2))]
        · rw [if_neg c2, if_pos ⟨c1, Int32.not_lt.mp c2⟩]
    rw [hin]
    by_cases c1 : ¬ k.2.2.2.2 < lo ∧ k.2.2.2.2 ≤ hi
    · have e : ¬ bI (¬ k.2.2.2.2 < lo ∧ k.2.2.2.2 ≤ hi) = 0 := by rw [bI_0]; exact fun hh => hh c1
      have f1 : Fq (fun c i => c = 248 ∧ i = 18) (fun _ _ => False) s (pI s 248 18 k.2.2.2.2) := Fq_p _ ⟨rfl, rfl⟩
      obtain ⟨t, p1, p2, p3, p4⟩ := x_next (TkS_fq hs f1 (fun c i hc => by omega)) hN hE (by rw [f1.1 248 4 (by omega)]; exact h.2.2.1)
      rw [if_neg e, if_neg e, p1]
      refine ⟨t, rfl, fun _ _ => p2, Fq_tr (Fq_mo f1 (fun c i hc => by omega) (fun _ _ hc => hc.elim)) (Fq_mo p3 (fun c i hc => by omega) (fun c i hc => hc)), fun _ => ⟨rfl, p4, ?_⟩, fun hc => absurd ⟨c, c1⟩ hc, fun _ => (p3.1 248 15 (by omega)).trans (f1.1 248 15 (by omega))⟩
      rw [p3.1 248 18 (by omega), gI_pI, if_pos ⟨rfl, rfl⟩]
    · have e : bI (¬ k.2.2.2.2 < lo ∧ k.2.2.2.2 ≤ hi) = 0 := by rw [bI_0]; exact c1
      rw [if_pos e, if_pos e]
      exact ⟨_, rfl, fun _ hc => absurd e hc, r3, fun hc => absurd hc.2 c1, fun _ => ⟨rfl, r2⟩, fun hc => absurd (show (0 : Int32) = 1 from hc) (by decide)⟩
  · rw [if_neg (fun hc => c (k2.mp hc)), if_neg (fun hc => c (k2.mp hc)), if_neg c]
    exact ⟨_, rfl, fun hc => absurd (k2.mp hc) c, q3, fun hc => absurd hc.1 c, fun _ => ⟨rfl, q2⟩, fun hc => absurd (show (0 : Int32) = 1 from hc) (by decide)⟩
end
