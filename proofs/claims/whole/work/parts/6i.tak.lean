-- needs: 6h.tok
/-! what is taken from the text -/
theorem lgc (x y : Int64) : lg_cmp x y = 0 ↔ x = y := by
  unfold lg_cmp
  by_cases h1 : x > y
  · rw [if_pos h1]
    refine ⟨fun hc => absurd hc (by decide), fun hc => ?_⟩
    rw [hc] at h1
    exact absurd h1 (Int64.lt_irrefl)
  · rw [if_neg h1]
    by_cases h2 : x = y
    · rw [if_pos h2]; exact ⟨fun _ => h2, fun _ => rfl⟩
    · rw [if_neg h2]; exact ⟨fun hc => absurd hc (by decide), fun hc => absurd hc h2⟩
theorem tok_E {N : Nat} (bt : Nat → Int) {p : Nat} (hp : p ≤ N) : p ≤ (tokF N bt p).2.2.1 ∧ (tokF N bt p).2.2.1 ≤ N := by
  obtain ⟨e1, e2, -, -⟩ := skp_a N bt N p
  obtain ⟨f1, f2, -, -⟩ := rnE_a N bt N (skp N bt N p)
  unfold tokF
  by_cases c : skp N bt N p < N ∧ skp N bt N p < 600
  · rw [if_pos c]
    by_cases c2 : ltr (bt (skp N bt N p)) ∨ dgt (bt (skp N bt N p))
    · rw [if_pos c2]; show p ≤ rnE N bt N (skp N bt N p) ∧ rnE N bt N (skp N bt N p) ≤ N; omega
    · rw [if_neg c2]; show p ≤ skp N bt N p + 1 ∧ skp N bt N p + 1 ≤ N; omega
  · rw [if_neg c]; show p ≤ skp N bt N p ∧ skp N bt N p ≤ N; omega
theorem tok_S {N : Nat} (bt : Nat → Int) (p : Nat) : 0 ≤ (tokF N bt p).1 ∧ (tokF N bt p).1 ≤ 4 := by
  unfold tokF
  by_cases c : skp N bt N p < N ∧ skp N bt N p < 600
  · rw [if_pos c]
    by_cases c2 : ltr (bt (skp N bt N p)) ∨ dgt (bt (skp N bt N p))
    · rw [if_pos c2]
      unfold srt
      by_cases c3 : dgF bt (skp N bt N p) (rnE N bt N (skp N bt N p) - skp N bt N p) = 0 ∧ ltF bt (skp N bt N p) (rnE N bt N (skp N bt N p) - skp N bt N p) ≤ 7
      · rw [if_pos c3]; exact ⟨show (0 : Int) ≤ 1 by decide, show (1 : Int) ≤ 4 by decide⟩
      · rw [if_neg c3]
        by_cases c4 : ltF bt (skp N bt N p) (rnE N bt N (skp N bt N p) - skp N bt N p) = 0 ∧ dgF bt (skp N bt N p) (rnE N bt N (skp N bt N p) - skp N bt N p) ≤ 2
        · rw [if_pos c4]; exact ⟨show (0 : Int) ≤ 2 by decide, show (2 : Int) ≤ 4 by decide⟩
        · rw [if_neg c4]; exact ⟨show (0 : Int) ≤ 4 by decide, show (4 : Int) ≤ 4 by decide⟩
    · rw [if_neg c2]
      by_cases c3 : bt (skp N bt N p) = 59
      · rw [if_pos c3]; exact ⟨show (0 : Int) ≤ 3 by decide, show (3 : Int) ≤ 4 by decide⟩
      · rw [if_neg c3]; exact ⟨show (0 : Int) ≤ 4 by decide, show (4 : Int) ≤ 4 by decide⟩
  · rw [if_neg c]; exact ⟨show (0 : Int) ≤ 0 by decide, show (0 : Int) ≤ 4 by decide⟩
def fnd (f : Nat → Int64) (w : Int64) : Nat → Nat → Int
  | 0, _ => -1
  | r + 1, d => if f d = w then d else fnd f w r (d + 1)
theorem fnd_b (f : Nat → Int64) (w : Int64) : ∀ r d, fnd f w r d = -1 ∨ ((d : Int) ≤ fnd f w r d ∧ fnd f w r d < ((d + r : Nat) : Int)) := by
  intro r
  induction r with
  | zero => intro d; exact Or.inl rfl
  | succ r ih =>
    intro d
    unfold fnd
    by_cases c : f d = w
    · rw [if_pos c]; exact Or.inr ⟨Int.le_refl _, by omega⟩
    · rw [if_neg c]; rcases ih (d + 1) with h | h
      · exact Or.inl h
      · exact Or.inr ⟨by omega, by omega⟩
theorem fnd_c {f f' : Nat → Int64} (w : Int64) : ∀ r d, (∀ j, d ≤ j → j < d + r → f j = f' j) → fnd f w r d = fnd f' w r d := by
  intro r
  induction r with
  | zero => intro d _; rfl
  | succ r ih =>
    intro d h
    unfold fnd
    rw [h d (by omega) (by omega), ih (d + 1) (fun j h1 h2 => h j (by omega) (by omega))]
def isN (k : Tok) : Prop := k.1 = 1 ∧ ∀ i, i < 17 → ¬ k.2.2.2.1 = WV i
section
variable {s : SM} {N : Nat} {bt : Nat → Int}
theorem y_bNamed {P n : Nat} (hn : n ≤ 9) (h : gI s P 6 = zI (n : Int)) (b : Int64) : vX6_bodyNamed s P b = zI (fnd (gL s (P + 1)) b n 0) ∧ rX6_bodyNamed s P b := by
  have key : ∀ r d, d + r = n → ST (r + 1) (fun m => lX6_bodyNamed m s P b (zI (d : Int))) (fun m => qX6_bodyNamed m s P b (zI (d : Int))) (fun _ => zI (fnd (gL s (P + 1)) b r d)) (fun _ => True) := by
    intro r
    induction r with
    | zero =>
      intro d hd
      refine ST_1 fun m => ?_
      show tX6_bodyNamed_2 (lX6_bodyNamed m) s P b (zI (d : Int)) = _ ∧ (_ → uX6_bodyNamed_2 (qX6_bodyNamed m) s P b (zI (d : Int)))
      have l : zI (n : Int) ≤ zI (d : Int) := by rw [z_le (by omega) (by omega)]; omega
      unfold tX6_bodyNamed_2 uX6_bodyNamed_2
      rw [h, if_pos l]
      exact ⟨rfl, fun _ hc => absurd l hc⟩
    | succ r ih =>
      intro d hd
      have l : ¬ zI (n : Int) ≤ zI (d : Int) := by rw [z_le (by omega) (by omega)]; omega
      have cj : (zI (d : Int)).toNatClampNeg = d := by rw [z_cl (by omega)]; exact Int.toNat_natCast _
      have e1 : zI (d : Int) + 1 = zI ((d + 1 : Nat) : Int) := by rw [zl1, z_add]; congr 1
      have vi : vp_in (zI (d : Int)) 9 := by rw [z_in (by omega)]; omega
      by_cases c : gL s (P + 1) d = b
      · refine ST_mono (ST_1 fun m => ?_) (show 1 ≤ r + 1 + 1 by omega)
        show tX6_bodyNamed_2 (lX6_bodyNamed m) s P b (zI (d : Int)) = _ ∧ (_ → uX6_bodyNamed_2 (qX6_bodyNamed m) s P b (zI (d : Int)))
        unfold tX6_bodyNamed_2 uX6_bodyNamed_2 fnd
        rw [h, if_neg l, cj, if_pos ((lgc _ _).mpr c), if_pos c]
        exact ⟨rfl, fun _ _ => ⟨vi, fun hc => absurd ((lgc _ _).mpr c) hc⟩⟩
      · refine ST_mono (ST_trans (ST_1 (F' := fun m => lX6_bodyNamed m s P b (zI ((d + 1 : Nat) : Int))) (C' := fun m => qX6_bodyNamed m s P b (zI ((d + 1 : Nat) : Int))) fun m => ?_) (by have := ih (d + 1) (by omega); unfold fnd; rw [if_neg c]; exact this)) (by omega)
        show tX6_bodyNamed_2 (lX6_bodyNamed m) s P b (zI (d : Int)) = _ ∧ (_ → uX6_bodyNamed_2 (qX6_bodyNamed m) s P b (zI (d : Int)))
        unfold tX6_bodyNamed_2 uX6_bodyNamed_2
        rw [h, if_neg l, cj, if_neg (fun hc => c ((lgc _ _).mp hc)), e1]
        exact ⟨rfl, fun hh _ => ⟨vi, fun _ => hh⟩⟩
  exact ST_fu (key n 0 (by omega)) (by omega)
theorem y_kNamed {P n : Nat} (hn : n ≤ 6) (h : gI s P 7 = zI (n : Int)) (b : Int64) : vX6_kindNamed s P b = zI (fnd (gL s (P + 4)) b n 0) ∧ rX6_kindNamed s P b := by
  have key : ∀ r d, d + r = n → ST (r + 1) (fun m => lX6_kindNamed m s P b (zI (d : Int))) (fun m => qX6_kindNamed m s P b (zI (d : Int))) (fun _ => zI (fnd (gL s (P + 4)) b r d)) (fun _ => True) := by
    intro r
    induction r with
    | zero =>
      intro d hd
      refine ST_1 fun m => ?_
      show tX6_kindNamed_2 (lX6_kindNamed m) s P b (zI (d : Int)) = _ ∧ (_ → uX6_kindNamed_2 (qX6_kindNamed m) s P b (zI (d : Int)))
      have l : zI (n : Int) ≤ zI (d : Int) := by rw [z_le (by omega) (by omega)]; omega
      unfold tX6_kindNamed_2 uX6_kindNamed_2
      rw [h, if_pos l]
      exact ⟨rfl, fun _ hc => absurd l hc⟩
    | succ r ih =>
      intro d hd
      have l : ¬ zI (n : Int) ≤ zI (d : Int) := by rw [z_le (by omega) (by omega)]; omega
      have cj : (zI (d : Int)).toNatClampNeg = d := by rw [z_cl (by omega)]; exact Int.toNat_natCast _
      have e1 : zI (d : Int) + 1 = zI ((d + 1 : Nat) : Int) := by rw [zl1, z_add]; congr 1
      have vi : vp_in (zI (d : Int)) 6 := by rw [z_in (by omega)]; omega
      by_cases c : gL s (P + 4) d = b
      · refine ST_mono (ST_1 fun m => ?_) (show 1 ≤ r + 1 + 1 by omega)
        show tX6_kindNamed_2 (lX6_kindNamed m) s P b (zI (d : Int)) = _ ∧ (_ → uX6_kindNamed_2 (qX6_kindNamed m) s P b (zI (d : Int)))
        unfold tX6_kindNamed_2 uX6_kindNamed_2 fnd
        rw [h, if_neg l, cj, if_pos ((lgc _ _).mpr c), if_pos c]
        exact ⟨rfl, fun _ _ => ⟨vi, fun hc => absurd ((lgc _ _).mpr c) hc⟩⟩
      · refine ST_mono (ST_trans (ST_1 (F' := fun m => lX6_kindNamed m s P b (zI ((d + 1 : Nat) : Int))) (C' := fun m => qX6_kindNamed m s P b (zI ((d + 1 : Nat) : Int))) fun m => ?_) (by have := ih (d + 1) (by omega); unfold fnd; rw [if_neg c]; exact this)) (by omega)
        show tX6_kindNamed_2 (lX6_kindNamed m) s P b (zI (d : Int)) = _ ∧ (_ → uX6_kindNamed_2 (qX6_kindNamed m) s P b (zI (d : Int)))
        unfold tX6_kindNamed_2 uX6_kindNamed_2
        rw [h, if_neg l, cj, if_neg (fun hc => c ((lgc _ _).mp hc)), e1]
        exact ⟨rfl, fun hh _ => ⟨vi, fun _ => hh⟩⟩
  exact ST_fu (key n 0 (by omega)) (by omega)
theorem x_find {a n : Nat} (hn : a + n ≤ 30) : vX12_find s (zI (a : Int)) (zI (n : Int)) = zI (fnd (fun j => gL s 253 (a + j)) (gL s 248 17) n 0) ∧ rX12_find s (zI (a : Int)) (zI (n : Int)) := by
  have key : ∀ r d, d + r = n → ST (r + 1) (fun m => lX12_find m s (zI (a : Int)) (zI (n : Int)) (zI (d : Int))) (fun m => qX12_find m s (zI (a : Int)) (zI (n : Int)) (zI (d : Int))) (fun _ => zI (fnd (fun j => gL s 253 (a + j)) (gL s 248 17) r d)) (fun _ => True) := by
    intro r
    induction r with
    | zero =>
      intro d hd
      refine ST_1 fun m => ?_
      show tX12_find_2 (lX12_find m) s (zI (a : Int)) (zI (n : Int)) (zI (d : Int)) = _ ∧ (_ → uX12_find_2 (qX12_find m) s (zI (a : Int)) (zI (n : Int)) (zI (d : Int)))
      have l : zI (n : Int) ≤ zI (d : Int) := by rw [z_le (by omega) (by omega)]; omega
      unfold tX12_find_2 uX12_find_2
      rw [if_pos l]
      exact ⟨rfl, fun _ hc => absurd l hc⟩
    | succ r ih =>
      intro d hd
      have l : ¬ zI (n : Int) ≤ zI (d : Int) := by rw [z_le (by omega) (by omega)]; omega
      have ea : zI (a : Int) + zI (d : Int) = zI ((a + d : Nat) : Int) := by rw [z_add]; congr 1
      have cj : (zI ((a + d : Nat) : Int)).toNatClampNeg = a + d := by rw [z_cl (by omega)]; exact Int.toNat_natCast _
      have e1 : zI (d : Int) + 1 = zI ((d + 1 : Nat) : Int) := by rw [zl1, z_add]; congr 1
      have vi : vp_in (zI ((a + d : Nat) : Int)) 30 := by rw [z_in (by omega)]; omega
      by_cases c : gL s 253 (a + d) = gL s 248 17
      · refine ST_mono (ST_1 fun m => ?_) (show 1 ≤ r + 1 + 1 by omega)
        show tX12_find_2 (lX12_find m) s (zI (a : Int)) (zI (n : Int)) (zI (d : Int)) = _ ∧ (_ → uX12_find_2 (qX12_find m) s (zI (a : Int)) (zI (n : Int)) (zI (d : Int)))
        unfold tX12_find_2 uX12_find_2 fnd
        rw [if_neg l, ea, cj, if_pos ((lgc _ _).mpr c), if_pos c]
        exact ⟨rfl, fun _ _ => ⟨vi, fun hc => absurd ((lgc _ _).mpr c) hc⟩⟩
      · refine ST_mono (ST_trans (ST_1 (F' := fun m => lX12_find m s (zI (a : Int)) (zI (n : Int)) (zI ((d + 1 : Nat) : Int))) (C' := fun m => qX12_find m s (zI (a : Int)) (zI (n : Int)) (zI ((d + 1 : Nat) : Int))) fun m => ?_) (by have := ih (d + 1) (by omega); unfold fnd; rw [if_neg c]; exact this)) (by omega)
        show tX12_find_2 (lX12_find m) s (zI (a : Int)) (zI (n : Int)) (zI (d : Int)) = _ ∧ (_ → uX12_find_2 (qX12_find m) s (zI (a : Int)) (zI (n : Int)) (zI (d : Int)))
        unfold tX12_find_2 uX12_find_2
        rw [if_neg l, ea, cj, if_neg (fun hc => c ((lgc _ _).mp hc)), e1]
        exact ⟨rfl, fun hh _ => ⟨vi, fun _ => hh⟩⟩
  exact ST_fu (key n 0 (by omega)) (by omega)
theorem y_isName {k : Tok} (h9 : gI s 3 9 = zI k.1) (hk : 0 ≤ k.1 ∧ k.1 ≤ 4) (hw : k.1 = 1 → gL s 3 4 = k.2.2.2.1) : rX9_isName s ∧ (isN k → vX9_isName s = 1) ∧ (¬ isN k → vX9_isName s = 0) := by
  have k1 : zI k.1 = 1 ↔ k.1 = 1 := by rw [zl1, z_eq (by omega) (by omega)]
  have key : ∀ r d, d + r = 17 → ((k.1 = 1 ∧ ∀ i, d ≤ i → i < 17 → ¬ k.2.2.2.1 = WV i) → ST (r + 1) (fun m => lX9_isName m s (zI (d : Int))) (fun m => qX9_isName m s (zI (d : Int))) (fun _ => (1 : Int32)) (fun _ => True)) ∧ (¬ (k.1 = 1 ∧ ∀ i, d ≤ i → i < 17 → ¬ k.2.2.2.1 = WV i) → ST (r + 1) (fun m => lX9_isName m s (zI (d : Int))) (fun m => qX9_isName m s (zI (d : Int))) (fun _ => (0 : Int32)) (fun _ => True)) := by
    intro r
    induction r with
    | zero =>
      intro d hd
      have l : 17 ≤ zI (d : Int) := by rw [show (17 : Int32) = zI 17 from rfl, z_le (by omega) (by omega)]; omega
      refine ⟨fun hc => ST_1 fun m => ?_, fun hc => ST_1 fun m => ?_⟩
      · show tX9_isName_2 (lX9_isName m) s (zI (d : Int)) = _ ∧ (_ → uX9_isName_2 (qX9_isName m) s (zI (d : Int)))
        unfold tX9_isName_2 uX9_isName_2
        rw [if_pos l, h9, if_pos (k1.mpr hc.1)]
        exact ⟨rfl, fun _ hc => absurd l hc⟩
      · show tX9_isName_2 (lX9_isName m) s (zI (d : Int)) = _ ∧ (_ → uX9_isName_2 (qX9_isName m) s (zI (d : Int)))
        unfold tX9_isName_2 uX9_isName_2
        rw [if_pos l, h9, if_neg (fun hh => hc ⟨k1.mp hh, fun i a b => by omega⟩)]
        exact ⟨rfl, fun _ hc => absurd l hc⟩
    | succ r ih =>
      intro d hd
      have l : ¬ 17 ≤ zI (d : Int) := by rw [show (17 : Int32) = zI 17 from rfl, z_le (by omega) (by omega)]; omega
      have cj : (zI (d : Int)).toNatClampNeg = d := by rw [z_cl (by omega)]; exact Int.toNat_natCast _
      have e1 : zI (d : Int) + 1 = zI ((d + 1 : Nat) : Int) := by rw [zl1, z_add]; congr 1
      have vi : vp_in (zI (d : Int)) 17 := by rw [z_in (by omega)]; omega
      obtain ⟨i1, i2⟩ := ih (d + 1) (by omega)
      by_cases c : gL s 3 4 = WV d
      · refine ⟨fun hc => absurd ((hw hc.1).symm.trans c) (hc.2 d (by omega) (by omega)), fun hc => ST_mono (ST_1 fun m => ?_) (show 1 ≤ r + 1 + 1 by omega)⟩
        show tX9_isName_2 (lX9_isName m) s (zI (d : Int)) = _ ∧ (_ → uX9_isName_2 (qX9_isName m) s (zI (d : Int)))
        unfold tX9_isName_2 uX9_isName_2
        rw [if_neg l, cj, if_pos ((lgc _ _).mpr c)]
        exact ⟨rfl, fun _ _ => ⟨vi, fun hc => absurd ((lgc _ _).mpr c) hc⟩⟩
      · have one : ST 1 (fun m => lX9_isName m s (zI (d : Int))) (fun m => qX9_isName m s (zI (d : Int))) (fun m => lX9_isName m s (zI ((d + 1 : Nat) : Int))) (fun m => qX9_isName m s (zI ((d + 1 : Nat) : Int))) := by
          refine ST_1 fun m => ?_
          show tX9_isName_2 (lX9_isName m) s (zI (d : Int)) = _ ∧ (_ → uX9_isName_2 (qX9_isName m) s (zI (d : Int)))
          unfold tX9_isName_2 uX9_isName_2
          rw [if_neg l, cj, if_neg (fun hc => c ((lgc _ _).mp hc)), e1]
          exact ⟨rfl, fun hh _ => ⟨vi, fun _ => hh⟩⟩
        refine ⟨fun hc => ST_mono (ST_trans one (i1 ⟨hc.1, fun i a b => hc.2 i (by omega) b⟩)) (by omega), fun hc => ST_mono (ST_trans one (i2 fun hh => hc ⟨hh.1, fun i a b => ?_⟩)) (by omega)⟩
        by_cases hid : i = d
        · rw [hid]; exact fun hx => c ((hw hh.1).trans hx)
        · exact hh.2 i (by omega) b
  obtain ⟨a, b⟩ := key 17 0 (by omega)
  by_cases c : isN k
  · obtain ⟨E, R⟩ := ST_fu (a ⟨c.1, fun i _ h => c.2 i h⟩) (by omega)
    exact ⟨R, fun _ => E, fun hc => absurd c hc⟩
  · obtain ⟨E, R⟩ := ST_fu (b fun hh => c ⟨hh.1, fun i h => hh.2 i (by omega) h⟩) (by omega)
    exact ⟨R, fun hc => absurd hc c, fun _ => E⟩
theorem x_isName {k : Tok} (hr : ∀ i, i < 17 → gL s 254 i = WV i) (h9 : gI s 248 11 = 1 ↔ k.1 = 1) (hw : k.1 = 1 → gL s 248 17 = k.2.2.2.1) : rX12_isName s ∧ (isN k → vX12_isName s = 1) ∧ (¬ isN k → vX12_isName s = 0) := by
  have key : ∀ r d (f : Prop) [Decidable f], d + r = 17 → ((f ∧ ∀ i, d ≤ i → i < 17 → ¬ gL s 248 17 = WV i) → ST (r + 1) (fun m => lX12_isName m s (bI f) (zI (d : Int))) (fun m => qX12_isName m s (bI f) (zI (d : Int))) (fun _ => (1 : Int32)) (fun _ => True)) ∧ (¬ (f ∧ ∀ i, d ≤ i → i < 17 → ¬ gL s 248 17 = WV i) → ST (r + 1) (fun m => lX12_isName m s (bI f) (zI (d : Int))) (fun m => qX12_isName m s (bI f) (zI (d : Int))) (fun _ => (0 : Int32)) (fun _ => True)) := by
    intro r
    induction r with
    | zero =>
      intro d f _ hd
      have l : 17 ≤ zI (d : Int) := by rw [show (17 : Int32) = zI 17 from rfl, z_le (by omega) (by omega)]; omega
      refine ⟨fun hc => ST_1 fun m => ?_, fun hc => ST_1 fun m => ?_⟩
      · show tX12_isName_16 (lX12_isName m) s (bI f) (zI (d : Int)) = _ ∧ (_ → uX12_isName_16 (qX12_isName m) s (bI f) (zI (d : Int)))
        have e := (bI_1 f).mpr hc.1
        unfold tX12_isName_16 uX12_isName_16
        rw [if_pos l, e]
        exact ⟨rfl, fun _ => ⟨fun _ => Or.inr rfl, fun hc => absurd l hc⟩⟩
      · show tX12_isName_16 (lX12_isName m) s (bI f) (zI (d : Int)) = _ ∧ (_ → uX12_isName_16 (qX12_isName m) s (bI f) (zI (d : Int)))
        have e := (bI_0 f).mpr (fun hf => hc ⟨hf, fun i a b => by omega⟩)
        unfold tX12_isName_16 uX12_isName_16
        rw [if_pos l, e]
        exact ⟨rfl, fun _ => ⟨fun _ => Or.inl rfl, fun hc => absurd l hc⟩⟩
    | succ r ih =>
      intro d f _ hd
      have l : ¬ 17 ≤ zI (d : Int) := by rw [show (17 : Int32) = zI 17 from rfl, z_le (by omega) (by omega)]; omega
      have cj : (zI (d : Int)).toNatClampNeg = d := by rw [z_cl (by omega)]; exact Int.toNat_natCast _
      have e1 : zI (d : Int) + 1 = zI ((d + 1 : Nat) : Int) := by rw [zl1, z_add]; congr 1
      have vi : vp_in (zI (d : Int)) 17 := by rw [z_in (by omega)]; omega
      have hrd := hr d (by omega)
      have one : ST 1 (fun m => lX12_isName m s (bI f) (zI (d : Int))) (fun m => qX12_isName m s (bI f) (zI (d : Int))) (fun m => lX12_isName m s (bI (f ∧ ¬ gL s 248 17 = WV d)) (zI ((d + 1 : Nat) : Int))) (fun m => qX12_isName m s (bI (f ∧ ¬ gL s 248 17 = WV d)) (zI ((d + 1 : Nat) : Int))) := by
        refine ST_1 fun m => ?_
        show tX12_isName_16 (lX12_isName m) s (bI f) (zI (d : Int)) = _ ∧ (_ → uX12_isName_16 (qX12_isName m) s (bI f) (zI (d : Int)))
        unfold tX12_isName_16 uX12_isName_16
        rw [if_neg l, cj, hrd, e1]
        by_cases cf : f
        · have kf : ¬ bI f = 0 := by rw [bI_0]; exact fun hh => hh cf
          rw [if_neg kf]
          by_cases c : gL s 248 17 = WV d
          · have kg : bI (f ∧ ¬ gL s 248 17 = WV d) = 0 := by rw [bI_0]; exact fun hh => hh.2 c
            rw [kg, if_pos ((lgc _ _).mpr c)]
            exact ⟨rfl, fun hh => ⟨fun hc => absurd hc l, fun _ => ⟨fun hc => absurd hc kf, fun _ => ⟨vi, hh⟩⟩⟩⟩
          · have kg : bI (f ∧ ¬ gL s 248 17 = WV d) = 1 := by rw [bI_1]; exact ⟨cf, c⟩
            rw [kg, if_neg (fun hc => c ((lgc _ _).mp hc))]
            exact ⟨rfl, fun hh => ⟨fun hc => absurd hc l, fun _ => ⟨fun hc => absurd hc kf, fun _ => ⟨vi, hh⟩⟩⟩⟩
        · have kf : bI f = 0 := by rw [bI_0]; exact cf
          have kg : bI (f ∧ ¬ gL s 248 17 = WV d) = 0 := by rw [bI_0]; exact fun hh => cf hh.1
          rw [if_pos kf, kg]
          exact ⟨rfl, fun hh => ⟨fun hc => absurd hc l, fun _ => ⟨fun _ => hh, fun hc => absurd kf hc⟩⟩⟩
      obtain ⟨i1, i2⟩ := ih (d + 1) (f ∧ ¬ gL s 248 17 = WV d) (by omega)
      refine ⟨fun hc => ST_mono (ST_trans one (i1 ⟨⟨hc.1, hc.2 d (by omega) (by omega)⟩, fun i a b => hc.2 i (by omega) b⟩)) (by omega), fun hc => ST_mono (ST_trans one (i2 fun hh => hc ⟨hh.1.1, fun i a b => ?_⟩)) (by omega)⟩
      by_cases hid : i = d
      · rw [hid]; exact hh.1.2
      · exact hh.2 i (by omega) b
  obtain ⟨a, b⟩ := key 17 0 (gI s 248 11 = 1) (by omega)
  by_cases c : isN k
  · obtain ⟨E, R⟩ := ST_fu (a ⟨h9.mpr c.1, fun i _ h => by rw [hw c.1]; exact c.2 i h⟩) (by omega)
    exact ⟨R, fun _ => E, fun hc => absurd c hc⟩
  · obtain ⟨E, R⟩ := ST_fu (b fun hh => c ⟨h9.mp hh.1, fun i h => by rw [← hw (h9.mp hh.1)]; exact hh.2 i (by omega) h⟩) (by omega)
    exact ⟨R, fun hc => absurd hc c, fun _ => E⟩
end
