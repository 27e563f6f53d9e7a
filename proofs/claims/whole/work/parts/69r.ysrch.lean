-- needs: 69q.ysearch
section
variable {s : SM} {g : Nat → Int} {ld db kd : Nat → Int} {R0 : Int → Int} {n : Nat}
theorem rep4 : ∀ n, okC g ld db (List.replicate n 4) ∧ ∀ b, rmP g ld db kd R0 (List.replicate n 4) b = R0 b := by
  intro n
  induction n with
  | zero => exact ⟨trivial, fun _ => rfl⟩
  | succ n ih =>
    rw [List.replicate_succ]
    refine ⟨⟨Nat.le_refl _, fun hc => absurd hc (by decide), ih.1⟩, fun b => ?_⟩
    show rmP g ld db kd R0 (List.replicate n 4) b - mcW g ld db kd _ 4 b = _
    rw [ih.2 b]
    unfold mcW
    rw [if_neg (by decide)]; omega
theorem BestP_some (hn : n ≤ 6) (hR : ∀ b, bdyZ g b → 0 ≤ R0 b) {o : Option (List Nat)} (h : BestP g ld db kd R0 n o) : ∃ q, o = some q := by
  cases o with
  | some q => exact ⟨q, rfl⟩
  | none =>
    obtain ⟨r1, r2⟩ := rep4 (g := g) (ld := ld) (db := db) (kd := kd) (R0 := R0) n
    have h1 : KP (List.replicate n 4) ≤ -1 := h.2 _ ⟨r1, fun b hb => by rw [r2 b]; exact hR b hb⟩ (List.length_replicate ..)
    have := KP_pos (c := List.replicate n 4) (by rw [List.length_replicate]; exact hn) (okC_4 r1)
    omega
/-- the rooms at the beginning -/
def R0f (g : Nat → Int) (bb m : Int) (b : Int) : Int := lefZ g b + (if b = bb then m else 0)
theorem R0f_b (hw : WF g) {bb m : Int} (hm : 0 ≤ m ∧ m ≤ 99) : ∀ b, bdyZ g b → 0 ≤ R0f g bb m b ∧ R0f g bb m b ≤ 1000 := fun b hb => by
  have := hw.lef hb
  unfold R0f
  split <;> omega
theorem y_psearch (h : LdR s 31 5 g) (hw : WF g) (hd : PkD g ld db kd n) (h225 : gI s 225 0 = zI (n : Int)) (hT : ∀ i, i < n → gI s 226 i = zI (ld i) ∧ gI s 227 i = zI (db i) ∧ gI s 228 i = zI (kd i)) {bb m : Int} (hb : (bb = -1 ∧ m = 0) ∨ (bdyZ g bb ∧ 0 ≤ m ∧ m ≤ 99)) : ∃ s' q, mX5_search s 31 5 (zI bb) (zI m) = s' ∧ vX5_search s 31 5 (zI bb) (zI m) = zI (cnt q : Int) ∧ rX5_search s 31 5 (zI bb) (zI m) ∧ Fp PlA s s' ∧ MPx 230 s' q ∧ BestP g ld db kd (R0f g bb m) n (some q) := by
  have h0 := hw.w0
  have hR := R0f_b (g := g) (bb := bb) (m := m) hw (by omega)
  obtain ⟨s1, hs1⟩ : ∃ s1, s1 = pI (pD s 1 31) 225 9 (-1) := ⟨_, rfl⟩
  have gx : gDx s1 1 = 31 := by rw [hs1]; rfl
  have g1 : gD s1 1 = some 31 := by rw [hs1]; rfl
  have n1 : ∀ c i, ¬ (c = 225 ∧ i = 9) → gI s1 c i = gI s c i := fun c i hc => by rw [hs1, gI_pI, if_neg hc, gI_pD]
  obtain ⟨s2, hs2⟩ : ∃ s2, s2 = cp 232 38 9 s1 := ⟨_, rfl⟩
  have n2 : ∀ c i, c ≠ 232 → gI s2 c i = gI s1 c i := fun c i hc => by rw [hs2, cp_n _ hc]
  have r2 : ∀ b, bdyZ g b → gI s2 232 b.toNat = zI (lefZ g b) := fun b hbd => by
    rw [hs2, cp_1 _ (by omega), n1 38 _ (by omega)]
    exact (h.2.2.1 b hbd).1
  have es2 : cI s1 232 (va_cpy (gI s1 38) (gI s1 232) (0 : Int32).toNatClampNeg (0 : Int32).toNatClampNeg (9 : Int32).toNatClampNeg) = s2 := by rw [hs2]; rfl
  -- more for bb
  obtain ⟨s3, hs3⟩ : ∃ s3, s3 = (if bb < 0 then s2 else pI s2 232 bb.toNat (gI s2 232 bb.toNat + zI m)) := ⟨_, rfl⟩
  have n3 : ∀ c i, c ≠ 232 → gI s3 c i = gI s2 c i := fun c i hc => by
    rw [hs3]; split
    · rfl
    · rw [gI_n _ _ _ _ hc]
  have g3 : gD s3 = gD s1 := by rw [hs3]; split <;> rw [hs2] <;> rfl
  have r3 : RmR g ld db kd (R0f g bb m) s3 [] := fun b hbd => by
    show gI s3 232 b.toNat = zI (lefZ g b + (if b = bb then m else 0))
    rw [hs3]
    by_cases hneg : bb < 0
    · rw [if_pos hneg, r2 b hbd, if_neg (by omega), Int.add_zero]
    · rw [if_neg hneg, gI_s]
      by_cases hq : b = bb
      · rw [if_pos (by rw [hq]), if_pos hq, ← hq, r2 b hbd, z_add]
      · rw [if_neg (by omega), if_neg hq, r2 b hbd, Int.add_zero]
  have f3 : Fp PlA s s3 := ⟨fun c i hc => by rw [n3 c i (by omega), n2 c i (by omega), n1 c i (by omega)], by rw [hs3]; split <;> rw [hs2, hs1] <;> rfl, by rw [hs3]; split <;> rw [hs2, hs1] <;> rfl⟩
  have hx : PkC g ld db kd n s3 := ⟨LdR_fp h f3 (fun c i hc => by omega), by rw [g3]; exact g1, by rw [f3.1 225 0 (by omega)]; exact h225, fun i hi => by rw [f3.1 226 i (by omega), f3.1 227 i (by omega), f3.1 228 i (by omega)]; exact hT i hi⟩
  have ho : PO s3 none := by
    show gI s3 225 9 = zI (-1)
    rw [n3 225 9 (by omega), n2 225 9 (by omega), hs1, gI_s, if_pos rfl]; rfl
  obtain ⟨s', o, e1, e2, q1, q2, q3, q4, q5, q6, q7, q8⟩ := y_place hw hd hR n [] s3 none 200 (by rw [List.length_nil]; omega) ⟨trivial, fun b hbd => (hR b hbd).1⟩ hx trivial r3 ho (fun q hq => by cases hq) (fun q hq => by cases hq) (by have := hd.1; omega)
  have hB : BestP g ld db kd (R0f g bb m) n o := ⟨fun q hq => by
    rcases q6 q hq with h | h
    · cases h
    · exact ⟨h.1, h.2.1⟩, fun c hc hl => q8 c hc hl ⟨c, (List.append_nil c).symm⟩⟩
  obtain ⟨q, rfl⟩ := BestP_some hd.1 (fun b hbd => (hR b hbd).1) hB
  have e1 : mX5_place s3 0 0 = s' := e1
  have e2 : rX5_place s3 0 0 := e2
  obtain ⟨E, R⟩ := ST_fu (ST_1 (F := fun k => lX5_search k s3 31 5 (zI bb) (zI m)) (C := fun k => qX5_search k s3 31 5 (zI bb) (zI m)) (F' := fun _ => (zI (cnt q : Int), s')) (C' := fun _ => True) (fun k => by
    refine ⟨?_, fun _ => e2⟩
    show (gI (mX5_place s3 0 0) 225 9, mX5_place s3 0 0) = _
    rw [e1, q5.1])) (by omega)
  have E1 : fX5_search s 31 5 (zI bb) (zI m) = (zI (cnt q : Int), s') ∧ rX5_search s 31 5 (zI bb) (zI m) := by
    unfold fX5_search rX5_search
    rw [← hs1, gx, show (31 + 7) = 38 from rfl, es2]
    dsimp only []
    have lx : (31, rfx 31 8) ∈ LX := by decide
    rcases hb with ⟨hb1, hb2⟩ | ⟨hb1, hb2⟩
    · have l0 : zI bb < 0 := by rw [hb1]; decide
      rw [if_pos (show bb < 0 by omega)] at hs3
      rw [if_pos l0, ← hs3]
      exact ⟨E, g1, lx, fun s4 hs4 => by rw [hs4]; exact ⟨fun _ => R, fun hc => absurd l0 hc⟩⟩
    · have l0 : ¬ zI bb < 0 := by rw [zl0, z_lt (by omega) (by omega)]; omega
      have l9 : ¬ 9 ≤ zI bb := by rw [zl9, z_le (by omega) (by omega)]; omega
      have cb : (zI bb).toNatClampNeg = bb.toNat := z_cl (by omega)
      have vb : vp_in (zI bb) 9 := by rw [z_in (by omega)]; omega
      rw [if_neg (show ¬ bb < 0 by omega)] at hs3
      rw [if_neg l0, if_neg l9, cb, ← hs3]
      exact ⟨E, g1, lx, fun s4 hs4 => by rw [hs4, ← hs3]; exact ⟨fun hc => absurd hc l0, fun _ => ⟨fun hc => absurd hc l9, fun _ => ⟨vb, vb, R⟩⟩⟩⟩
  exact ⟨s', q, by unfold mX5_search; rw [E1.1], by unfold vX5_search; rw [E1.1], E1.2, Fp_tr f3 q1, q5.2, hB⟩
end
