-- needs: 6t.tai
/-- the state of a PORT just read -/
def frG (t : SM) (old : Nat → Int) (k : Nat) : Int := if k < 34 then (gI t 251 k).toInt else if k < 787 then 0 else old k
section
variable {s t : SM} {old : Nat → Int}
theorem frG_lo {v : Int} {k : Nat} (hk : k < 34) (hv : IR v) (h : gI t 251 k = zI v) : frG t old k = v := by
  unfold frG
  rw [if_pos hk, h, tI_zI hv]
theorem frG_mid {k : Nat} (h1 : 34 ≤ k) (h2 : k < 787) : frG t old k = 0 := by
  unfold frG
  rw [if_neg (by omega), if_pos h2]
theorem frG_wf {nb nk : Nat} (hb : BdR s t nb) (hk : KiR s t nk) (hl : LiR s t) : WF (frG t old) ∧ frG t old 0 = nb ∧ frG t old 1 = nk := by
  obtain ⟨hb1, hb2, hb3, hb4⟩ := hb
  obtain ⟨hk1, hk2, hk3, hk4⟩ := hk
  obtain ⟨⟨l, l1, l2, l3⟩, ⟨d, d1, d2, d3⟩, -, -⟩ := hl
  have g0 : frG t old 0 = nb := frG_lo (by omega) (by omega) hb3
  have g1 : frG t old 1 = nk := frG_lo (by omega) (by omega) hk3
  have g2 : frG t old 2 = l := frG_lo (by omega) (by omega) l3
  have g3 : frG t old 3 = d := frG_lo (by omega) (by omega) d3
  have g34 : frG t old 34 = 0 := frG_mid (by omega) (by omega)
  have g35 : frG t old 35 = 0 := frG_mid (by omega) (by omega)
  have g36 : frG t old 36 = 0 := frG_mid (by omega) (by omega)
  refine ⟨⟨⟨by omega, by omega, by omega, by omega, by omega, by omega, by omega⟩, fun b hbd => ?_, fun k hkd => ?_, fun e he => ?_⟩, g0, g1⟩
  · have hbd : 0 ≤ b ∧ b < frG t old 0 := hbd
    rw [g0] at hbd
    obtain ⟨n, rfl⟩ := Int.eq_ofNat_of_zero_le hbd.1
    obtain ⟨-, r, x, c1, c2, -, c4, -, c6⟩ := hb4 n (by omega)
    have e4 : rmZ (frG t old) (n : Int) = r := by unfold rmZ; rw [show ((4 + (n : Int)).toNat) = 4 + n by omega]; exact frG_lo (by omega) (by omega) c4
    have e13 : kiZ (frG t old) (n : Int) = x := by unfold kiZ; rw [show ((13 + (n : Int)).toNat) = 13 + n by omega]; exact frG_lo (by omega) (by omega) c6
    have e37 : exZ (frG t old) (n : Int) = 0 := by unfold exZ; rw [show ((37 + (n : Int)).toNat) = 37 + n by omega]; exact frG_mid (by omega) (by omega)
    have el : lefZ (frG t old) (n : Int) = r := by
      unfold lefZ
      rw [e4, e37, g34]
      show r - 0 - 0 = r
      omega
    show (1 ≤ rmZ _ _ ∧ rmZ _ _ ≤ 99) ∧ (-1 ≤ kiZ _ _ ∧ kiZ _ _ < _) ∧ 0 ≤ exZ _ _ ∧ 0 ≤ lefZ _ _
    rw [e4, e13, e37, el, g0]
    omega
  · have hkd : 0 ≤ k ∧ k < frG t old 1 := hkd
    rw [g1] at hkd
    obtain ⟨n, rfl⟩ := Int.eq_ofNat_of_zero_le hkd.1
    obtain ⟨-, z, y, c1, c2, -, c4, -, c6⟩ := hk4 n (by omega)
    have e22 : szZ (frG t old) (n : Int) = z := by unfold szZ; rw [show ((22 + (n : Int)).toNat) = 22 + n by omega]; exact frG_lo (by omega) (by omega) c4
    have e28 : soZ (frG t old) (n : Int) = y := by unfold soZ; rw [show ((28 + (n : Int)).toNat) = 28 + n by omega]; exact frG_lo (by omega) (by omega) c6
    show (1 ≤ szZ _ _ ∧ szZ _ _ ≤ 9) ∧ (0 ≤ soZ _ _ ∧ soZ _ _ ≤ 4)
    rw [e22, e28]
    omega
  · have he : 0 ≤ e ∧ e < frG t old 34 := he
    rw [g34] at he
    omega
/-- the class's fresh ledger -/
theorem y_begin (s : SM) : ∃ s', mX4_begin s 31 5 = s' ∧ rX4_begin s 31 5 ∧ gI s' 31 9 = 0 ∧ gI s' 31 10 = 0 ∧ gI s' 31 14 = 0 ∧ (∀ b, b < 9 → gI s' 38 b = gI s 7 b ∧ gI s' 39 b = 0) ∧ Fp (fun c i => (c = 31 ∧ (i = 9 ∨ i = 10 ∨ i = 14)) ∨ c = 38 ∨ c = 39) s s' := by
  obtain ⟨s0, hs0⟩ : ∃ s0, s0 = pI (pI (pI s 31 9 0) 31 10 0) 31 14 0 := ⟨_, rfl⟩
  have f0 : Fp (fun c i => (c = 31 ∧ (i = 9 ∨ i = 10 ∨ i = 14)) ∨ c = 38 ∨ c = 39) s s0 := by rw [hs0]; exact Fp_tr (Fp_p _ (by omega)) (Fp_tr (Fp_p _ (by omega)) (Fp_p _ (by omega)))
  obtain ⟨s', ⟨i1, i2⟩, st⟩ := ST_up (B := 1) 9 (fun (d : Nat) (u : SM) => (∀ b, b < d → gI u 38 b = gI s 7 b ∧ gI u 39 b = 0) ∧ Fp (fun c i => c = 38 ∨ c = 39) s0 u) (fun d u m => lX4_begin m u 31 5 (zI (d : Int))) (fun d u m => qX4_begin m u 31 5 (zI (d : Int))) (fun d u hd ⟨a1, a2⟩ => by
    have n1 : ¬ 9 ≤ zI (d : Int) := by rw [show (9 : Int32) = zI 9 from rfl, z_le (by omega) (by omega)]; omega
    have cj : (zI (d : Int)).toNatClampNeg = d := by rw [z_cl (by omega)]; exact Int.toNat_natCast _
    have e1 : zI (d : Int) + 1 = zI ((d + 1 : Nat) : Int) := by rw [zl1, z_add]; congr 1
    have vi : vp_in (zI (d : Int)) 9 := by rw [z_in (by omega)]; omega
    have e7 : gI u (5 + 2) d = gI s 7 d := (a2.1 7 d (by omega)).trans (f0.1 7 d (by omega))
    refine ⟨pI (pI u 38 d (gI s 7 d)) 39 d 0, ⟨fun b hb => ?_, Fp_tr a2 (Fp_tr (Fp_p _ (by omega)) (Fp_p _ (by omega)))⟩, ST_1 fun m => ?_⟩
    · rw [gI_pI, if_neg (by omega), gI_pI, gI_pI, gI_pI]
      by_cases hq : b = d
      · rw [if_pos ⟨rfl, hq⟩, if_pos ⟨rfl, hq⟩, hq]; exact ⟨rfl, rfl⟩
      · rw [if_neg (by omega), if_neg (by omega), if_neg (by omega)]; exact a1 b (by omega)
    · show tX4_begin_17 (lX4_begin m) u 31 5 (zI (d : Int)) = _ ∧ (_ → uX4_begin_17 (qX4_begin m) u 31 5 (zI (d : Int)))
      unfold tX4_begin_17 uX4_begin_17
      rw [if_neg n1, cj, e7, e1]
      exact ⟨rfl, fun hh _ => ⟨vi, vi, vi, hh⟩⟩) 9 0 s0 (by omega) ⟨fun b h => absurd h (by omega), Fp_rf _ _⟩
  have l9 : (9 : Int32) ≤ zI ((9 : Nat) : Int) := by decide
  obtain ⟨E, R⟩ := ST_fu (ST_trans st (ST_1 (F' := fun _ => s') (C' := fun _ => True) (fun m => by
    show tX4_begin_17 (lX4_begin m) s' 31 5 (zI ((9 : Nat) : Int)) = _ ∧ (_ → uX4_begin_17 (qX4_begin m) s' 31 5 (zI ((9 : Nat) : Int)))
    unfold tX4_begin_17 uX4_begin_17
    rw [if_pos l9]
    exact ⟨rfl, fun _ hc => absurd l9 hc⟩))) (by omega)
  have ff : Fp (fun c i => (c = 31 ∧ (i = 9 ∨ i = 10 ∨ i = 14)) ∨ c = 38 ∨ c = 39) s s' := Fp_tr f0 (Fp_mo i2 (fun c i hc => by omega))
  refine ⟨s', by unfold mX4_begin fX4_begin; rw [← hs0]; exact E, by unfold rX4_begin; rw [← hs0]; exact R, ?_, ?_, ?_, i1, ff⟩
  · rw [i2.1 31 9 (by omega), hs0, gI_pI, if_neg (by omega), gI_pI, if_neg (by omega), gI_pI, if_pos ⟨rfl, rfl⟩]
  · rw [i2.1 31 10 (by omega), hs0, gI_pI, if_neg (by omega), gI_pI, if_pos ⟨rfl, rfl⟩]
  · rw [i2.1 31 14 (by omega), hs0, gI_pI, if_pos ⟨rfl, rfl⟩]
end
