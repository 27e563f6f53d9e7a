-- needs: 6b.skin
section
variable {s : SM} {g : Nat → Int} {w : List Int}
theorem x_mark1 (h : TxX s w) (hr : RR s g) (hw : WF g) {m : Nat} (hm : (m : Int) < 2 * g 34) (hlen : w.length + 22 ≤ 2640) {a1 a2 : Int32} {k : Nat} (hk : ¬ a2 ≤ zI (k : Int)) (hk2 : k ≤ 1000) (em : vX12_markOf s a1 (zI (k : Int)) = zI (m : Int)) (rm : rX12_markOf s a1 (zI (k : Int))) : ∃ t, ST 2 (fun n => (lX12_skin n).1 s a1 a2 (zI (k : Int))) (fun n => (qX12_skin n).1 s a1 a2 (zI (k : Int))) (fun n => (lX12_skin n).1 t a1 a2 (zI ((k + 1 : Nat) : Int))) (fun n => (qX12_skin n).1 t a1 a2 (zI ((k + 1 : Nat) : Int))) ∧ TxX t (w ++ mkL (gL s 253) g (m : Int)) ∧ Fp TxA s t := by
  have h0 := hw.w0
  obtain ⟨d, hdd⟩ : ∃ d, d = (m : Int) / 2 := ⟨_, rfl⟩
  obtain ⟨x, hxx⟩ : ∃ x, x = (m : Int) % 2 := ⟨_, rfl⟩
  have hd : dlZ g d := ⟨by omega, by omega⟩
  have hwd := hw.wd hd
  have hx : x = 0 ∨ x = 1 := by omega
  have ed : zI (m : Int) / 2 = zI d := by rw [show (2 : Int32) = zI 2 from rfl, z_div (by omega) (by omega) (by omega), Int.tdiv_eq_ediv_of_nonneg (by omega), hdd]
  have ex : zI (m : Int) - zI d * 2 = zI x := by rw [show (2 : Int32) = zI 2 from rfl, z_mul, z_sub]; congr 1; omega
  have eo : 1 - zI x = zI (1 - x) := by rw [zl1, z_sub]
  have eoR : oZ g d (1 - x) = oZ g d 0 ∨ oZ g d (1 - x) = oZ g d 1 := by rcases hx with q | q <;> rw [q]; exact Or.inr rfl; exact Or.inl rfl
  have of0 : ∀ t, Fp TxA s t → ∀ v : Int, 0 ≤ v → v ≤ 8 → vX12_of t (zI d) (zI v) = zI (oZ g d v) ∧ rX12_of t (zI d) (zI v) := fun t ft v v0 v8 => by
    have hrt : RR t g := fun k => by rw [ft.1 250 k (by omega)]; exact hr k
    exact ⟨x_of hrt (by omega) (by omega), x_of_r t (by omega) (by omega)⟩
  have cz : ∀ v : Int, 0 ≤ v → v ≤ 29 → (zI v).toNatClampNeg = v.toNat := fun v v0 v1 => z_cl (by omega)
  have vz : ∀ v : Int, 0 ≤ v → v ≤ 29 → vp_in (zI v) 30 := fun v v0 v1 => by rw [z_in (by omega)]; omega
  obtain ⟨cc, hcc⟩ : ∃ cc : Int, cc = if x = 0 then 43 else 45 := ⟨_, rfl⟩
  have hcr : 0 ≤ cc ∧ cc < 256 := by rw [hcc]; split <;> omega
  have ecc : (if zI x = 0 then (43 : Int32) else 45) = zI cc := by
    rcases hx with q | q <;> rw [hcc, q] <;> rfl
  have l0 := nmB_l (gL s 253 (oZ g d (1 - x)).toNat) 7
  have l1 := midB_l g d x
  have l2 := aftB_l (gL s 253) g d
  obtain ⟨t1, a1', a2', a3', a4'⟩ := x_tput h (by omega) hcr
  obtain ⟨t2, b1, b2, b3, b4⟩ := x_tput a3' (v := 32) (by rw [List.length_append, List.length_singleton]; omega) (by omega)
  have f2 := Fp_tr a4' b4
  obtain ⟨t3, c1, c2, c3, c4⟩ := x_tname b3 (by simp only [List.length_append, List.length_singleton]; omega) (gL s 253 (oZ g d (1 - x)).toNat)
  have f3 := Fp_tr f2 c4
  obtain ⟨t4, d1, d2, d3, d4⟩ := x_tput c3 (v := 32) (by simp only [List.length_append, List.length_singleton]; omega) (by omega)
  have f4 := Fp_tr f3 d4
  obtain ⟨o1, r1⟩ := of0 t2 f2 (1 - x) (by omega) (by omega)
  obtain ⟨o2, r2⟩ := of0 t4 f4 8 (by omega) (by omega)
  obtain ⟨o3, r3⟩ := of0 t4 f4 2 (by omega) (by omega)
  have hg2 : gL t2 253 = gL s 253 := by rw [f2.2.1]
  have hmid : ∃ t5, ST 1 (fun n => (lX12_skin n).1 s a1 a2 (zI (k : Int))) (fun n => (qX12_skin n).1 s a1 a2 (zI (k : Int))) (fun n => (lX12_skin n).2 t5 a1 a2 (zI (k : Int)) (zI (m : Int)) (zI d)) (fun n => (qX12_skin n).2 t5 a1 a2 (zI (k : Int)) (zI (m : Int)) (zI d)) ∧ TxX t5 (((((w ++ [cc]) ++ [32]) ++ nmB (gL s 253 (oZ g d (1 - x)).toNat) 7) ++ [32]) ++ midB g d x) ∧ Fp TxA s t5 := by
    have one : ∀ t5, (hasZ (oZ g d 8) x → mX12_put t4 63 = t5 ∧ rX12_put t4 63) → (¬ hasZ (oZ g d 8) x → mX12_putNumber t4 (zI (oZ g d 2)) = t5 ∧ rX12_putNumber t4 (zI (oZ g d 2))) → ST 1 (fun n => (lX12_skin n).1 s a1 a2 (zI (k : Int))) (fun n => (qX12_skin n).1 s a1 a2 (zI (k : Int))) (fun n => (lX12_skin n).2 t5 a1 a2 (zI (k : Int)) (zI (m : Int)) (zI d)) (fun n => (qX12_skin n).2 t5 a1 a2 (zI (k : Int)) (zI (m : Int)) (zI d)) := by
      intro t5 k1 k2
      refine ST_1 fun n => ?_
      show tX12_skin_29 (lX12_skin n) s a1 a2 (zI (k : Int)) = _ ∧ (_ → uX12_skin_29 (qX12_skin n) s a1 a2 (zI (k : Int)))
      have o2' : vX12_of t4 (zI d) 8 = zI (oZ g d 8) := o2
      have o3' : vX12_of t4 (zI d) 2 = zI (oZ g d 2) := o3
      have b1' : mX12_put t1 32 = t2 := b1
      have d1' : mX12_put t3 32 = t4 := d1
      have hidx : (zI (oZ g d (1 - x))).toNatClampNeg = (oZ g d (1 - x)).toNat := cz _ (by omega) (by omega)
      unfold tX12_skin_29 uX12_skin_29
      rw [if_neg hk, em, ed, ex, eo, ecc, a1']
      dsimp only
      rw [b1', o1, hidx, hg2, c1, d1', o2', x_has, o3']
      refine ⟨?_, fun hh _ => ⟨rm, a2', fun s1 hs1 => ?_⟩⟩
      · by_cases c : hasZ (oZ g d 8) x
        · have kk : ¬ bI (hasZ (oZ g d 8) x) = 0 := by rw [bI_0]; exact fun hh => hh c
          rw [if_neg kk, (k1 c).1]
        · have kk : bI (hasZ (oZ g d 8) x) = 0 := by rw [bI_0]; exact c
          rw [if_pos kk, (k2 c).1]
      · rw [hs1, b1', o1, hidx, hg2, c1]
        refine ⟨b2, r1, vz _ (by omega) (by omega), c2, fun s3 hs3 => ?_⟩
        rw [hs3, d1', o2', x_has, o3']
        refine ⟨d2, r2, fun c0 => ?_, fun c0 => ?_⟩
        · have c := (bI_0 _).mp c0
          rw [(k2 c).1]
          exact ⟨r3, (k2 c).2, fun s4 hs4 => by rw [hs4]; exact hh⟩
        · have c : hasZ (oZ g d 8) x := Classical.byContradiction fun hc => c0 ((bI_0 _).mpr hc)
          rw [(k1 c).1]
          exact ⟨(k1 c).2, hh⟩
    unfold midB
    by_cases c : hasZ (oZ g d 8) x
    · obtain ⟨t5, i1, i2, i3, i4⟩ := x_tput d3 (v := 63) (by simp only [List.length_append, List.length_singleton]; omega) (by omega)
      rw [if_pos c]
      exact ⟨t5, one t5 (fun _ => ⟨i1, i2⟩) (fun hc => absurd c hc), i3, Fp_tr f4 i4⟩
    · obtain ⟨t5, i1, i2, i3, i4⟩ := x_tnum d3 (m := oZ g d 2) (by simp only [List.length_append, List.length_singleton]; omega) (by omega)
      rw [if_neg c]
      exact ⟨t5, one t5 (fun hc => absurd hc c) (fun _ => ⟨i1, i2⟩), i3, Fp_tr f4 i4⟩
  obtain ⟨t5, st, h5, f5⟩ := hmid
  have le5 : (((((w ++ [cc]) ++ [32]) ++ nmB (gL s 253 (oZ g d (1 - x)).toNat) 7) ++ [32]) ++ midB g d x).length ≤ w.length + 12 := by simp only [List.length_append, List.length_singleton]; omega
  obtain ⟨t6, e1, e2, e3, e4⟩ := x_tput h5 (v := 32) (by omega) (by omega)
  have f6 := Fp_tr f5 e4
  obtain ⟨o4, r4⟩ := of0 t6 f6 3 (by omega) (by omega)
  have hg6 : gL t6 253 = gL s 253 := by rw [f6.2.1]
  have l3 := nmB_l (gL s 253 (9 + oZ g d 3).toNat) 7
  obtain ⟨t7, i1, i2, i3, i4⟩ := x_tname e3 (by rw [List.length_append, List.length_singleton]; omega) (gL s 253 (9 + oZ g d 3).toNat)
  have f7 := Fp_tr f6 i4
  obtain ⟨o5, r5⟩ := of0 t7 f7 5 (by omega) (by omega)
  have two : ∀ t, (oZ g d 5 ≤ 0 → mX12_put t7 59 = t ∧ rX12_put t7 59) → (¬ oZ g d 5 ≤ 0 → mX12_put (mX12_put t7 (if zI (oZ g d 5) = 1 then 120 else 111)) 59 = t ∧ rX12_put t7 (if zI (oZ g d 5) = 1 then 120 else 111) ∧ rX12_put (mX12_put t7 (if zI (oZ g d 5) = 1 then 120 else 111)) 59) → ST 1 (fun n => (lX12_skin n).2 t5 a1 a2 (zI (k : Int)) (zI (m : Int)) (zI d)) (fun n => (qX12_skin n).2 t5 a1 a2 (zI (k : Int)) (zI (m : Int)) (zI d)) (fun n => (lX12_skin n).1 t a1 a2 (zI ((k + 1 : Nat) : Int))) (fun n => (qX12_skin n).1 t a1 a2 (zI ((k + 1 : Nat) : Int))) := by
    intro t k1 k2
    refine ST_1 fun n => ?_
    show tX12_skin_137 (lX12_skin n) t5 a1 a2 (zI (k : Int)) (zI (m : Int)) (zI d) = _ ∧ (_ → uX12_skin_137 (qX12_skin n) t5 a1 a2 (zI (k : Int)) (zI (m : Int)) (zI d))
    have e1' : mX12_put t5 32 = t6 := e1
    have o4' : vX12_of t6 (zI d) 3 = zI (oZ g d 3) := o4
    have o5' : vX12_of t7 (zI d) 5 = zI (oZ g d 5) := o5
    have e9 : 9 + zI (oZ g d 3) = zI (9 + oZ g d 3) := by rw [show (9 : Int32) = zI 9 from rfl, z_add]
    have ek : zI (k : Int) + 1 = zI ((k + 1 : Nat) : Int) := by rw [zl1, z_add]; congr 1
    have hidx : (zI (9 + oZ g d 3)).toNatClampNeg = (9 + oZ g d 3).toNat := cz _ (by omega) (by omega)
    unfold tX12_skin_137 uX12_skin_137
    rw [e1', o4', e9, hidx, hg6, i1]
    dsimp only
    rw [o5', ek]
    by_cases c : oZ g d 5 ≤ 0
    · have kk : zI (oZ g d 5) ≤ 0 := by rw [zl0, z_le (by omega) (by omega)]; exact c
      rw [if_pos kk, (k1 c).1]
      refine ⟨rfl, fun hh => ⟨e2, r4, vz _ (by omega) (by omega), i2, fun s2 hs => ?_⟩⟩
      rw [hs, o5', (k1 c).1]
      exact ⟨r5, fun _ => ⟨(k1 c).2, hh⟩, fun hc => absurd kk hc⟩
    · have kk : ¬ zI (oZ g d 5) ≤ 0 := by rw [zl0, z_le (by omega) (by omega)]; exact c
      rw [if_neg kk, (k2 c).1]
      refine ⟨rfl, fun hh => ⟨e2, r4, vz _ (by omega) (by omega), i2, fun s2 hs => ?_⟩⟩
      rw [hs, o5']
      exact ⟨r5, fun hc => absurd hc kk, fun _ => ⟨r5, (k2 c).2.1, (k2 c).2.2, fun s4 hs4 => by rw [hs4, (k2 c).1]; exact hh⟩⟩
  have l7 : ((((((w ++ [cc]) ++ [32]) ++ nmB (gL s 253 (oZ g d (1 - x)).toNat) 7) ++ [32]) ++ midB g d x ++ [32]) ++ nmB (gL s 253 (9 + oZ g d 3).toNat) 7).length ≤ w.length + 20 := by rw [List.length_append, List.length_append, List.length_singleton]; omega
  have fin : ∀ t, TxX t (((((((w ++ [cc]) ++ [32]) ++ nmB (gL s 253 (oZ g d (1 - x)).toNat) 7) ++ [32]) ++ midB g d x ++ [32]) ++ nmB (gL s 253 (9 + oZ g d 3).toNat) 7) ++ stB (oZ g d 5)) → TxX t (w ++ mkL (gL s 253) g (m : Int)) := by
    intro t ht
    unfold mkL aftB
    rw [← hdd, ← hxx, ← hcc, show 9 + (oZ g d 3).toNat = (9 + oZ g d 3).toNat by omega]
    simp only [List.append_assoc, List.cons_append, List.nil_append] at ht ⊢
    exact ht
  have z1 : zI (oZ g d 5) = 1 ↔ oZ g d 5 = 1 := by rw [zl1, z_eq (by omega) (by omega)]
  by_cases c : oZ g d 5 ≤ 0
  · obtain ⟨t8, j1, j2, j3, j4⟩ := x_tput i3 (v := 59) (by omega) (by omega)
    exact ⟨t8, ST_trans st (two t8 (fun _ => ⟨j1, j2⟩) (fun hc => absurd c hc)), fin t8 (by unfold stB; rw [if_neg (by omega), if_neg (by omega)]; exact j3), Fp_tr f7 j4⟩
  · by_cases c1 : oZ g d 5 = 1
    · obtain ⟨t8, j1, j2, j3, j4⟩ := x_tput i3 (v := 120) (by omega) (by omega)
      obtain ⟨t9, m1, m2, m3, m4⟩ := x_tput j3 (v := 59) (by rw [List.length_append, List.length_singleton]; omega) (by omega)
      have j1' : mX12_put t7 120 = t8 := j1
      refine ⟨t9, ST_trans st (two t9 (fun hc => absurd hc c) (fun _ => ?_)), fin t9 (by unfold stB; rw [if_pos c1]; rw [List.append_assoc] at m3; exact m3), Fp_tr f7 (Fp_tr j4 m4)⟩
      rw [if_pos (z1.mpr c1), j1']
      exact ⟨m1, j2, m2⟩
    · obtain ⟨t8, j1, j2, j3, j4⟩ := x_tput i3 (v := 111) (by omega) (by omega)
      obtain ⟨t9, m1, m2, m3, m4⟩ := x_tput j3 (v := 59) (by rw [List.length_append, List.length_singleton]; omega) (by omega)
      have j1' : mX12_put t7 111 = t8 := j1
      refine ⟨t9, ST_trans st (two t9 (fun hc => absurd hc c) (fun _ => ?_)), fin t9 (by unfold stB; rw [if_neg c1, if_pos (by omega)]; rw [List.append_assoc] at m3; exact m3), Fp_tr f7 (Fp_tr j4 m4)⟩
      rw [if_neg (fun hc => c1 (z1.mp hc)), j1']
      exact ⟨m1, j2, m2⟩
end
