-- needs: 6a.text 69z.feed
/-! marks in the text -/
def NmT (s : SM) (g : Nat → Int) : Prop := (∀ b : Nat, (b : Int) < g 0 → gL s 6 b = gL s 253 b) ∧ ∀ k : Nat, (k : Int) < g 1 → gL s 9 k = gL s 253 (9 + k)
def stB (x : Int) : List Int := if x = 1 then [120, 59] else if x = 2 then [111, 59] else [59]
def aftB (N : Nat → Int64) (g : Nat → Int) (d : Int) : List Int := 32 :: (nmB (N (9 + (oZ g d 3).toNat)) 7 ++ stB (oZ g d 5))
def midB (g : Nat → Int) (d w : Int) : List Int := if hasZ (oZ g d 8) w then [63] else nuB (oZ g d 2)
def mkL (N : Nat → Int64) (g : Nat → Int) (m : Int) : List Int := ((if m % 2 = 0 then 43 else 45) :: 32 :: nmB (N (oZ g (m / 2) (1 - m % 2)).toNat) 7) ++ (32 :: midB g (m / 2) (m % 2)) ++ aftB N g (m / 2)
theorem stB_l (x : Int) : (stB x).length ≤ 2 := by unfold stB; split; exact Nat.le_refl 2; split; exact Nat.le_refl 2; exact Nat.le_succ 1
theorem aftB_l (N : Nat → Int64) (g : Nat → Int) (d : Int) : (aftB N g d).length ≤ 10 := by
  unfold aftB
  rw [List.length_cons, List.length_append]
  have := nmB_l (N (9 + (oZ g d 3).toNat)) 7
  have := stB_l (oZ g d 5)
  omega
theorem midB_l (g : Nat → Int) (d w : Int) : (midB g d w).length ≤ 2 := by unfold midB; split; exact Nat.le_succ 1; exact nuB_l _
theorem mkL_l (N : Nat → Int64) (g : Nat → Int) (m : Int) : (mkL N g m).length ≤ 22 := by
  unfold mkL
  rw [List.length_append, List.length_append, List.length_cons, List.length_cons, List.length_cons]
  have := nmB_l (N (oZ g (m / 2) (1 - m % 2)).toNat) 7
  have := midB_l g (m / 2) (m % 2)
  have := aftB_l N g (m / 2)
  omega
section
variable {s : SM} {g : Nat → Int} {w : List Int}
theorem y_aft (h : TxY s w) (hl : LdS s 31 g) (hw : WF g) {d : Int} (hd : dlZ g d) (hn : NmT s g) (hlen : w.length + 10 ≤ 2640) (a2 a3 : Int32) : ∃ t, (lX11_addMark FU).1 s (zI d) a2 a3 = t ∧ (qX11_addMark FU).1 s (zI d) a2 a3 ∧ TxY t (w ++ aftB (gL s 253) g d) ∧ Fp TyA s t := by
  have hwd := hw.wd hd
  have h0 := hw.w0
  have hl0 := nmB_l (gL s 253 (9 + (oZ g d 3).toNat)) 7
  obtain ⟨t1, p1, p2, p3, p4⟩ := y_tput h (by omega) 32
  have n1 := n_f hl hw hd
  have n2 := n_f (LdS_fp hl p4 (fun c i h1 h2 => by omega)) hw hd
  have c3 : (zI (oZ g d 3)).toNatClampNeg = (oZ g d 3).toNat := z_cl (by omega)
  have hk : gL t1 9 (oZ g d 3).toNat = gL s 253 (9 + (oZ g d 3).toNat) := by rw [p4.2.1]; exact hn.2 _ (by omega)
  obtain ⟨t2, o1, o2, o3, o4⟩ := y_tname p3 (by rw [List.length_append, List.length_singleton]; omega) (gL s 253 (9 + (oZ g d 3).toNat))
  have q2 := Fp_tr p4 o4
  have n3 := n_f (LdS_fp hl q2 (fun c i h1 h2 => by omega)) hw hd
  have lt2 : ((w ++ [32]) ++ nmB (gL s 253 (9 + (oZ g d 3).toNat)) 7).length ≤ w.length + 8 := by rw [List.length_append, List.length_append, List.length_singleton]; omega
  have fin : ∀ t3, (if zI (oZ g d 5) = 1 then (lX11_addMark (FU - 1)).2 (mX10_add t2 120) (zI d) a2 a3 else (lX11_addMark (FU - 1)).2 t2 (zI d) a2 a3) = t3 → True := fun _ _ => trivial
  have hx : ∃ t, ST 2 (fun n => (lX11_addMark n).1 s (zI d) a2 a3) (fun n => (qX11_addMark n).1 s (zI d) a2 a3) (fun _ => t) (fun _ => True) ∧ TxY t (((w ++ [32]) ++ nmB (gL s 253 (9 + (oZ g d 3).toNat)) 7) ++ stB (oZ g d 5)) ∧ Fp TyA s t := by
    have st1 : ∀ (t3 : SM), (zI (oZ g d 5) = 1 → mX10_add t2 120 = t3 ∧ rX10_add t2 120) → (¬ zI (oZ g d 5) = 1 → t2 = t3) → ST 1 (fun n => (lX11_addMark n).1 s (zI d) a2 a3) (fun n => (qX11_addMark n).1 s (zI d) a2 a3) (fun n => (lX11_addMark n).2 t3 (zI d) a2 a3) (fun n => (qX11_addMark n).2 t3 (zI d) a2 a3) := by
      intro t3 k1 k2
      refine ST_1 fun m => ?_
      show tX11_addMark_118 _ _ _ _ _ = _ ∧ (_ → uX11_addMark_118 _ _ _ _ _)
      unfold tX11_addMark_118 uX11_addMark_118
      rw [show (32 : Int32) = zI 32 from rfl, p1, n2.2.2.2.1, c3, hk, o1]
      dsimp only
      rw [n3.2.2.2.2.2.1]
      refine ⟨?_, fun hh => ⟨p2, y_vp hw hd, by rw [z_in (by omega)]; omega, o2, fun s3 hs => ?_⟩⟩
      · by_cases c : zI (oZ g d 5) = 1
        · rw [if_pos c, (k1 c).1]
        · rw [if_neg c, k2 c]
      · rw [hs, n3.2.2.2.2.2.1]
        exact ⟨y_vp hw hd, fun c => by rw [k2 c]; exact hh, fun c => by rw [(k1 c).1]; exact ⟨(k1 c).2, hh⟩⟩
    have st2 : ∀ (t3 t : SM), LdS t3 31 g → (zI (oZ g d 5) = 2 → mX10_add (mX10_add t3 111) 59 = t ∧ rX10_add t3 111 ∧ rX10_add (mX10_add t3 111) 59) → (¬ zI (oZ g d 5) = 2 → mX10_add t3 59 = t ∧ rX10_add t3 59) → ST 1 (fun n => (lX11_addMark n).2 t3 (zI d) a2 a3) (fun n => (qX11_addMark n).2 t3 (zI d) a2 a3) (fun _ => t) (fun _ => True) := by
      intro t3 t hl3 k1 k2
      refine ST_1 fun m => ?_
      show tX11_addMark_173 (lX11_addMark m) t3 (zI d) a2 a3 = _ ∧ (_ → uX11_addMark_173 (qX11_addMark m) t3 (zI d) a2 a3)
      unfold tX11_addMark_173 uX11_addMark_173
      rw [(n_f hl3 hw hd).2.2.2.2.2.1]
      refine ⟨?_, fun _ => ⟨y_vp hw hd, fun c => (k2 c).2, fun c => (k1 c).2⟩⟩
      by_cases c : zI (oZ g d 5) = 2
      · rw [if_pos c, (k1 c).1]
      · rw [if_neg c, (k2 c).1]
    have e1 : zI (oZ g d 5) = 1 ↔ oZ g d 5 = 1 := by rw [zl1, z_eq (by omega) (by omega)]
    have e2 : zI (oZ g d 5) = 2 ↔ oZ g d 5 = 2 := by rw [zl2, z_eq (by omega) (by omega)]
    unfold stB
    by_cases c1 : oZ g d 5 = 1
    · obtain ⟨t3, i1, i2, i3, i4⟩ := y_tput o3 (by omega) 120
      obtain ⟨t4, j1, j2, j3, j4⟩ := y_tput i3 (by rw [List.length_append, List.length_singleton]; omega) 59
      have f3 := Fp_tr q2 i4
      refine ⟨t4, ST_trans (st1 t3 (fun _ => ⟨i1, i2⟩) (fun hc => absurd (e1.mpr c1) hc)) (st2 t3 t4 (LdS_fp hl f3 (fun c i h1 h2 => by omega)) (fun hc => absurd (e2.mp hc) (by omega)) (fun _ => ⟨j1, j2⟩)), ?_, Fp_tr f3 j4⟩
      rw [if_pos c1]
      rw [List.append_assoc] at j3
      exact j3
    · rw [if_neg c1]
      by_cases c2 : oZ g d 5 = 2
      · obtain ⟨t3, i1, i2, i3, i4⟩ := y_tput o3 (by omega) 111
        obtain ⟨t4, j1, j2, j3, j4⟩ := y_tput i3 (by rw [List.length_append, List.length_singleton]; omega) 59
        have i1' : mX10_add t2 111 = t3 := i1
        refine ⟨t4, ST_trans (st1 t2 (fun hc => absurd (e1.mp hc) c1) (fun _ => rfl)) (st2 t2 t4 (LdS_fp hl q2 (fun c i h1 h2 => by omega)) (fun _ => ⟨by rw [i1']; exact j1, i2, by rw [i1']; exact j2⟩) (fun hc => absurd (e2.mpr c2) hc)), ?_, Fp_tr q2 (Fp_tr i4 j4)⟩
        rw [if_pos c2]
        rw [List.append_assoc] at j3
        exact j3
      · obtain ⟨t4, j1, j2, j3, j4⟩ := y_tput o3 (by omega) 59
        refine ⟨t4, ST_trans (st1 t2 (fun hc => absurd (e1.mp hc) c1) (fun _ => rfl)) (st2 t2 t4 (LdS_fp hl q2 (fun c i h1 h2 => by omega)) (fun hc => absurd (e2.mp hc) c2) (fun _ => ⟨j1, j2⟩)), ?_, Fp_tr q2 j4⟩
        rw [if_neg c2]
        exact j3
  obtain ⟨t, st, ht, hf⟩ := hx
  obtain ⟨E, R⟩ := ST_fu st (by omega)
  refine ⟨t, E, R, ?_, hf⟩
  rw [List.append_assoc, List.append_assoc] at ht
  exact ht
theorem y_isScar (hl : LdS s 31 g) (hw : WF g) {d x : Int} (hd : dlZ g d) : vX4_isScarred s 31 5 (zI d) (zI x) = bI (hasZ (oZ g d 8) x) ∧ rX4_isScarred s 31 5 (zI d) (zI x) := by
  unfold vX4_isScarred rX4_isScarred
  rw [(n_f hl hw hd).2.2.2.2.2.2.2.2]
  exact ⟨rfl, y_vp hw hd⟩
theorem y_addMark (h : TxY s w) (hl : LdS s 31 g) (hw : WF g) {d x : Int} (hd : dlZ g d) (hx : x = 0 ∨ x = 1) (hn : NmT s g) (hlen : w.length + 22 ≤ 2640) : ∃ t, mX11_addMark s (zI d) (zI x) = t ∧ rX11_addMark s (zI d) (zI x) ∧ TxY t (w ++ mkL (gL s 253) g (2 * d + x)) ∧ Fp TyA s t := by
  have hwd := hw.wd hd
  have h0 := hw.w0
  have key : ∀ (cc o : Int), bdyZ g o → ∃ t1 t2 t3 t4, (mX10_add s (zI cc) = t1 ∧ rX10_add s (zI cc)) ∧ (mX10_add t1 32 = t2 ∧ rX10_add t1 32) ∧ (mX10_addName t2 (gL t2 6 o.toNat) = t3 ∧ rX10_addName t2 (gL t2 6 o.toNat)) ∧ (mX10_add t3 32 = t4 ∧ rX10_add t3 32) ∧ TxY t4 (w ++ ((cc :: 32 :: nmB (gL s 253 o.toNat) 7) ++ [32])) ∧ Fp TyA s t4 := by
    intro cc o ho
    have l0 := nmB_l (gL s 253 o.toNat) 7
    obtain ⟨t1, a1, a2, a3, a4⟩ := y_tput h (by omega) cc
    obtain ⟨t2, b1, b2, b3, b4⟩ := y_tput a3 (by rw [List.length_append, List.length_singleton]; omega) 32
    have hb : gL t2 6 o.toNat = gL s 253 o.toNat := by rw [(Fp_tr a4 b4).2.1]; exact hn.1 _ (by omega)
    obtain ⟨t3, c1, c2, c3, c4⟩ := y_tname b3 (by simp only [List.length_append, List.length_singleton]; omega) (gL s 253 o.toNat)
    obtain ⟨t4, d1, d2, d3, d4⟩ := y_tput c3 (by simp only [List.length_append, List.length_singleton]; omega) 32
    refine ⟨t1, t2, t3, t4, ⟨a1, a2⟩, ⟨b1, b2⟩, ⟨by rw [hb]; exact c1, by rw [hb]; exact c2⟩, ⟨d1, d2⟩, ?_, Fp_tr (Fp_tr a4 b4) (Fp_tr c4 d4)⟩
    simp only [List.append_assoc, List.cons_append, List.nil_append] at d3 ⊢
    exact d3
  have key2 : ∀ (t4 : SM) (w4 : List Int) (a3 : Int32), TxY t4 w4 → w4.length + 12 ≤ 2640 → Fp TyA s t4 → ∃ t, (if (vX4_isScarred t4 31 5 (zI d) (zI x)) = 0 then ((lX11_addMark FU).1 (mX10_addNumber t4 (gI t4 34 (zI d).toNatClampNeg)) (zI d) (zI x) a3) else ((lX11_addMark FU).1 (mX10_add t4 63) (zI d) (zI x) a3)) = t ∧ (((vX4_isScarred t4 31 5 (zI d) (zI x)) = 0 → vp_in (zI d) 60 ∧ rX10_addNumber t4 (gI t4 34 (zI d).toNatClampNeg) ∧ (qX11_addMark FU).1 (mX10_addNumber t4 (gI t4 34 (zI d).toNatClampNeg)) (zI d) (zI x) a3) ∧ (¬ (vX4_isScarred t4 31 5 (zI d) (zI x)) = 0 → rX10_add t4 63 ∧ (qX11_addMark FU).1 (mX10_add t4 63) (zI d) (zI x) a3)) ∧ TxY t (w4 ++ (midB g d x ++ aftB (gL s 253) g d)) ∧ Fp TyA s t := by
    intro t4 w4 a3 h4 l4 f4
    have hl4 := LdS_fp hl f4 (fun c i h1 h2 => by omega)
    have n4 : ∀ t, Fp TyA s t → NmT t g := fun t ft => by unfold NmT; rw [ft.2.1]; exact hn
    obtain ⟨e1, -⟩ := y_isScar hl4 hw (x := x) hd
    have e2 := (n_f hl4 hw hd).2.2.1
    have e2' : gI t4 34 (zI d).toNatClampNeg = zI (oZ g d 2) := e2
    unfold midB
    by_cases c : hasZ (oZ g d 8) x
    · have k : ¬ bI (hasZ (oZ g d 8) x) = 0 := by rw [bI_0]; exact fun hh => hh c
      obtain ⟨t5, a1, a2, a3', a4⟩ := y_tput h4 (by omega) 63
      have f5 := Fp_tr f4 a4
      have a1' : mX10_add t4 63 = t5 := a1
      obtain ⟨t, b1, b2, b3, b4⟩ := y_aft a3' (LdS_fp hl f5 (fun c i h1 h2 => by omega)) hw hd (n4 t5 f5) (by rw [List.length_append, List.length_singleton]; omega) (zI x) a3
      rw [e1, if_neg k, a1', if_pos c]
      refine ⟨t, b1, ⟨fun hc => absurd hc k, fun _ => ⟨a2, b2⟩⟩, ?_, Fp_tr f5 b4⟩
      rw [f5.2.1, List.append_assoc] at b3
      exact b3
    · have k : bI (hasZ (oZ g d 8) x) = 0 := by rw [bI_0]; exact c
      have l2 := nuB_l (oZ g d 2)
      obtain ⟨t5, a1, a2, a3', a4⟩ := y_tnum h4 (by omega) (m := oZ g d 2) (by omega)
      have f5 := Fp_tr f4 a4
      obtain ⟨t, b1, b2, b3, b4⟩ := y_aft a3' (LdS_fp hl f5 (fun c i h1 h2 => by omega)) hw hd (n4 t5 f5) (by rw [List.length_append]; omega) (zI x) a3
      rw [e1, if_pos k, e2', a1, if_neg c]
      refine ⟨t, b1, ⟨fun _ => ⟨y_vp hw hd, a2, b2⟩, fun hc => absurd k hc⟩, ?_, Fp_tr f5 b4⟩
      rw [f5.2.1, List.append_assoc] at b3
      exact b3
  have n1 := n_f hl hw hd
  rcases hx with rfl | rfl
  · obtain ⟨t1, t2, t3, t4, ⟨a1, a2⟩, ⟨b1, b2⟩, ⟨c1, c2⟩, ⟨d1, d2⟩, e1, e2⟩ := key 43 (oZ g d 1) (by omega)
    have l0 := nmB_l (gL s 253 (oZ g d 1).toNat) 7
    obtain ⟨t, f1, f2, f3, f4⟩ := key2 t4 _ (zI (oZ g d 1)) e1 (by simp only [List.length_append, List.length_cons, List.length_nil]; omega) e2
    have x0 : zI 0 = (0 : Int32) := rfl
    have nb : gI s 33 (zI d).toNatClampNeg = zI (oZ g d 1) := n1.2.1
    have cb : (zI (oZ g d 1)).toNatClampNeg = (oZ g d 1).toNat := z_cl (by omega)
    have a1' : mX10_add s 43 = t1 := a1
    unfold mX11_addMark fX11_addMark rX11_addMark
    rw [nb, cb]
    rw [x0] at f1 f2 ⊢
    simp only [if_true, not_true_eq_false, false_imp_iff, true_and, forall_const]
    rw [a1', b1, c1]
    rw [d1]
    refine ⟨t, f1, ⟨y_vp hw hd, a2, b2, by rw [z_in (by omega)]; omega, c2, fun s17 hs => by rw [hs, d1]; exact ⟨d2, y_vp hw hd, f2⟩⟩, ?_, f4⟩
    have m1 : (2 * d + 0) / 2 = d := by omega
    have m2 : (2 * d + 0) % 2 = 0 := by omega
    unfold mkL
    rw [m1, m2, if_pos rfl]
    simp only [List.append_assoc, List.cons_append, List.nil_append] at f3 ⊢
    exact f3
  · obtain ⟨t1, t2, t3, t4, ⟨a1, a2⟩, ⟨b1, b2⟩, ⟨c1, c2⟩, ⟨d1, d2⟩, e1, e2⟩ := key 45 (oZ g d 0) (by omega)
    have l0 := nmB_l (gL s 253 (oZ g d 0).toNat) 7
    obtain ⟨t, f1, f2, f3, f4⟩ := key2 t4 _ (zI (oZ g d 0)) e1 (by simp only [List.length_append, List.length_cons, List.length_nil]; omega) e2
    have x0 : zI 1 = (1 : Int32) := rfl
    have x1 : ¬ (1 : Int32) = 0 := by decide
    have nb : gI s 32 (zI d).toNatClampNeg = zI (oZ g d 0) := n1.1
    have cb : (zI (oZ g d 0)).toNatClampNeg = (oZ g d 0).toNat := z_cl (by omega)
    have a1' : mX10_add s 45 = t1 := a1
    unfold mX11_addMark fX11_addMark rX11_addMark
    rw [nb, cb]
    rw [x0] at f1 f2 ⊢
    simp only [x1, if_false, not_false_eq_true, false_imp_iff, and_true, forall_const]
    rw [a1', b1, c1]
    rw [d1]
    refine ⟨t, f1, ⟨y_vp hw hd, a2, b2, by rw [z_in (by omega)]; omega, c2, fun s17 hs => by rw [hs, d1]; exact ⟨d2, y_vp hw hd, f2⟩⟩, ?_, f4⟩
    have m1 : (2 * d + 1) / 2 = d := by omega
    have m2 : (2 * d + 1) % 2 = 1 := by omega
    unfold mkL
    rw [m1, m2, if_neg (by omega)]
    simp only [List.append_assoc, List.cons_append, List.nil_append] at f3 ⊢
    exact f3
end
