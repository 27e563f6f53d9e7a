-- needs: 6c.skin
/-! the skin's whole text -/
def cn (p : Int → Prop) [DecidablePred p] : Nat → Nat
  | 0 => 0
  | e + 1 => cn p e + if p (e : Int) then 1 else 0
theorem cn_s (p : Int → Prop) [DecidablePred p] : ∀ n, ((cn p n : Nat) : Int) = sumZ (fun e => if p e then 1 else 0) n := by
  intro n
  induction n with
  | zero => rfl
  | succ n ih =>
    show ((cn p n + if p (n : Int) then 1 else 0 : Nat) : Int) = sumZ (fun e => if p e then 1 else 0) n + (if p (n : Int) then 1 else 0)
    rw [← ih]
    split <;> omega
theorem cn_le (p : Int → Prop) [DecidablePred p] (n : Nat) : ∀ r, cn p n ≤ cn p (n + r) ∧ cn p (n + r) ≤ cn p n + r := by
  intro r
  induction r with
  | zero => exact ⟨Nat.le_refl _, Nat.le_refl _⟩
  | succ r ih =>
    have e : cn p (n + (r + 1)) = cn p (n + r) + if p ((n + r : Nat) : Int) then 1 else 0 := rfl
    rw [e]
    split <;> omega
theorem cn_n (p : Int → Prop) [DecidablePred p] (n : Nat) : cn p n ≤ n := by
  have h := (cn_le p 0 n).2
  rw [Nat.zero_add] at h
  have e : cn p 0 = 0 := rfl
  omega
theorem run_kth (p : Int → Prop) [DecidablePred p] (r : Nat → Int32) (f : Nat → Int32) {k : Nat} (hk : k ≤ 1000) : ∀ n d m, m + n ≤ 1000 → m ≤ k → k + cn p d < m + cn p (d + n) → ∃ e, d ≤ e ∧ e < d + n ∧ p (e : Int) ∧ cn p e + m = cn p d + k ∧ run (stK p (zI (k : Int)) r) f n d m = r e := by
  intro n
  induction n with
  | zero => intro d m _ h1 h2; rw [Nat.add_zero] at h2; omega
  | succ n ih =>
    intro d m hm h1 h2
    have e1 : cn p (d + 1) = cn p d + if p (d : Int) then 1 else 0 := rfl
    have e2 : d + 1 + n = d + (n + 1) := by omega
    unfold run stK
    by_cases hp : p (d : Int)
    · rw [if_pos hp] at e1
      by_cases hq : m = k
      · have hz : zI (m : Int) = zI (k : Int) := by rw [hq]
        simp only [if_pos hp, if_pos hz]
        exact ⟨d, Nat.le_refl _, by omega, hp, by omega, rfl⟩
      · have hz : ¬ zI (m : Int) = zI (k : Int) := by rw [z_eq (by omega) (by omega)]; omega
        simp only [if_pos hp, if_neg hz]
        obtain ⟨e, a, b, c, dd, ee⟩ := ih (d + 1) (m + 1) (by omega) (by omega) (by rw [e2]; omega)
        exact ⟨e, by omega, by omega, c, by omega, ee⟩
    · rw [if_neg hp] at e1
      simp only [if_neg hp]
      obtain ⟨e, a, b, c, dd, ee⟩ := ih (d + 1) m (by omega) (by omega) (by rw [e2]; omega)
      exact ⟨e, by omega, by omega, c, by omega, ee⟩
def txt (N : Nat → Int64) (g : Nat → Int) (b : Int) : Nat → List Int
  | 0 => []
  | m + 1 => txt N g b m ++ (if mkP g b (m : Int) then mkL N g (m : Int) else [])
theorem txt_l (N : Nat → Int64) (g : Nat → Int) (b : Int) : ∀ m, (txt N g b m).length ≤ 22 * m := by
  intro m
  induction m with
  | zero => exact Nat.le_refl _
  | succ m ih =>
    unfold txt
    rw [List.length_append]
    have := mkL_l N g (m : Int)
    split
    · omega
    · show _ + 0 ≤ _; omega
theorem txt_cn (N : Nat → Int64) (g : Nat → Int) (b : Int) (m : Nat) : ∀ r, cn (mkP g b) (m + r) = cn (mkP g b) m → txt N g b (m + r) = txt N g b m := by
  intro r
  induction r with
  | zero => intro _; rfl
  | succ r ih =>
    intro h
    have e : cn (mkP g b) (m + (r + 1)) = cn (mkP g b) (m + r) + if mkP g b ((m + r : Nat) : Int) then 1 else 0 := rfl
    have h1 := (cn_le (mkP g b) m r).1
    have hp : ¬ mkP g b ((m + r : Nat) : Int) := fun hc => by rw [if_pos hc] at e; omega
    rw [if_neg hp] at e
    have e3 : txt N g b (m + (r + 1)) = txt N g b (m + r) ++ (if mkP g b ((m + r : Nat) : Int) then mkL N g ((m + r : Nat) : Int) else []) := rfl
    rw [e3, if_neg hp, List.append_nil]
    exact ih (by omega)
theorem txt_c2 (N : Nat → Int64) (g : Nat → Int) (b : Int) {m m' : Nat} (h : cn (mkP g b) m = cn (mkP g b) m') : txt N g b m = txt N g b m' := by
  rcases Nat.le_total m m' with hle | hle
  · obtain ⟨r, rfl⟩ := Nat.exists_eq_add_of_le hle
    exact (txt_cn N g b m r h.symm).symm
  · obtain ⟨r, rfl⟩ := Nat.exists_eq_add_of_le hle
    exact txt_cn N g b m' r h
section
variable {s : SM} {g : Nat → Int} {w : List Int}
theorem x_marks (h : TxX s []) (hr : RR s g) (hw : WF g) {b : Int} (hb : IR b) : ∃ t, (lX12_skin FU).1 s (zI b) (vX12_markOf s (zI b) (-1)) 0 = (zI ((txt (gL s 253) g b (2 * (g 34).toNat)).length : Int), t) ∧ (qX12_skin FU).1 s (zI b) (vX12_markOf s (zI b) (-1)) 0 ∧ TxX t (txt (gL s 253) g b (2 * (g 34).toNat)) ∧ Fp TxA s t := by
  have h0 := hw.w0
  obtain ⟨M, hM⟩ : ∃ M, M = 2 * (g 34).toNat := ⟨_, rfl⟩
  rw [← hM]
  have hMM : (M : Int) = 2 * g 34 := by omega
  obtain ⟨ec, -⟩ := x_markOf hr hw hb (zI (-1))
  rw [← hM, run_cnt (mkP g b) (fun m => zI (m : Int)) M 0 0 (by omega), Nat.zero_add] at ec
  have e0 : ((0 : Nat) : Int) + (sumZ (fun e => if mkP g b e then 1 else 0) M - sumZ (fun e => if mkP g b e then 1 else 0) 0) = ((cn (mkP g b) M : Nat) : Int) := by
    rw [cn_s]; show 0 + (_ - 0) = _; omega
  rw [e0] at ec
  have hcM := cn_n (mkP g b) M
  have ec' : vX12_markOf s (zI b) (-1) = zI ((cn (mkP g b) M : Nat) : Int) := ec
  rw [ec']
  obtain ⟨t, ⟨m, i0, i1, i2, i3⟩, st⟩ := ST_up (B := 2) (cn (mkP g b) M) (fun (k : Nat) (t : SM) => ∃ m, m ≤ M ∧ cn (mkP g b) m = k ∧ TxX t (txt (gL s 253) g b m) ∧ Fp TxA s t) (fun k t n => (lX12_skin n).1 t (zI b) (zI ((cn (mkP g b) M : Nat) : Int)) (zI (k : Int))) (fun k t n => (qX12_skin n).1 t (zI b) (zI ((cn (mkP g b) M : Nat) : Int)) (zI (k : Int))) (fun k t hk ⟨m, j0, j1, j2, j3⟩ => by
    have hrt : RR t g := fun k => by rw [j3.1 250 k (by omega)]; exact hr k
    obtain ⟨em, rm⟩ := x_markOf hrt hw hb (zI (k : Int))
    have c0 : cn (mkP g b) 0 = 0 := rfl
    obtain ⟨e, -, p2, p3, p4, p5⟩ := run_kth (mkP g b) (fun m => zI (m : Int)) (fiK (zI (k : Int))) (k := k) (by omega) M 0 0 (by omega) (by omega) (by rw [c0]; simp only [Nat.zero_add]; omega)
    rw [← hM, p5] at em
    have ce : cn (mkP g b) e = k := by omega
    have et : txt (gL s 253) g b e = txt (gL s 253) g b m := txt_c2 _ _ _ (by omega)
    rw [← et] at j2
    have hl := txt_l (gL s 253) g b e
    obtain ⟨t', o1, o2, o3⟩ := x_mark1 j2 hrt hw (m := e) (by omega) (by omega) (a1 := zI b) (a2 := zI ((cn (mkP g b) M : Nat) : Int)) (k := k) (by rw [z_le (by omega) (by omega)]; omega) (by omega) em rm
    refine ⟨t', ⟨e + 1, by omega, ?_, ?_, Fp_tr j3 o3⟩, o1⟩
    · have e1 : cn (mkP g b) (e + 1) = cn (mkP g b) e + if mkP g b (e : Int) then 1 else 0 := rfl
      rw [e1, if_pos p3, ce]
    · have e1 : txt (gL s 253) g b (e + 1) = txt (gL s 253) g b e ++ (if mkP g b (e : Int) then mkL (gL s 253) g (e : Int) else []) := rfl
      rw [e1, if_pos p3]
      rw [j3.2.1] at o2
      exact o2) (cn (mkP g b) M) 0 s (by omega) ⟨0, by omega, rfl, h, Fp_rf _ _⟩
  have et : txt (gL s 253) g b m = txt (gL s 253) g b M := txt_c2 _ _ _ i1
  rw [et] at i2
  have le : zI ((cn (mkP g b) M : Nat) : Int) ≤ zI ((cn (mkP g b) M : Nat) : Int) := by rw [z_le (by omega) (by omega)]; omega
  obtain ⟨E, R⟩ := ST_fu (ST_trans st (ST_1 (F' := fun _ => (zI ((txt (gL s 253) g b M).length : Int), t)) (C' := fun _ => True) (fun n => by
    show tX12_skin_29 (lX12_skin n) t (zI b) (zI ((cn (mkP g b) M : Nat) : Int)) (zI ((cn (mkP g b) M : Nat) : Int)) = _ ∧ (_ → uX12_skin_29 (qX12_skin n) t (zI b) (zI ((cn (mkP g b) M : Nat) : Int)) (zI ((cn (mkP g b) M : Nat) : Int)))
    unfold tX12_skin_29 uX12_skin_29
    rw [if_pos le, i2.1]
    exact ⟨rfl, fun _ hc => absurd le hc⟩))) (by omega)
  exact ⟨t, E, R, i2, i3⟩
theorem y_marks (h : TxY s []) (hl : LdR s 31 5 g) (hw : WF g) (hn : NmT s g) {b : Int} (hb : IR b) : ∃ t, (lX11_skin FU).1 s (zI b) 0 = (zI ((txt (gL s 253) g b (2 * (g 34).toNat)).length : Int), t) ∧ (qX11_skin FU).1 s (zI b) 0 ∧ TxY t (txt (gL s 253) g b (2 * (g 34).toNat)) ∧ Fp TyA s t := by
  have h0 := hw.w0
  obtain ⟨D, hD⟩ : ∃ D, D = (g 34).toNat := ⟨_, rfl⟩
  rw [← hD]
  have hDD : (D : Int) = g 34 := by omega
  obtain ⟨t, ⟨i2, i3⟩, st⟩ := ST_up (B := 4) D (fun (d : Nat) (t : SM) => TxY t (txt (gL s 253) g b (2 * d)) ∧ Fp TyA s t) (fun d t n => (lX11_skin n).1 t (zI b) (zI (d : Int))) (fun d t n => (qX11_skin n).1 t (zI b) (zI (d : Int))) (fun d t hd ⟨j2, j3⟩ => by
    have hlt : LdR t 31 5 g := LdR_fp hl j3 (fun c i hc => by omega)
    have hdl : dlZ g (d : Int) := ⟨by omega, by omega⟩
    have hwd := hw.wd hdl
    have side : ∀ (x : Nat) (t : SM), x ≤ 1 → TxY t (txt (gL s 253) g b (2 * d + x)) → Fp TyA s t → ∃ t', ST 1 (fun n => (lX11_skin n).2 t (zI b) (zI (d : Int)) (zI (x : Int))) (fun n => (qX11_skin n).2 t (zI b) (zI (d : Int)) (zI (x : Int))) (fun n => (lX11_skin n).2 t' (zI b) (zI (d : Int)) (zI ((x + 1 : Nat) : Int))) (fun n => (qX11_skin n).2 t' (zI b) (zI (d : Int)) (zI ((x + 1 : Nat) : Int))) ∧ TxY t' (txt (gL s 253) g b (2 * d + x + 1)) ∧ Fp TyA s t' := by
      intro x t hx1 h1 h2
      have hlt : LdR t 31 5 g := LdR_fp hl h2 (fun c i hc => by omega)
      have hxx : (x : Int) = 0 ∨ (x : Int) = 1 := by omega
      obtain ⟨e6, r6⟩ := y_bearer (P := 5) hlt.2 hw hdl hxx
      have ek : zI (x : Int) + 1 = zI ((x + 1 : Nat) : Int) := by rw [zl1, z_add]; congr 1
      have n1 : ¬ 1 < zI (x : Int) := by rw [zl1, z_lt (by omega) (by omega)]; omega
      have hl2 := txt_l (gL s 253) g b (2 * d + x)
      have ep : mkP g b ((2 * d + x : Nat) : Int) ↔ oZ g d (6 + (x : Int)) = b := by
        unfold mkP
        rw [show (((2 * d + x : Nat) : Int) / 2) = d by omega, show (6 + ((2 * d + x : Nat) : Int) % 2) = 6 + (x : Int) by omega]
      have hob : IR (oZ g d (6 + (x : Int))) := by
        rcases hxx with q | q <;> rw [q] <;> simp only [Int.reduceAdd, Int.add_zero] <;> omega
      have ez : zI (oZ g d (6 + (x : Int))) = zI b ↔ mkP g b ((2 * d + x : Nat) : Int) := by rw [z_eq hob hb, ep]
      have e1 : txt (gL s 253) g b (2 * d + x + 1) = txt (gL s 253) g b (2 * d + x) ++ (if mkP g b ((2 * d + x : Nat) : Int) then mkL (gL s 253) g ((2 * d + x : Nat) : Int) else []) := rfl
      rw [e1]
      by_cases c : mkP g b ((2 * d + x : Nat) : Int)
      · obtain ⟨t', p1, p2, p3, p4⟩ := y_addMark h1 hlt.2 hw hdl hxx (by unfold NmT; rw [h2.2.1]; exact hn) (by omega)
        rw [if_pos c]
        refine ⟨t', ST_1 fun n => ?_, ?_, Fp_tr h2 p4⟩
        · show tX11_skin_36 (lX11_skin n) t (zI b) (zI (d : Int)) (zI (x : Int)) = _ ∧ (_ → uX11_skin_36 (qX11_skin n) t (zI b) (zI (d : Int)) (zI (x : Int)))
          unfold tX11_skin_36 uX11_skin_36
          rw [if_neg n1, e6, if_pos (ez.mpr c), p1, ek]
          exact ⟨rfl, fun hh => ⟨fun hc => absurd hc n1, fun _ => ⟨r6, fun hc => absurd (ez.mpr c) hc, fun _ => ⟨p2, hh⟩⟩⟩⟩
        · rw [h2.2.1] at p3
          rw [show ((2 * d + x : Nat) : Int) = 2 * (d : Int) + (x : Int) by omega]
          exact p3
      · rw [if_neg c, List.append_nil]
        refine ⟨t, ST_1 fun n => ?_, h1, h2⟩
        show tX11_skin_36 (lX11_skin n) t (zI b) (zI (d : Int)) (zI (x : Int)) = _ ∧ (_ → uX11_skin_36 (qX11_skin n) t (zI b) (zI (d : Int)) (zI (x : Int)))
        unfold tX11_skin_36 uX11_skin_36
        rw [if_neg n1, e6, if_neg (fun hc => c (ez.mp hc)), ek]
        exact ⟨rfl, fun hh => ⟨fun hc => absurd hc n1, fun _ => ⟨r6, fun _ => hh, fun hc => absurd (ez.mp hc) c⟩⟩⟩
    obtain ⟨t1, a1, a2, a3⟩ := side 0 t (by omega) j2 j3
    obtain ⟨t2, b1, b2, b3⟩ := side 1 t1 (by omega) a2 a3
    refine ⟨t2, ⟨b2, b3⟩, ?_⟩
    have n1 : ¬ zI (g 34) ≤ zI (d : Int) := by rw [z_le (by omega) (by omega)]; omega
    have ek : zI (d : Int) + 1 = zI ((d + 1 : Nat) : Int) := by rw [zl1, z_add]; congr 1
    have n2 : 1 < zI ((1 + 1 : Nat) : Int) := by rw [zl1, z_lt (by omega) (by omega)]; omega
    refine ST_mono (ST_trans (ST_1 (F' := fun n => (lX11_skin n).2 t (zI b) (zI (d : Int)) (zI ((0 : Nat) : Int))) (C' := fun n => (qX11_skin n).2 t (zI b) (zI (d : Int)) (zI ((0 : Nat) : Int))) (fun n => ?_)) (ST_trans a1 (ST_trans b1 (ST_1 fun n => ?_)))) (by omega)
    · show tX11_skin_23 (lX11_skin n) t (zI b) (zI (d : Int)) = _ ∧ (_ → uX11_skin_23 (qX11_skin n) t (zI b) (zI (d : Int)))
      unfold tX11_skin_23 uX11_skin_23
      rw [hlt.2.1.1, if_neg n1]
      exact ⟨rfl, fun hh _ => hh⟩
    · show tX11_skin_36 (lX11_skin n) t2 (zI b) (zI (d : Int)) (zI ((1 + 1 : Nat) : Int)) = _ ∧ (_ → uX11_skin_36 (qX11_skin n) t2 (zI b) (zI (d : Int)) (zI ((1 + 1 : Nat) : Int)))
      unfold tX11_skin_36 uX11_skin_36
      rw [if_pos n2, ek]
      exact ⟨rfl, fun hh => ⟨fun _ => hh, fun hc => absurd n2 hc⟩⟩) D 0 s (by omega) ⟨h, Fp_rf _ _⟩
  have hlt : LdR t 31 5 g := LdR_fp hl i3 (fun c i hc => by omega)
  have le : zI (g 34) ≤ zI (D : Int) := by rw [z_le (by omega) (by omega)]; omega
  obtain ⟨E, R⟩ := ST_fu (ST_trans st (ST_1 (F' := fun _ => (zI ((txt (gL s 253) g b (2 * D)).length : Int), t)) (C' := fun _ => True) (fun n => by
    show tX11_skin_23 (lX11_skin n) t (zI b) (zI (D : Int)) = _ ∧ (_ → uX11_skin_23 (qX11_skin n) t (zI b) (zI (D : Int)))
    unfold tX11_skin_23 uX11_skin_23
    rw [hlt.2.1.1, if_pos le, i2.1]
    exact ⟨rfl, fun _ hc => absurd le hc⟩))) (by omega)
  exact ⟨t, E, R, i2, i3⟩
/-- the text told on both sides -/
def TxT (s : SM) : Prop := ∃ w : List Int, w.length ≤ 2640 ∧ TxY s w ∧ TxX s w
abbrev SkiC (c i : Nat) : Prop := (c = 244 ∧ i = 0) ∨ c = 245 ∨ (c = 248 ∧ (i = 0 ∨ i = 35)) ∨ c = 262
theorem TxT_fp {s t : SM} {A : Nat → Nat → Prop} (h : TxT s) (hf : Fp A s t) (hA : ∀ c i, (c = 244 ∧ i = 0) ∨ c = 245 ∨ (c = 248 ∧ i = 35) ∨ c = 262 → ¬ A c i) : TxT t := by
  obtain ⟨w, h1, h2, h3⟩ := h
  exact ⟨w, h1, TxY_fp h2 hf (fun c i hc => hA c i (by omega)), TxX_fp h3 hf (fun c i hc => hA c i (by omega))⟩
theorem q_skin (h : LdR s 31 5 g) (h2 : RR s g) (hw : WF g) (hn : NmT s g) (ht : TxT s) (a1 : Int32) : rX11_skin s a1 ∧ rX12_skin (mX11_skin s a1) a1 ∧ vX11_skin s a1 = vX12_skin (mX11_skin s a1) a1 ∧ TxT (mX12_skin (mX11_skin s a1) a1) ∧ Fp SkiC s (mX12_skin (mX11_skin s a1) a1) := by
  obtain ⟨b, hb, rfl⟩ := z_ex a1
  have h0 := hw.w0
  have yb := y_hasBody h.1 hw hb
  unfold vX11_skin mX11_skin fX11_skin rX11_skin
  rw [yb]
  by_cases c : bdyZ g b
  · have k : ¬ bI (bdyZ g b) = 0 := by rw [bI_0]; exact fun hh => hh c
    have f1 : Fp (fun c i => TyA c i) s (pI s 244 0 0) := Fp_p _ (by omega)
    have ty : TxY (pI s 244 0 0) [] := ⟨by rw [gI_pI, if_pos ⟨rfl, rfl⟩]; rfl, fun i hi => absurd hi (Nat.not_lt_zero _)⟩
    obtain ⟨t, p1, p2, p3, p4⟩ := y_marks ty (LdR_fp h f1 (fun c i hc => by omega)) hw (by unfold NmT; rw [f1.2.1]; exact hn) hb
    rw [if_neg k, p1]
    dsimp only
    have f2 := Fp_tr f1 p4
    have hr2 : RR t g := fun k => by rw [f2.1 250 k (by omega)]; exact h2 k
    have hr3 := Th_R hr2
    have xb : vX12_isBody (pI t 248 0 0) (zI b) = bI (bdyZ g b) := x_isBody hr3 hw hb
    have f3 : Fp (fun c i => c = 248 ∧ (i = 0 ∨ i = 35)) t (pI (pI t 248 0 0) 248 35 0) := Fp_tr (Fp_p _ (by omega)) (Fp_p _ (by omega))
    have tx : TxX (pI (pI t 248 0 0) 248 35 0) [] := ⟨by rw [gI_pI, if_pos ⟨rfl, rfl⟩]; rfl, fun i hi => absurd hi (Nat.not_lt_zero _)⟩
    have hr4 : RR (pI (pI t 248 0 0) 248 35 0) g := fun k => by rw [f3.1 250 k (by omega)]; exact hr2 k
    obtain ⟨u, q1, q2, q3, q4⟩ := x_marks tx hr4 hw hb
    obtain ⟨-, rm⟩ := x_markOf hr4 hw hb (-1)
    have eg : gL (pI (pI t 248 0 0) 248 35 0) 253 = gL (pI s 244 0 0) 253 := by rw [f3.2.1, p4.2.1]
    rw [eg] at q1 q3
    unfold vX12_skin mX12_skin fX12_skin rX12_skin
    rw [xb, if_neg k, q1]
    have f5 : Fp SkiC s u := Fp_tr (Fp_mo f2 (fun c i hc => by omega)) (Fp_tr (Fp_mo f3 (fun c i hc => by omega)) (Fp_mo q4 (fun c i hc => by omega)))
    refine ⟨fun _ => p2, fun _ => ⟨rm, q2⟩, rfl, ⟨_, ?_, TxY_fp p3 (Fp_tr (Fp_mo (B := fun c i => c = 248 ∨ c = 262) f3 (fun c i hc => by omega)) (Fp_mo q4 (fun c i hc => by omega))) (fun c i hc => by omega), q3⟩, f5⟩
    have := txt_l (gL (pI s 244 0 0) 253) g b (2 * (g 34).toNat)
    omega
  · have k : bI (bdyZ g b) = 0 := by rw [bI_0]; exact c
    rw [if_pos k]
    have hr3 := Th_R h2
    have xb : vX12_isBody (pI s 248 0 0) (zI b) = bI (bdyZ g b) := x_isBody hr3 hw hb
    unfold vX12_skin mX12_skin fX12_skin rX12_skin
    rw [xb, if_pos k]
    have f3 : Fp (fun c i => c = 248 ∧ i = 0) s (pI s 248 0 0) := Fp_p _ (by omega)
    exact ⟨fun hc => absurd k hc, fun hc => absurd k hc, rfl, TxT_fp ht f3 (fun c i hc => by omega), Fp_mo f3 (fun c i hc => by omega)⟩
theorem q_byteAt (ht : TxT s) (a1 : Int32) : rX11_byteAt s a1 ∧ rX12_byteAt s a1 ∧ vX11_byteAt s a1 = vX12_byteAt s a1 ∧ mX12_byteAt s a1 = Th s := by
  obtain ⟨a, ha, rfl⟩ := z_ex a1
  obtain ⟨w, hl, hy, hx⟩ := ht
  have e35 : gI (pI s 248 0 0) 248 35 = zI (w.length : Int) := by rw [gI_pI, if_neg (by omega)]; exact hx.1
  have e1 : zI (w.length : Int) - 1 = zI ((w.length : Int) - 1) := by rw [zl1, z_sub]
  have f3 : Fp (fun c i => c = 248 ∧ i = 0) s (pI s 248 0 0) := Fp_p _ (by omega)
  unfold rX11_byteAt rX12_byteAt vX11_byteAt vX12_byteAt mX12_byteAt rX10_at vX10_at vX12_isIn
  rw [e35, hy.1, e1]
  refine ⟨?_, ?_, ?_, rfl⟩
  · intro h1 h2 h3
    rw [zl0, z_lt ha (by omega)] at h1
    rw [z_le (by omega) ha] at h2
    rw [z_in ha]; omega
  · intro h1
    rw [z_in ha]
    by_cases c1 : zI a < 0
    · rw [if_pos c1] at h1; exact absurd rfl h1
    · rw [if_neg c1] at h1
      by_cases c2 : zI ((w.length : Int) - 1) < zI a
      · rw [if_pos c2] at h1; exact absurd rfl h1
      · rw [zl0, z_lt ha (by omega)] at c1
        rw [z_lt (by omega) ha] at c2
        omega
  · by_cases c1 : a < 0
    · have k1 : zI a < 0 := by rw [zl0, z_lt ha (by omega)]; exact c1
      rw [if_pos k1, if_pos k1, if_pos rfl]
    · have k1 : ¬ zI a < 0 := by rw [zl0, z_lt ha (by omega)]; exact c1
      rw [if_neg k1, if_neg k1]
      by_cases c2 : a < w.length
      · have k2 : ¬ zI (w.length : Int) ≤ zI a := by rw [z_le (by omega) ha]; omega
        have k3 : ¬ zI ((w.length : Int) - 1) < zI a := by rw [z_lt (by omega) ha]; omega
        have k4 : ¬ 2640 ≤ zI a := by rw [show (2640 : Int32) = zI 2640 from rfl, z_le (by omega) ha]; omega
        have cj : (zI a).toNatClampNeg = a.toNat := z_cl ha
        rw [if_neg k2, if_neg k3, if_neg k4, if_neg (by decide), cj, hy.2 a.toNat (by omega), f3.1 262 _ (by omega), hx.2 a.toNat (by omega)]
      · have k2 : zI (w.length : Int) ≤ zI a := by rw [z_le (by omega) ha]; omega
        have k3 : zI ((w.length : Int) - 1) < zI a := by rw [z_lt (by omega) ha]; omega
        rw [if_pos k2, if_pos k3, if_pos rfl]
end
