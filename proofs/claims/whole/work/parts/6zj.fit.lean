-- needs: 6zi.bki
/-! sums that fit, purely -/
theorem fold_cg {α : Type} {f f' : Nat → α → α} : ∀ (n : Nat) (a : α), (∀ i, i < n → ∀ x, f i x = f' i x) → fold f n a = fold f' n a := by
  intro n
  induction n with
  | zero => intro a _; rfl
  | succ n ih => intro a h; show f n (fold f n a) = f' n (fold f' n a); rw [ih a (fun i hi => h i (by omega)), h n (by omega)]
theorem fold_ad {α : Type} (f : Nat → α → α) (m : Nat) : ∀ (n : Nat) (a : α), fold f (m + n) a = fold (fun i => f (m + i)) n (fold f m a) := by
  intro n
  induction n with
  | zero => intro a; rfl
  | succ n ih => intro a; show f (m + n) (fold f (m + n) a) = f (m + n) (fold (fun i => f (m + i)) n (fold f m a)); rw [ih a]
theorem fold_no {α : Type} (f : Nat → α → α) : ∀ (n : Nat) (a : α), (∀ i, i < n → ∀ x, f i x = x) → fold f n a = a := by
  intro n
  induction n with
  | zero => intro a _; rfl
  | succ n ih => intro a h; show f n (fold f n a) = a; rw [ih a (fun i hi => h i (by omega)), h n (by omega)]
theorem fold_ml {α : Type} (f : Nat → α → α) (b : Nat) : ∀ (n : Nat) (a : α), fold f (n * b) a = fold (fun s x => fold (fun t => f (s * b + t)) b x) n a := by
  intro n
  induction n with
  | zero => intro a; rw [Nat.zero_mul]; rfl
  | succ n ih => intro a; rw [Nat.succ_mul, fold_ad, ih a]; rfl
/-- only those from lo on, R of them, count -/
theorem fold_win {α : Type} (f : Nat → α → α) {M lo R : Nat} (h : lo + R ≤ M) (a : α) (hn : ∀ i, i < M → (i < lo ∨ lo + R ≤ i) → ∀ x, f i x = x) : fold f M a = fold (fun i => f (lo + i)) R a := by
  rw [show M = (lo + R) + (M - (lo + R)) by omega, fold_ad, fold_no _ _ _ (fun i hi x => hn _ (by omega) (by omega) x), fold_ad, fold_no f lo a (fun i hi x => hn i (by omega) (by omega) x)]
/-- how many ways, the least and the greatest sums -/
abbrev Acc : Type := Nat × (Nat → Nat) × (Nat → Nat)
def gEl : List Nat → Nat → Nat
  | [], _ => 0
  | w :: P, i => if i = P.length then w else gEl P i
def ntA (c : List Nat) (a : Acc) : Acc := (a.1 + 1, fun i => if a.1 = 0 then gEl c i else (if gEl c i < a.2.1 i then gEl c i else a.2.1 i), fun i => if a.1 = 0 then gEl c i else (if a.2.2 i < gEl c i then gEl c i else a.2.2 i))
noncomputable def stFt (p : List Nat → Prop) (c : List Nat) (a : Acc) : Acc := by
  classical
  exact if p c then ntA c a else a
theorem stFt_y {p : List Nat → Prop} {c : List Nat} (h : p c) (a : Acc) : stFt p c a = ntA c a := by
  unfold stFt
  exact if_pos h
theorem stFt_n {p : List Nat → Prop} {c : List Nat} (h : ¬ p c) (a : Acc) : stFt p c a = a := by
  unfold stFt
  exact if_neg h
noncomputable def EnU (M : Nat) (p : List Nat → Prop) : Nat → List Nat → Acc → Acc
  | 0, P, a => stFt p P a
  | k + 1, P, a => fold (fun s a => EnU M p k ((s + 1) :: P) a) M a
theorem EnU_no {M : Nat} {p : List Nat → Prop} : ∀ (k : Nat) (P : List Nat) (a : Acc), (∀ Q : List Nat, Q.length = k → ¬ p (Q ++ P)) → EnU M p k P a = a := by
  intro k
  induction k with
  | zero => intro P a h; exact stFt_n (h [] rfl) a
  | succ k ih =>
    intro P a h
    refine fold_no _ _ _ (fun i _ x => ih _ x (fun Q hQ hc => h (Q ++ [i + 1]) (by rw [List.length_append, hQ]; rfl) ?_))
    rw [List.append_assoc]
    exact hc
/-- the N-th of the tuples of sums of 1 to M: the last first -/
def lsM (M : Nat) : Nat → Nat → List Nat
  | 0, _ => []
  | k + 1, N => (N % M + 1) :: lsM M k (N / M)
theorem lsM_len (M : Nat) : ∀ k N, (lsM M k N).length = k := by
  intro k
  induction k with
  | zero => intro N; rfl
  | succ k ih => intro N; show (lsM M k (N / M)).length + 1 = _; rw [ih]
theorem lsM_b {M : Nat} (hM : 0 < M) : ∀ k N, ∀ w ∈ lsM M k N, 1 ≤ w ∧ w ≤ M := by
  intro k
  induction k with
  | zero => intro N w hw; exact absurd hw (by simp [lsM])
  | succ k ih =>
    intro N w hw
    rcases List.mem_cons.mp hw with rfl | hw
    · have := Nat.mod_lt N hM
      omega
    · exact ih _ w hw
theorem lsM_top {M : Nat} (hM : 0 < M) : ∀ (k s t : Nat), s < M → t < M ^ k → lsM M (k + 1) (s * M ^ k + t) = lsM M k t ++ [s + 1] := by
  intro k
  induction k with
  | zero =>
    intro s t hs ht
    have ht : t < 1 := ht
    have e : t = 0 := by omega
    subst e
    show ((s * 1 + 0) % M + 1) :: [] = [s + 1]
    have e2 : (s * 1 + 0) % M = s := by rw [Nat.mul_one, Nat.add_zero]; exact Nat.mod_eq_of_lt hs
    rw [e2]
  | succ k ih =>
    intro s t hs ht
    have e1 : s * M ^ (k + 1) + t = M * (s * M ^ k) + t := by rw [Nat.pow_succ]; rw [← Nat.mul_assoc, Nat.mul_comm _ M]
    show ((s * M ^ (k + 1) + t) % M + 1) :: lsM M (k + 1) ((s * M ^ (k + 1) + t) / M) = (t % M + 1) :: (lsM M k (t / M) ++ [s + 1])
    have htk : t / M < M ^ k := by
      rw [Nat.div_lt_iff_lt_mul hM]
      rw [Nat.pow_succ] at ht
      exact ht
    rw [e1, Nat.mul_add_mod, Nat.mul_add_div hM, ih s (t / M) hs htk]
theorem EnU_fold {M : Nat} (hM : 0 < M) {p : List Nat → Prop} : ∀ (k : Nat) (P : List Nat) (a : Acc), EnU M p k P a = fold (fun N a => stFt p (lsM M k N ++ P) a) (M ^ k) a := by
  intro k
  induction k with
  | zero => intro P a; rfl
  | succ k ih =>
    intro P a
    rw [Nat.pow_succ, Nat.mul_comm, fold_ml]
    show fold (fun s a => EnU M p k ((s + 1) :: P) a) M a = _
    refine fold_cg _ _ (fun s hs x => ?_)
    rw [ih]
    refine fold_cg _ _ (fun t ht y => ?_)
    show stFt p (lsM M k t ++ (s + 1) :: P) y = stFt p (lsM M (k + 1) (s * M ^ k + t) ++ P) y
    rw [lsM_top hM k s t hs ht, List.append_assoc]
    rfl
theorem fold_a1 {p : List Nat → Prop} (l : Nat → List Nat) : ∀ (n : Nat) (a : Acc), (fold (fun N a => stFt p (l N) a) n a).1 ≤ a.1 + n := by
  intro n
  induction n with
  | zero => intro a; exact Nat.le_refl _
  | succ n ih =>
    intro a
    have h1 := ih a
    show (stFt p (l n) (fold (fun N a => stFt p (l N) a) n a)).1 ≤ _
    by_cases c : p (l n)
    · rw [stFt_y c]; show (fold (fun N a => stFt p (l N) a) n a).1 + 1 ≤ _; omega
    · rw [stFt_n c]; omega
/-! what is lost, in its order -/
def loL (g : Nat → Int) : Nat → List Nat
  | 0 => []
  | n + 1 => if loZ g n then loL g n ++ [n] else loL g n
theorem loL_b (g : Nat → Int) : ∀ n, (∀ d ∈ loL g n, d < n ∧ loZ g d) ∧ (loL g n).length ≤ n := by
  intro n
  induction n with
  | zero => exact ⟨fun d hd => absurd hd (by simp [loL]), Nat.le_refl _⟩
  | succ n ih =>
    unfold loL
    by_cases c : loZ g n
    · rw [if_pos c]
      refine ⟨fun d hd => ?_, by rw [List.length_append]; show _ + 1 ≤ _; omega⟩
      rcases List.mem_append.mp hd with hd | hd
      · have := ih.1 d hd
        exact ⟨by omega, this.2⟩
      · have e := List.mem_singleton.mp hd
        rw [e]
        exact ⟨by omega, c⟩
    · rw [if_neg c]
      exact ⟨fun d hd => ⟨by have := (ih.1 d hd).1; omega, (ih.1 d hd).2⟩, by omega⟩
/-- the i-th -/
def loE (L : List Nat) (i : Nat) : Nat := L.getD i 0
theorem loE_a (L : List Nat) (x : Nat) (i : Nat) : loE (L ++ [x]) i = if i = L.length then x else loE L i := by
  unfold loE
  by_cases c : i = L.length
  · rw [if_pos c, c, List.getD_eq_getElem?_getD, List.getElem?_append_right (Nat.le_refl _), Nat.sub_self]; rfl
  · rw [if_neg c, List.getD_eq_getElem?_getD, List.getD_eq_getElem?_getD]
    by_cases c2 : i < L.length
    · rw [List.getElem?_append_left c2]
    · rw [List.getElem?_eq_none (by rw [List.length_append]; show _ + 1 ≤ i; omega), List.getElem?_eq_none (by omega)]
theorem loE_m {L : List Nat} {i : Nat} (h : i < L.length) : loE L i ∈ L := by
  unfold loE
  rw [List.getD_eq_getElem?_getD, List.getElem?_eq_getElem h]
  exact List.getElem_mem h
/-- the k-th of the lost, by both sides' search -/
theorem loL_run (g : Nat → Int) {k : Int} (hk : -1 ≤ k ∧ k < 1000) : ∀ (r d : Nat), d + r ≤ 1000 → ((loL g d).length ≤ k ∨ k = -1) → run (stK (fun d => loZ g d) (zI k) (fun d => zI (d : Int))) (fiK (zI k)) r d (loL g d).length = (if k = -1 then zI ((loL g (d + r)).length : Int) else if k < (loL g (d + r)).length then zI (loE (loL g (d + r)) k.toNat : Int) else zI (-1)) := by
  intro r
  induction r with
  | zero =>
    intro d hd h
    have hl := (loL_b g d).2
    show fiK (zI k) (loL g d).length = _
    unfold fiK
    rw [Nat.add_zero]
    by_cases c : k = -1
    · rw [if_pos (by rw [c]), if_pos c]
    · rw [if_neg (by rw [z_eq (by omega) (by omega)]; exact c), if_neg c, if_neg (by omega)]
  | succ r ih =>
    intro d hd h
    have hl := (loL_b g d).2
    unfold run stK
    by_cases c : loZ g d
    · have el : loL g (d + 1) = loL g d ++ [d] := by show (if loZ g d then _ else _) = _; rw [if_pos c]
      simp only [if_pos c]
      by_cases ce : k = (loL g d).length
      · have e : zI ((loL g d).length : Int) = zI k := by rw [ce]
        simp only [if_pos e]
        have grow : ∀ q, (loL g (d + 1)).length ≤ (loL g (d + 1 + q)).length ∧ ∀ i, i < (loL g (d + 1)).length → loE (loL g (d + 1 + q)) i = loE (loL g (d + 1)) i := by
          intro q
          induction q with
          | zero => exact ⟨Nat.le_refl _, fun _ _ => rfl⟩
          | succ q iq =>
            have eq : loL g (d + 1 + (q + 1)) = if loZ g ((d + 1 + q : Nat) : Int) then loL g (d + 1 + q) ++ [d + 1 + q] else loL g (d + 1 + q) := rfl
            rw [eq]
            by_cases cq : loZ g ((d + 1 + q : Nat) : Int)
            · rw [if_pos cq]
              refine ⟨by rw [List.length_append]; show _ ≤ _ + 1; omega, fun i hi => ?_⟩
              rw [loE_a, if_neg (by omega)]; exact iq.2 i hi
            · rw [if_neg cq]; exact iq
        have gr := grow r
        have l1 : (loL g (d + 1)).length = (loL g d).length + 1 := by rw [el, List.length_append]; rfl
        rw [show d + (r + 1) = d + 1 + r by omega, if_neg (by omega), if_pos (by omega), show k.toNat = (loL g d).length by omega, gr.2 _ (by omega), el, loE_a, if_pos rfl]
      · have e : ¬ zI ((loL g d).length : Int) = zI k := by rw [z_eq (by omega) (by omega)]; omega
        simp only [if_neg e]
        have l1 : (loL g (d + 1)).length = (loL g d).length + 1 := by rw [el, List.length_append]; rfl
        have := ih (d + 1) (by omega) (by omega)
        rw [l1, show d + 1 + r = d + (r + 1) by omega] at this
        exact this
    · have el : loL g (d + 1) = loL g d := by show (if loZ g d then _ else _) = _; rw [if_neg c]
      simp only [if_neg c]
      have := ih (d + 1) (by omega) (by rw [el]; exact h)
      rw [el, show d + 1 + r = d + (r + 1) by omega] at this
      exact this
/-! what the sums bring -/
section
variable (g : Nat → Int) (el : Nat → Nat)
abbrev tcT (i : Nat) (b : Int) : Prop := oZ g (el i) 0 = b ∨ oZ g (el i) 1 = b
def svT (b : Int) (i : Nat) (x : Int) : Int := (if oZ g (el i) 0 = b then x else 0) - (if oZ g (el i) 1 = b then x else 0)
def viT (i w : Nat) : Int := vbZ w (sorZ g (el i))
def smT (b : Int) : List Nat → Int
  | [] => 0
  | w :: P => smT b P + svT g el b P.length (viT g el P.length w)
/-- what those of m bring as they are -/
def ovT (b : Int) : Nat → Int
  | 0 => 0
  | n + 1 => ovT b n + svT g el b n (valZ g (el n))
/-- the last of m that touches b -/
def laT (b : Int) : Nat → Int
  | 0 => -1
  | n + 1 => if tcT g el n b then n else laT b n
theorem laT_b (b : Int) : ∀ n : Nat, -1 ≤ laT g el b n ∧ laT g el b n < n ∧ (∀ i : Nat, i < n → tcT g el i b → (i : Int) ≤ laT g el b n) ∧ (0 ≤ laT g el b n → tcT g el (laT g el b n).toNat b) := by
  intro n
  induction n with
  | zero => exact ⟨Int.le_refl _, by show (-1 : Int) < ((0 : Nat) : Int); omega, fun i hi => absurd hi (by omega), fun h => by have : (0 : Int) ≤ -1 := h; omega⟩
  | succ n ih =>
    unfold laT
    by_cases c : tcT g el n b
    · rw [if_pos c]
      exact ⟨by omega, by omega, fun i hi _ => by omega, fun _ => by rw [Int.toNat_natCast]; exact c⟩
    · rw [if_neg c]
      obtain ⟨i1, i2, i3, i4⟩ := ih
      refine ⟨i1, by omega, fun i hi ht => ?_, i4⟩
      by_cases ci : i = n
      · rw [ci] at ht; exact absurd ht c
      · exact i3 i (by omega) ht
theorem svT_0 {b : Int} {i : Nat} (h : ¬ tcT g el i b) (x : Int) : svT g el b i x = 0 := by
  unfold svT
  rw [if_neg (fun hc => h (Or.inl hc)), if_neg (fun hc => h (Or.inr hc))]
  rfl
/-- none behind P touches b: what is behind brings nothing -/
theorem smT_end {b : Int} {P : List Nat} : ∀ Q : List Nat, (∀ i, P.length ≤ i → i < (Q ++ P).length → ¬ tcT g el i b) → smT g el b (Q ++ P) = smT g el b P := by
  intro Q
  induction Q with
  | nil => intro _; rfl
  | cons w Q ih =>
    intro h
    show smT g el b (Q ++ P) + svT g el b (Q ++ P).length (viT g el (Q ++ P).length w) = _
    rw [svT_0 g el (h _ (by rw [List.length_append]; omega) (by show _ < (Q ++ P).length + 1; omega)), ih (fun i h1 h2 => h i h1 (by show i < (Q ++ P).length + 1; omega)), Int.add_zero]
end
theorem vb_b {w y : Int} (hw : 0 ≤ w ∧ w ≤ 99) : 0 ≤ vbZ w y ∧ vbZ w y ≤ 198 := by
  have h := Int.tdiv_eq_ediv_of_nonneg (a := w) (b := 2) hw.1
  unfold vbZ
  split
  · omega
  · split
    · rw [h]; omega
    · split
      · omega
      · omega
/-- a value tells its sum but for one -/
theorem vb_in {w y v : Int} (hw : 1 ≤ w ∧ w ≤ 99) (hy : ¬ y = 3) (h : vbZ w y = v) : (if y = 1 then v.tdiv 2 else if y = 2 then 2 * v else v) ≤ w ∧ w ≤ (if y = 1 then v.tdiv 2 else if y = 2 then 2 * v else v) + 1 := by
  have hv := vb_b (w := w) (y := y) (by omega)
  rw [h] at hv
  have hd := Int.tdiv_eq_ediv_of_nonneg (a := v) (b := 2) hv.1
  have hdw := Int.tdiv_eq_ediv_of_nonneg (a := w) (b := 2) (by omega)
  unfold vbZ at h
  by_cases c1 : y = 1
  · rw [if_pos c1] at h ⊢
    rw [hd]; omega
  · rw [if_neg c1] at h ⊢
    by_cases c2 : y = 2
    · rw [if_pos c2] at h ⊢
      rw [hdw] at h; omega
    · rw [if_neg c2] at h ⊢
      rw [if_neg hy] at h
      omega
theorem nt_b {g : Nat → Int} (hw : WF g) {b d : Int} (hd : dlZ g d) : -198 ≤ ntZ g b d ∧ ntZ g b d ≤ 198 := by
  have h1 := hw.wd hd
  have h2 : 0 ≤ valZ g d ∧ valZ g d ≤ 198 := vb_b (by omega)
  unfold ntZ
  split
  · split <;> split <;> omega
  · omega
theorem netZ_b {g : Nat → Int} (hw : WF g) (b : Int) : -12000 ≤ netZ g b ∧ netZ g b ≤ 12000 := by
  have h0 := hw.w0
  have h1 : -198 * ((g 34).toNat : Int) ≤ netZ g b := sumZ_ge (fun d h1 h2 => (nt_b hw ⟨h1, by omega⟩).1)
  have h2 : netZ g b ≤ 198 * ((g 34).toNat : Int) := sumZ_le (fun d h1 h2 => (nt_b hw ⟨h1, by omega⟩).2)
  omega
theorem net_fold {g : Nat → Int} (b : Int) : ∀ n : Nat, fold (stNT g b) n (zI 0) = zI (sumZ (ntZ g b) n) := by
  intro n
  induction n with
  | zero => rfl
  | succ n ih =>
    show stNT g b n (fold (stNT g b) n (zI 0)) = zI (sumZ (ntZ g b) n + ntZ g b n)
    rw [ih]
    unfold stNT ntZ
    by_cases c : opZ g n
    · rw [if_pos c, if_pos c]
      by_cases c1 : oZ g n 0 = b <;> by_cases c2 : oZ g n 1 = b
      · rw [if_pos c1, if_pos c2, if_pos c1, if_pos c2, z_add, z_sub]; congr 1; omega
      · rw [if_pos c1, if_neg c2, if_pos c1, if_neg c2, z_add, z_sub]; congr 1; omega
      · rw [if_neg c1, if_pos c2, if_neg c1, if_pos c2, z_add, z_sub]; congr 1; omega
      · rw [if_neg c1, if_neg c2, if_neg c1, if_neg c2, z_add, z_sub]; congr 1; omega
    · rw [if_neg c, if_neg c]; congr 1; omega
