-- needs: 69o.ypk
theorem lpl_30 (n : Nat) : (lX5_place (n + 1)).1 = tX5_place_30 (lX5_place n) := rfl
theorem lpl_100 (n : Nat) : (lX5_place (n + 1)).2.1 = tX5_place_100 (lX5_place n) := rfl
theorem lpl_118 (n : Nat) : (lX5_place (n + 1)).2.2.1 = tX5_place_118 (lX5_place n) := rfl
theorem lpl_185 (n : Nat) : (lX5_place (n + 1)).2.2.2.1 = tX5_placeBy_185 (lX5_place n) := rfl
theorem lpl_e (n : Nat) : (lX5_place (n + 1)).2.2.2.2.1 = tX5_place_e (lX5_place n) := rfl
theorem lpl_b (n : Nat) : (lX5_place (n + 1)).2.2.2.2.2 = tX5_placeBy_e (lX5_place n) := rfl
theorem qpl_30 (n : Nat) : (qX5_place (n + 1)).1 = uX5_place_30 (lX5_place n) (qX5_place n) := rfl
theorem qpl_100 (n : Nat) : (qX5_place (n + 1)).2.1 = uX5_place_100 (lX5_place n) (qX5_place n) := rfl
theorem qpl_118 (n : Nat) : (qX5_place (n + 1)).2.2.1 = uX5_place_118 (lX5_place n) (qX5_place n) := rfl
theorem qpl_185 (n : Nat) : (qX5_place (n + 1)).2.2.2.1 = uX5_placeBy_185 (lX5_place n) (qX5_place n) := rfl
theorem qpl_e (n : Nat) : (qX5_place (n + 1)).2.2.2.2.1 = uX5_place_e (lX5_place n) (qX5_place n) := rfl
theorem qpl_b (n : Nat) : (qX5_place (n + 1)).2.2.2.2.2 = uX5_placeBy_e (lX5_place n) (qX5_place n) := rfl
def PO (s : SM) : Option (List Nat) → Prop
  | none => gI s 225 9 = zI (-1)
  | some q => gI s 225 9 = zI (cnt q : Int) ∧ MPx 230 s q
theorem PO_c {s t : SM} {o : Option (List Nat)} (h : PO s o) (h1 : gI t 225 9 = gI s 225 9) (h2 : ∀ k, gI t 230 k = gI s 230 k) : PO t o := by
  cases o with
  | none => unfold PO at h ⊢; rw [h1]; exact h
  | some q => exact ⟨by rw [h1]; exact h.1, MPx_c h.2 (fun k _ => h2 k)⟩
abbrev PlA (c i : Nat) : Prop := c = 229 ∨ c = 230 ∨ c = 232 ∨ (c = 225 ∧ i = 9)
theorem PkC_c {g : Nat → Int} {ld db kd : Nat → Int} {n : Nat} {s t : SM} (h : PkC g ld db kd n s) (hf : Fp PlA s t) (hd : gD t = gD s) : PkC g ld db kd n t := by
  obtain ⟨h1, h2, h3, h4⟩ := h
  refine ⟨LdR_fp h1 hf (fun c i hc => by omega), by rw [hd]; exact h2, by rw [hf.1 225 0 (by omega)]; exact h3, fun i hi => ?_⟩
  rw [hf.1 226 i (by omega), hf.1 227 i (by omega), hf.1 228 i (by omega)]
  exact h4 i hi
/-- room as it is with the ways P -/
def RmR (g : Nat → Int) (ld db kd : Nat → Int) (R0 : Int → Int) (s : SM) (P : List Nat) : Prop := ∀ b, bdyZ g b → gI s 232 b.toNat = zI (rmP g ld db kd R0 P b)
def PlR (g : Nat → Int) (ld db kd : Nat → Int) (R0 : Int → Int) (n : Nat) (P : List Nat) (t : Nat) (s : SM) (o : Option (List Nat)) (s' : SM) (o' : Option (List Nat)) (C : List Nat → Prop) : Prop := Fp PlA s s' ∧ gD s' = gD s ∧ (∀ j, j < P.length → gI s' 229 j = gI s 229 j) ∧ RmR g ld db kd R0 s' P ∧ PO s' o' ∧ (∀ q, o' = some q → o = some q ∨ (FeC g ld db kd R0 q ∧ q.length = n ∧ rk q < t)) ∧ KPo o ≤ KPo o' ∧ ∀ c, FeC g ld db kd R0 c → c.length = n → C c → KP c ≤ KPo o'
def PlS (g : Nat → Int) (ld db kd : Nat → Int) (R0 : Int → Int) (n k : Nat) : Prop := ∀ (P : List Nat) (s : SM) (o : Option (List Nat)) (F : Nat), P.length + k = n → FeC g ld db kd R0 P → PkC g ld db kd n s → MPx 229 s P → RmR g ld db kd R0 s P → PO s o → (∀ q, o = some q → FeC g ld db kd R0 q ∧ q.length = n) → (∀ q, o = some q → rk q < rk P * p5 k) → 10 * k + 2 ≤ F → ∃ s' o', (lX5_place F).2.2.2.2.1 s (zI (P.length : Int)) (zI (cnt P : Int)) = s' ∧ (qX5_place F).2.2.2.2.1 s (zI (P.length : Int)) (zI (cnt P : Int)) ∧ PlR g ld db kd R0 n P ((rk P + 1) * p5 k) s o s' o' (fun c => ∃ S, c = S ++ P)
section
variable {g : Nat → Int} {ld db kd : Nat → Int} {R0 : Int → Int} {n : Nat}
theorem rm_b (hd : PkD g ld db kd n) (hR : ∀ b, bdyZ g b → 0 ≤ R0 b ∧ R0 b ≤ 1000) {P : List Nat} {b : Int} (hb : bdyZ g b) : rmP g ld db kd R0 P b ≤ 1000 := by
  have h1 := rmP_app (g := g) (ld := ld) (db := db) (R0 := R0) hd.2.2 P [] b
  rw [List.append_nil] at h1
  have h2 : rmP g ld db kd R0 [] b = R0 b := rfl
  have := hR b hb
  omega
/-- the visit of one way -/
theorem y_visit (hw : WF g) (hd : PkD g ld db kd n) (hR : ∀ b, bdyZ g b → 0 ≤ R0 b ∧ R0 b ≤ 1000) {k : Nat} (hS : PlS g ld db kd R0 n k) {P : List Nat} (hl : P.length + (k + 1) = n) (hF : FeC g ld db kd R0 P) (hA : okA g ld db P.length) {w : Nat} (hw4 : w < 4) {s : SM} {o : Option (List Nat)} {F : Nat} (hx : PkC g ld db kd n s) (hP : MPx 229 s P) (hr : RmR g ld db kd R0 s P) (ho : PO s o) (hg : ∀ q, o = some q → FeC g ld db kd R0 q ∧ q.length = n) (hp : ∀ q, o = some q → rk q < rk (w :: P) * p5 k) (hFu : 10 * k + 4 ≤ F) : ∃ s' o', (lX5_place F).2.2.2.2.2 s (zI (P.length : Int)) (zI (w : Int)) (zI (cnt P : Int)) = s' ∧ (qX5_place F).2.2.2.2.2 s (zI (P.length : Int)) (zI (w : Int)) (zI (cnt P : Int)) ∧ PlR g ld db kd R0 n P ((rk (w :: P) + 1) * p5 k) s o s' o' (fun c => ∃ S, c = S ++ w :: P) := by
  have h0 := hw.w0
  have hn6 := hd.1
  obtain ⟨F', rfl⟩ : ∃ F', F = F' + 1 + 1 := ⟨F - 2, by omega⟩
  obtain ⟨y1, y2⟩ := y_pb hx hw hd (i := P.length) (by omega) hw4 (zI (cnt P : Int)) (lX5_place (F' + 1)) (qX5_place (F' + 1))
  rw [lpl_b, qpl_b]
  by_cases hB : okB g ld db P.length w
  · obtain ⟨c1, c2, c3, c4⟩ := cr_b hw hd (i := P.length) (by omega) w
    have c3 := c3 hB.1
    have c4 := c4 hB.2.1
    have hk := (hd.2.1 P.length (by omega)).2.2
    have hsz := (hw.wk hk).1
    generalize hC : crW g ld P.length w = C at *
    generalize hD : deW g db P.length w = D at *
    obtain ⟨sz, hsz2⟩ : ∃ sz, sz = szZ g (kd P.length) := ⟨_, rfl⟩
    rw [← hsz2] at y2 hsz
    obtain ⟨s1, hs1⟩ : ∃ s1, s1 = pI s 232 C.toNat (gI s 232 C.toNat - zI sz) := ⟨_, rfl⟩
    obtain ⟨s2, hs2⟩ : ∃ s2, s2 = pI s1 232 D.toNat (gI s1 232 D.toNat - zI sz) := ⟨_, rfl⟩
    obtain ⟨y3, y4⟩ := y2 hB s1 s2 hs1 hs2
    have hmc : ∀ b, mcW g ld db kd P.length w b = (if C = b then sz else 0) + (if D = b then sz else 0) := fun b => by unfold mcW; rw [if_pos hw4, hC, hD, hsz2]
    have hrm : ∀ b, rmP g ld db kd R0 (w :: P) b = rmP g ld db kd R0 P b - ((if C = b then sz else 0) + (if D = b then sz else 0)) := fun b => by rw [← hmc]; rfl
    have f2 : Fp PlA s s2 := by rw [hs2, hs1]; exact Fp_tr (Fp_p s (by omega)) (Fp_p _ (by omega))
    have g2 : gD s2 = gD s := by rw [hs2, hs1]; rfl
    have rC := hr C c3
    have rD := hr D c4
    have r2 : ∀ b, bdyZ g b → gI s2 232 b.toNat = zI (rmP g ld db kd R0 (w :: P) b) := fun b hb => by
      rw [hrm, hs2, gI_s]
      by_cases e1 : D = b
      · subst e1
        rw [if_pos rfl, if_pos rfl, hs1, gI_s]
        by_cases e2 : C = D
        · rw [if_pos (by rw [e2]), if_pos e2, e2, rD, z_sub, z_sub]; congr 1; omega
        · rw [if_neg (by omega), if_neg e2, rD, z_sub]; congr 1; omega
      · rw [if_neg (by omega), if_neg e1, hs1, gI_s]
        by_cases e2 : C = b
        · subst e2
          rw [if_pos rfl, if_pos rfl, rC, z_sub]; congr 1; omega
        · rw [if_neg (by omega), if_neg e2, hr b hb]; congr 1; omega
    have bnd : ∀ b, bdyZ g b → -1000 ≤ rmP g ld db kd R0 (w :: P) b ∧ rmP g ld db kd R0 (w :: P) b ≤ 1000 := fun b hb => by
      have h1 := hF.2 b hb
      have h2 := rm_b (P := w :: P) hd hR hb
      rw [hrm] at h2 ⊢
      refine ⟨?_, h2⟩
      split <;> split <;> omega
    have vC : vp_in (zI C) 9 := by rw [z_in (by omega)]; omega
    have vD : vp_in (zI D) 9 := by rw [z_in (by omega)]; omega
    have cC : (zI C).toNatClampNeg = C.toNat := z_cl (by omega)
    have cD : (zI D).toNatClampNeg = D.toNat := z_cl (by omega)
    -- the rooms given back
    have back : ∀ t : SM, (∀ b, bdyZ g b → gI t 232 b.toNat = zI (rmP g ld db kd R0 (w :: P) b)) → ∃ t', (lX5_place (F' + 1)).2.2.2.1 t (zI (P.length : Int)) (zI (w : Int)) (zI (cnt P : Int)) (zI C) (zI D) (zI sz) = t' ∧ (qX5_place (F' + 1)).2.2.2.1 t (zI (P.length : Int)) (zI (w : Int)) (zI (cnt P : Int)) (zI C) (zI D) (zI sz) ∧ Fp (fun c _ => c = 232) t t' ∧ gD t' = gD t ∧ RmR g ld db kd R0 t' P := by
      intro t ht
      rw [lpl_185, qpl_185]
      unfold tX5_placeBy_185 uX5_placeBy_185
      dsimp only []
      rw [cC, cD]
      refine ⟨_, rfl, ⟨vC, vC, vD, vD⟩, Fp_tr (Fp_p t rfl) (Fp_p _ rfl), rfl, fun b hb => ?_⟩
      have tC := ht C c3
      have tD := ht D c4
      have tb := ht b hb
      rw [hrm] at tC tD tb
      rw [gI_s]
      by_cases e1 : D = b
      · subst e1
        rw [if_pos rfl, gI_s]
        rw [if_pos rfl] at tD
        by_cases e2 : C = D
        · rw [if_pos e2] at tD
          rw [if_pos (by rw [e2]), e2, tD, z_add, z_add]; congr 1; omega
        · rw [if_neg e2] at tD
          rw [if_neg (by omega), tD, z_add]; congr 1; omega
      · rw [if_neg e1] at tb
        rw [if_neg (by omega), gI_s]
        by_cases e2 : C = b
        · subst e2
          rw [if_pos rfl] at tb
          rw [if_pos rfl, tb, z_add]; congr 1; omega
        · rw [if_neg e2] at tb
          rw [if_neg (by omega), tb]; congr 1; omega
    by_cases hneg : gI s2 232 C.toNat < 0 ∨ gI s2 232 D.toNat < 0
    · obtain ⟨y5, y6⟩ := y3 hneg
      obtain ⟨t', e1, e2, e3, e4, e5⟩ := back s2 r2
      rw [y5, e1]
      refine ⟨t', o, rfl, y6 e2, Fp_tr f2 (Fp_mo e3 (fun c i hc => by omega)), by rw [e4, g2], fun j hj => ?_, e5, PO_c ho ?_ (fun k => ?_), fun q hq => Or.inl hq, Int.le_refl _, fun c hc hcl ⟨S, e⟩ => ?_⟩
      · rw [e3.1 229 j (by omega), hs2, gI_n _ _ _ _ (by omega), hs1, gI_n _ _ _ _ (by omega)]
      · rw [e3.1 225 9 (by omega), hs2, gI_n _ _ _ _ (by omega), hs1, gI_n _ _ _ _ (by omega)]
      · rw [e3.1 230 k (by omega), hs2, gI_n _ _ _ _ (by omega), hs1, gI_n _ _ _ _ (by omega)]
      · rw [e] at hc
        have hf := FeC_app hd.2.2 hc
        have b1 := hf.2 C c3
        have b2 := hf.2 D c4
        have b3 := bnd C c3
        have b4 := bnd D c4
        rcases hneg with h | h
        · rw [r2 C c3, zl0, z_lt (by omega) (by omega)] at h; omega
        · rw [r2 D c4, zl0, z_lt (by omega) (by omega)] at h; omega
    · have n1 : ¬ gI s2 232 C.toNat < 0 := fun hc => hneg (Or.inl hc)
      have n2 : ¬ gI s2 232 D.toNat < 0 := fun hc => hneg (Or.inr hc)
      have hF2 : FeC g ld db kd R0 (w :: P) := by
        refine ⟨⟨by omega, fun _ => ⟨hA, hB⟩, hF.1⟩, fun b hb => ?_⟩
        have b3 := bnd C c3
        have b4 := bnd D c4
        have h1 := hF.2 b hb
        by_cases e1 : D = b
        · subst e1
          rw [r2 D hb, zl0, z_lt (by omega) (by omega)] at n2; omega
        · by_cases e2 : C = b
          · subst e2
            rw [r2 C hb, zl0, z_lt (by omega) (by omega)] at n1; omega
          · rw [hrm, if_neg e2, if_neg e1]; omega
      obtain ⟨s2', hs2'⟩ : ∃ s2', s2' = pI s2 229 P.length (zI (w : Int)) := ⟨_, rfl⟩
      have f2' : Fp PlA s s2' := Fp_tr f2 (by rw [hs2']; exact Fp_p s2 (by omega))
      have hj : ∀ j, j < P.length → gI s2' 229 j = gI s 229 j := fun j hj => by rw [hs2', gI_s, if_neg (by omega), hs2, gI_n _ _ _ _ (by omega), hs1, gI_n _ _ _ _ (by omega)]
      have el : (w :: P).length = P.length + 1 := List.length_cons
      have ec : cnt (w :: P) = cnt P + 1 := by show cnt P + (if w < 4 then 1 else 0) = _; rw [if_pos hw4]
      obtain ⟨s3, o3, e1, e2, q1, q2, q3, q4, q5, q6, q7, q8⟩ := hS (w :: P) s2' o (F' + 1) (by rw [el]; omega) hF2 (PkC_c hx f2' (by rw [hs2', ← g2]; rfl)) ⟨by rw [hs2', gI_s, if_pos rfl], MPx_c hP hj⟩ (fun b hb => by rw [hs2', gI_n _ _ _ _ (by omega)]; exact r2 b hb) (PO_c ho (by rw [hs2', gI_n _ _ _ _ (by omega), hs2, gI_n _ _ _ _ (by omega), hs1, gI_n _ _ _ _ (by omega)]) (fun k => by rw [hs2', gI_n _ _ _ _ (by omega), hs2, gI_n _ _ _ _ (by omega), hs1, gI_n _ _ _ _ (by omega)])) hg hp (by omega)
      have ea : zI (P.length : Int) + 1 = zI ((w :: P).length : Int) := by rw [el, zl1, z_add]; rfl
      have eb : zI (cnt P : Int) + 1 = zI (cnt (w :: P) : Int) := by rw [ec, zl1, z_add]; rfl
      have e1' : (lX5_place (F' + 1)).2.2.2.2.1 (pI s2 229 P.length (zI (w : Int))) (zI (P.length : Int) + 1) (zI (cnt P : Int) + 1) = s3 := by rw [← hs2', ea, eb]; exact e1
      obtain ⟨y5, y6⟩ := y4 n1 n2 s3 e1'
      obtain ⟨t', b1, b2, b3, b4, b5⟩ := back s3 q4
      rw [y5, b1]
      refine ⟨t', o3, rfl, y6 (by rw [← hs2', ea, eb]; exact e2) b2, Fp_tr f2' (Fp_tr q1 (Fp_mo b3 (fun c i hc => by omega))), by rw [b4, q2, hs2', ← g2]; rfl, fun j hj2 => by rw [b3.1 229 j (by omega), q3 j (by rw [el]; omega), hj j hj2], b5, PO_c q5 (b3.1 225 9 (by omega)) (fun k => b3.1 230 k (by omega)), q6, q7, q8⟩
  · obtain ⟨y3, y4⟩ := y1 hB
    rw [y3]
    refine ⟨s, o, rfl, y4, Fp_rf _ s, rfl, fun _ _ => rfl, hr, ho, fun q hq => Or.inl hq, Int.le_refl _, fun c hc hcl ⟨S, e⟩ => ?_⟩
    rw [e] at hc
    have hf := okC_app hc.1
    exact absurd (hf.2.1 hw4).2 hB
end
