-- needs: 69s.xpk
theorem ini_len {c : List Nat} {i : Nat} (h : i ≤ c.length) : (ini c i).length = i := by unfold ini; rw [List.length_drop]; omega
theorem ini_app (c : List Nat) (i : Nat) : ∃ S, c = S ++ ini c i := ⟨c.take (c.length - i), (List.take_append_drop _ c).symm⟩
section
variable {s : SM} {g : Nat → Int} {ld db kd : Nat → Int} {R0 : Int → Int} {n : Nat}
def RmX (g : Nat → Int) (ld db kd : Nat → Int) (R0 : Int → Int) (s : SM) (P : List Nat) : Prop := ∀ b, bdyZ g b → gI s 269 b.toNat = zI (rmP g ld db kd R0 P b)
theorem x_arePacked (hx : PxC g ld db kd n s) (hw : WF g) (hd : PkD g ld db kd n) {c : List Nat} (hP : MPx 266 s c) (hcl : c.length = n) (h4 : ∀ w ∈ c, w ≤ 4) {bb m : Int} (hb : (bb = -1 ∧ m = 0) ∨ (bdyZ g bb ∧ 0 ≤ m ∧ m ≤ 99)) : ∃ s', mX12_arePacked s (zI bb) (zI m) = s' ∧ rX12_arePacked s (zI bb) (zI m) ∧ Fp (fun c _ => c = 269) s s' ∧ (FeC g ld db kd (R0f g bb m) c → vX12_arePacked s (zI bb) (zI m) = 1) ∧ (¬ FeC g ld db kd (R0f g bb m) c → vX12_arePacked s (zI bb) (zI m) = 0) := by
  have h0 := hw.w0
  have hn6 := hd.1
  have hR := R0f_b (g := g) (bb := bb) (m := m) hw (by omega)
  have hN : ((g 0).toNat : Int) = g 0 := by omega
  have c0 : (0 : Int32).toNatClampNeg = 0 := rfl
  have hbb : IR bb := by omega
  have rmb : ∀ b, bdyZ g b → ∀ P : List Nat, P.length ≤ n → R0f g bb m b - 18 * P.length ≤ rmP g ld db kd (R0f g bb m) P b ∧ rmP g ld db kd (R0f g bb m) P b ≤ R0f g bb m b := by
    intro b hbd P
    induction P with
    | nil => intro _; exact ⟨by show R0f g bb m b - 18 * 0 ≤ R0f g bb m b; omega, Int.le_refl _⟩
    | cons w P ih =>
      intro hl
      rw [List.length_cons] at hl ⊢
      have i1 := ih (by omega)
      have hk := (hw.wk (hd.2.1 P.length (by omega)).2.2).1
      have hm : 0 ≤ mcW g ld db kd P.length w b ∧ mcW g ld db kd P.length w b ≤ 18 := by
        unfold mcW
        split
        · split <;> split <;> omega
        · omega
      show _ ≤ rmP g ld db kd (R0f g bb m) P b - mcW g ld db kd P.length w b ∧ rmP g ld db kd (R0f g bb m) P b - mcW g ld db kd P.length w b ≤ _
      omega
  -- the rooms laid out
  have up := ST_up (B := 1) (g 0).toNat (fun b (t : SM) => Fp (fun c _ => c = 269) s t ∧ ∀ b' : Nat, b' < b → gI t 269 b' = zI (R0f g bb m b')) (fun b t k => (lX12_arePacked k).1 t (zI bb) (zI m) (zI (b : Int))) (fun b t k => (qX12_arePacked k).1 t (zI bb) (zI m) (zI (b : Int))) (by
    rintro b t hbN ⟨f1, f2⟩
    have hbd : bdyZ g (b : Int) := by omega
    have ht : RR t g := RR_fp hx.1 f1 (fun i => by omega)
    obtain ⟨el, rl⟩ := x_leftOf ht hw hbd
    have g0 : gI t 250 0 = zI (g 0) := ht 0
    have n1 : ¬ zI (g 0) ≤ zI (b : Int) := by rw [z_le (by omega) (by omega)]; omega
    have cb : (zI (b : Int)).toNatClampNeg = b := by rw [z_cl (by omega)]; exact Int.toNat_natCast _
    have vb : vp_in (zI (b : Int)) 9 := by rw [z_in (by omega)]; omega
    have eb : zI (b : Int) + 1 = zI ((b + 1 : Nat) : Int) := by rw [zl1, z_add]; rfl
    have ev : zI (lefZ g b) + (if zI (b : Int) = zI bb then zI m else 0) = zI (R0f g bb m b) := by
      unfold R0f
      by_cases hq : (b : Int) = bb
      · rw [if_pos hq, if_pos (by rw [hq]), z_add]
      · rw [if_neg hq, if_neg (by rw [z_eq (by omega) hbb]; exact hq), zl0, z_add]
    refine ⟨pI t 269 b (zI (R0f g bb m b)), ⟨Fp_tr f1 (Fp_p t rfl), fun b' hb' => ?_⟩, ST_1 fun k => ?_⟩
    · rw [gI_s]
      by_cases hq : b' = b
      · rw [if_pos hq, hq]
      · rw [if_neg hq]; exact f2 b' (by omega)
    · rw [lpX12_arePacked_2, qpX12_arePacked_2]
      unfold tX12_arePacked_2 uX12_arePacked_2
      rw [c0, g0, if_neg n1, cb, el, ev, eb]
      exact ⟨rfl, fun hh => ⟨fun hc => absurd hc n1, fun _ => ⟨rl, vb, hh⟩⟩⟩)
  obtain ⟨s1, ⟨f1, z1⟩, st1⟩ := up (g 0).toNat 0 s (by omega) ⟨Fp_rf _ s, fun b' hb' => by omega⟩
  rw [hN] at st1
  have hx1 := PxC_c hx f1 (fun c i hc => by omega)
  have r1 : RmX g ld db kd (R0f g bb m) s1 (ini c 0) := fun b hbd => by
    rw [ini_0]
    have := z1 b.toNat (by omega)
    rw [Int.toNat_of_nonneg hbd.1] at this
    exact this
  have st1' : ST 1 (fun k => (lX12_arePacked k).1 s1 (zI bb) (zI m) (zI (g 0))) (fun k => (qX12_arePacked k).1 s1 (zI bb) (zI m) (zI (g 0))) (fun k => (lX12_arePacked k).2.1 s1 (zI bb) (zI m) (zI ((0 : Nat) : Int))) (fun k => (qX12_arePacked k).2.1 s1 (zI bb) (zI m) (zI ((0 : Nat) : Int))) := ST_1 fun k => by
    have g0 : gI s1 250 0 = zI (g 0) := hx1.1 0
    rw [lpX12_arePacked_2, qpX12_arePacked_2]
    unfold tX12_arePacked_2 uX12_arePacked_2
    rw [c0, g0, if_pos (Int32.le_refl _)]
    exact ⟨rfl, fun hh => ⟨fun _ => hh, fun hc => absurd (Int32.le_refl _) hc⟩⟩
  -- the deals placed
  have two : ∀ (r i : Nat) (t : SM), i + r = n → Fp (fun c _ => c = 269) s t → RmX g ld db kd (R0f g bb m) t (ini c i) → okC g ld db (ini c i) → (okC g ld db c → ∃ t', Fp (fun c _ => c = 269) s t' ∧ RmX g ld db kd (R0f g bb m) t' c ∧ ST (r + 1) (fun k => (lX12_arePacked k).2.1 t (zI bb) (zI m) (zI (i : Int))) (fun k => (qX12_arePacked k).2.1 t (zI bb) (zI m) (zI (i : Int))) (fun k => (lX12_arePacked k).2.2 t' (zI bb) (zI m) (zI ((0 : Nat) : Int))) (fun k => (qX12_arePacked k).2.2 t' (zI bb) (zI m) (zI ((0 : Nat) : Int)))) ∧ (¬ okC g ld db c → ∃ t', Fp (fun c _ => c = 269) s t' ∧ ST (r + 1) (fun k => (lX12_arePacked k).2.1 t (zI bb) (zI m) (zI (i : Int))) (fun k => (qX12_arePacked k).2.1 t (zI bb) (zI m) (zI (i : Int))) (fun _ => ((0 : Int32), t')) (fun _ => True)) := by
    intro r
    induction r with
    | zero =>
      intro i t hi hf hr hok
      have hin : ini c i = c := by rw [show i = c.length by omega]; exact ini_n c
      rw [hin] at hr hok
      refine ⟨fun _ => ⟨t, hf, hr, ST_1 fun k => ?_⟩, fun hc => absurd hok hc⟩
      have hxt := PxC_c hx hf (fun c i hc => by omega)
      have nle : zI (n : Int) ≤ zI (i : Int) := by rw [z_le (by omega) (by omega)]; omega
      rw [lpX12_arePacked_42, qpX12_arePacked_42]
      unfold tX12_arePacked_42 uX12_arePacked_42
      rw [hxt.2.1, if_pos nle]
      exact ⟨rfl, fun hh => ⟨fun _ => hh, fun hc => absurd nle hc⟩⟩
    | succ r ih =>
      intro i t hi hf hr hok
      have hxt := PxC_c hx hf (fun c i hc => by omega)
      obtain ⟨w, w1, w2, w3, -⟩ := MPx_k hP i (by omega)
      have hw4 := h4 w w1
      have hil : (ini c i).length = i := ini_len (by omega)
      have nle : ¬ zI (n : Int) ≤ zI (i : Int) := by rw [z_le (by omega) (by omega)]; omega
      have ci : (zI (i : Int)).toNatClampNeg = i := by rw [z_cl (by omega)]; exact Int.toNat_natCast _
      have vi : vp_in (zI (i : Int)) 6 := by rw [z_in (by omega)]; omega
      have e266 : gI t 266 i = zI (w : Int) := by rw [hf.1 266 i (by omega)]; exact w2
      have ei : zI (i : Int) + 1 = zI ((i + 1 : Nat) : Int) := by rw [zl1, z_add]; rfl
      obtain ⟨S, hS⟩ := ini_app c (i + 1)
      by_cases h44 : w = 4
      · subst h44
        have n4 : (4 : Int32) ≤ zI ((4 : Nat) : Int) := by decide
        have hrm : ∀ b, rmP g ld db kd (R0f g bb m) (4 :: ini c i) b = rmP g ld db kd (R0f g bb m) (ini c i) b := fun b => by
          show rmP g ld db kd (R0f g bb m) (ini c i) b - mcW g ld db kd _ 4 b = _
          unfold mcW
          rw [if_neg (by decide)]; omega
        obtain ⟨i1, i2⟩ := ih (i + 1) t (by omega) hf (fun b hbd => by rw [w3, hrm]; exact hr b hbd) (by rw [w3]; exact ⟨Nat.le_refl _, fun hc => absurd hc (by decide), hok⟩)
        have st : ST 1 (fun k => (lX12_arePacked k).2.1 t (zI bb) (zI m) (zI (i : Int))) (fun k => (qX12_arePacked k).2.1 t (zI bb) (zI m) (zI (i : Int))) (fun k => (lX12_arePacked k).2.1 t (zI bb) (zI m) (zI ((i + 1 : Nat) : Int))) (fun k => (qX12_arePacked k).2.1 t (zI bb) (zI m) (zI ((i + 1 : Nat) : Int))) := ST_1 fun k => by
          rw [lpX12_arePacked_42, qpX12_arePacked_42]
          unfold tX12_arePacked_42 uX12_arePacked_42
          rw [hxt.2.1, if_neg nle, ci, e266, if_pos n4, ei]
          exact ⟨rfl, fun hh => ⟨fun hc => absurd hc nle, fun _ => ⟨vi, fun _ => hh, fun hc => absurd n4 hc⟩⟩⟩
        refine ⟨fun hc => ?_, fun hc => ?_⟩
        · obtain ⟨t', a1, a2, a3⟩ := i1 hc
          exact ⟨t', a1, a2, ST_mono (ST_trans st a3) (by omega)⟩
        · obtain ⟨t', a1, a3⟩ := i2 hc
          exact ⟨t', a1, ST_mono (ST_trans st a3) (by omega)⟩
      · have n4 : ¬ (4 : Int32) ≤ zI (w : Int) := by rw [show (4 : Int32) = zI 4 from rfl, z_le (by omega) (by omega)]; omega
        obtain ⟨p1, p2, p3, p4⟩ := x_packs hxt hw hd (i := i) (by omega) (w := w) (by omega) e266
        by_cases hAB : okA g ld db i ∧ okB g ld db i w
        · obtain ⟨v1, v2⟩ := p3 hAB
          have n0 : ¬ ((1 : Int32) = 0) := by decide
          obtain ⟨-, -, c3, c4⟩ := cr_b hw hd (i := i) (by omega) w
          have c3 := c3 hAB.2.1
          have c4 := c4 hAB.2.2.1
          have rC := hr _ c3
          have rD := hr _ c4
          have hf2 : Fp (fun c _ => c = 269) s (mX12_packs t (zI (i : Int))) := Fp_tr hf p4
          have r2 : RmX g ld db kd (R0f g bb m) (mX12_packs t (zI (i : Int))) (ini c (i + 1)) := fun b hbd => by
            rw [w3, v2]
            show _ = zI (rmP g ld db kd (R0f g bb m) (ini c i) b - mcW g ld db kd (ini c i).length w b)
            rw [hil]
            unfold mcW
            rw [if_pos (by omega)]
            generalize crW g ld i w = C at *
            generalize deW g db i w = D at *
            generalize szZ g (kd i) = sz at *
            rw [gI_s]
            by_cases e1 : D = b
            · subst e1
              rw [if_pos rfl, if_pos rfl, gI_s]
              by_cases e2 : C = D
              · rw [if_pos (by rw [e2]), if_pos e2, e2, rD, z_sub, z_sub]; congr 1; omega
              · rw [if_neg (by omega), if_neg e2, rD, z_sub]; congr 1; omega
            · rw [if_neg (by omega), if_neg e1, gI_s]
              by_cases e2 : C = b
              · subst e2
                rw [if_pos rfl, if_pos rfl, rC, z_sub]; congr 1; omega
              · rw [if_neg (by omega), if_neg e2, hr b hbd]; congr 1; omega
          obtain ⟨i1, i2⟩ := ih (i + 1) _ (by omega) hf2 r2 (by rw [w3]; exact ⟨hw4, fun _ => by rw [hil]; exact hAB, hok⟩)
          have st : ST 1 (fun k => (lX12_arePacked k).2.1 t (zI bb) (zI m) (zI (i : Int))) (fun k => (qX12_arePacked k).2.1 t (zI bb) (zI m) (zI (i : Int))) (fun k => (lX12_arePacked k).2.1 (mX12_packs t (zI (i : Int))) (zI bb) (zI m) (zI ((i + 1 : Nat) : Int))) (fun k => (qX12_arePacked k).2.1 (mX12_packs t (zI (i : Int))) (zI bb) (zI m) (zI ((i + 1 : Nat) : Int))) := ST_1 fun k => by
            rw [lpX12_arePacked_42, qpX12_arePacked_42]
            unfold tX12_arePacked_42 uX12_arePacked_42
            rw [hxt.2.1, if_neg nle, ci, e266, if_neg n4, v1, if_neg n0, ei]
            exact ⟨rfl, fun hh => ⟨fun hc => absurd hc nle, fun _ => ⟨vi, fun hc => absurd hc n4, fun _ => ⟨p1, fun _ => hh⟩⟩⟩⟩
          refine ⟨fun hc => ?_, fun hc => ?_⟩
          · obtain ⟨t', a1, a2, a3⟩ := i1 hc
            exact ⟨t', a1, a2, ST_mono (ST_trans st a3) (by omega)⟩
          · obtain ⟨t', a1, a3⟩ := i2 hc
            exact ⟨t', a1, ST_mono (ST_trans st a3) (by omega)⟩
        · have v1 := p2 hAB
          have nok : ¬ okC g ld db c := fun hc => by
            rw [hS, w3] at hc
            have := (okC_app hc).2.1 (by omega)
            rw [hil] at this
            exact hAB this
          refine ⟨fun hc => absurd hc nok, fun _ => ⟨_, Fp_tr hf p4, ST_mono (B1 := 1) (ST_1 fun k => ?_) (by omega)⟩⟩
          rw [lpX12_arePacked_42, qpX12_arePacked_42]
          unfold tX12_arePacked_42 uX12_arePacked_42
          rw [hxt.2.1, if_neg nle, ci, e266, if_neg n4, v1, if_pos rfl]
          exact ⟨rfl, fun _ => ⟨fun hc => absurd hc nle, fun _ => ⟨vi, fun hc => absurd hc n4, fun _ => ⟨p1, fun hc => absurd rfl hc⟩⟩⟩⟩
  -- the rooms looked at
  have three : ∀ (r b : Nat) (t : SM), (b : Int) + r = g 0 → Fp (fun c _ => c = 269) s t → RmX g ld db kd (R0f g bb m) t c → okC g ld db c → ((∀ b' : Int, (b : Int) ≤ b' → b' < g 0 → 0 ≤ rmP g ld db kd (R0f g bb m) c b') → ST (r + 1) (fun k => (lX12_arePacked k).2.2 t (zI bb) (zI m) (zI (b : Int))) (fun k => (qX12_arePacked k).2.2 t (zI bb) (zI m) (zI (b : Int))) (fun _ => ((1 : Int32), t)) (fun _ => True)) ∧ (¬ (∀ b' : Int, (b : Int) ≤ b' → b' < g 0 → 0 ≤ rmP g ld db kd (R0f g bb m) c b') → ST (r + 1) (fun k => (lX12_arePacked k).2.2 t (zI bb) (zI m) (zI (b : Int))) (fun k => (qX12_arePacked k).2.2 t (zI bb) (zI m) (zI (b : Int))) (fun _ => ((0 : Int32), t)) (fun _ => True)) := by
    intro r
    induction r with
    | zero =>
      intro b t hbr hf hr hok
      have hxt := PxC_c hx hf (fun c i hc => by omega)
      have g0 : gI t 250 0 = zI (g 0) := hxt.1 0
      have n1 : zI (g 0) ≤ zI (b : Int) := by rw [z_le (by omega) (by omega)]; omega
      refine ⟨fun _ => ST_1 fun k => ?_, fun hc => absurd (fun b' h1 h2 => by omega) hc⟩
      rw [lpX12_arePacked_78, qpX12_arePacked_78]
      unfold tX12_arePacked_78 uX12_arePacked_78
      rw [c0, g0, if_pos n1]
      exact ⟨rfl, fun _ hc => absurd n1 hc⟩
    | succ r ih =>
      intro b t hbr hf hr hok
      have hxt := PxC_c hx hf (fun c i hc => by omega)
      have g0 : gI t 250 0 = zI (g 0) := hxt.1 0
      have hbd : bdyZ g (b : Int) := by omega
      obtain ⟨el, rl⟩ := x_leftOf hxt.1 hw hbd
      have n1 : ¬ zI (g 0) ≤ zI (b : Int) := by rw [z_le (by omega) (by omega)]; omega
      have cb : (zI (b : Int)).toNatClampNeg = b := by rw [z_cl (by omega)]; exact Int.toNat_natCast _
      have vb : vp_in (zI (b : Int)) 9 := by rw [z_in (by omega)]; omega
      have eb : zI (b : Int) + 1 = zI ((b + 1 : Nat) : Int) := by rw [zl1, z_add]; rfl
      have ev : zI (lefZ g b) + (if zI (b : Int) = zI bb then zI m else 0) = zI (R0f g bb m b) := by
        unfold R0f
        by_cases hq : (b : Int) = bb
        · rw [if_pos hq, if_pos (by rw [hq]), z_add]
        · rw [if_neg hq, if_neg (by rw [z_eq (by omega) hbb]; exact hq), zl0, z_add]
      have er := hr b hbd
      rw [Int.toNat_natCast] at er
      have rb := rmb b hbd c (by omega)
      have hRb := hR b hbd
      obtain ⟨i1, i2⟩ := ih (b + 1) t (by omega) hf hr hok
      by_cases hge : 0 ≤ rmP g ld db kd (R0f g bb m) c b
      · have n2 : (0 : Int32) ≤ zI (rmP g ld db kd (R0f g bb m) c b) := by rw [zl0, z_le (by omega) (by omega)]; exact hge
        have st : ST 1 (fun k => (lX12_arePacked k).2.2 t (zI bb) (zI m) (zI (b : Int))) (fun k => (qX12_arePacked k).2.2 t (zI bb) (zI m) (zI (b : Int))) (fun k => (lX12_arePacked k).2.2 t (zI bb) (zI m) (zI ((b + 1 : Nat) : Int))) (fun k => (qX12_arePacked k).2.2 t (zI bb) (zI m) (zI ((b + 1 : Nat) : Int))) := ST_1 fun k => by
          rw [lpX12_arePacked_78, qpX12_arePacked_78]
          unfold tX12_arePacked_78 uX12_arePacked_78
          rw [c0, g0, if_neg n1, cb, er, if_pos n2, eb]
          exact ⟨rfl, fun hh _ => ⟨vb, fun _ => hh, fun hc => absurd n2 hc⟩⟩
        refine ⟨fun hc => ST_mono (ST_trans st (i1 (fun b' h1 h2 => hc b' (by omega) h2))) (by omega), fun hc => ST_mono (ST_trans st (i2 (fun h => hc (fun b' h1 h2 => ?_)))) (by omega)⟩
        by_cases hq : b' = b
        · rw [hq]; exact hge
        · exact h b' (by omega) h2
      · have n2 : ¬ (0 : Int32) ≤ zI (rmP g ld db kd (R0f g bb m) c b) := by rw [zl0, z_le (by omega) (by omega)]; exact hge
        have n3 : ¬ zI (R0f g bb m b) ≤ zI (rmP g ld db kd (R0f g bb m) c b) := by rw [z_le (by omega) (by omega)]; omega
        refine ⟨fun hc => absurd (hc b (Int.le_refl _) hbd.2) hge, fun _ => ST_mono (B1 := 1) (ST_1 fun k => ?_) (by omega)⟩
        rw [lpX12_arePacked_78, qpX12_arePacked_78]
        unfold tX12_arePacked_78 uX12_arePacked_78
        rw [c0, g0, if_neg n1, cb, er, if_neg n2, el, ev, if_neg n3]
        exact ⟨rfl, fun _ _ => ⟨vb, fun hc => absurd hc n2, fun _ => ⟨vb, rl, fun hc => absurd hc n3⟩⟩⟩
  obtain ⟨a1, a2⟩ := two n 0 s1 (by omega) f1 r1 (by rw [ini_0]; trivial)
  have fin : ∀ (v : Int32) (s' : SM) (B : Nat), B ≤ 1000 → ST B (fun k => (lX12_arePacked k).1 s (zI bb) (zI m) (zI ((0 : Nat) : Int))) (fun k => (qX12_arePacked k).1 s (zI bb) (zI m) (zI ((0 : Nat) : Int))) (fun _ => (v, s')) (fun _ => True) → fX12_arePacked s (zI bb) (zI m) = (v, s') ∧ rX12_arePacked s (zI bb) (zI m) := fun v s' B hB st => by
    obtain ⟨E, R⟩ := ST_fu st (by omega)
    exact ⟨E, R⟩
  by_cases hok : okC g ld db c
  · obtain ⟨t', b1, b2, b3⟩ := a1 hok
    obtain ⟨d1, d2⟩ := three (g 0).toNat 0 t' (by omega) b1 b2 hok
    by_cases hall : ∀ b' : Int, ((0 : Nat) : Int) ≤ b' → b' < g 0 → 0 ≤ rmP g ld db kd (R0f g bb m) c b'
    · obtain ⟨E, R⟩ := fin 1 t' _ (by omega) (ST_trans st1 (ST_trans st1' (ST_trans b3 (d1 hall))))
      exact ⟨t', by unfold mX12_arePacked; rw [E], R, b1, fun _ => by unfold vX12_arePacked; rw [E], fun hc => absurd ⟨hok, fun b hbd => hall b hbd.1 hbd.2⟩ hc⟩
    · obtain ⟨E, R⟩ := fin 0 t' _ (by omega) (ST_trans st1 (ST_trans st1' (ST_trans b3 (d2 hall))))
      exact ⟨t', by unfold mX12_arePacked; rw [E], R, b1, fun hc => absurd (fun b' h1 h2 => hc.2 b' ⟨h1, h2⟩) hall, fun _ => by unfold vX12_arePacked; rw [E]⟩
  · obtain ⟨t', b1, b3⟩ := a2 hok
    obtain ⟨E, R⟩ := fin 0 t' _ (by omega) (ST_trans st1 (ST_trans st1' b3))
    exact ⟨t', by unfold mX12_arePacked; rw [E], R, b1, fun hc => absurd hc.1 hok, fun _ => by unfold vX12_arePacked; rw [E]⟩
end
