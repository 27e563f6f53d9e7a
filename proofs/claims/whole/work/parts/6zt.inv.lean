-- needs: 6zs.img 53.settle
/-- the part of a frame that the ints see -/
theorem Fq_fr {A B : Nat → Nat → Prop} {C : Nat → Prop} {s t : SM} (h : Fr C s t) (hA : ∀ c, C c → ∀ i, A c i) : Fq A B s t := Fq_fp (Fp_fr h hA)
abbrev NoL (_c _i : Nat) : Prop := False
theorem TpB_fq {s t : SM} {n : Nat} {bt : Nat → Int} {A B : Nat → Nat → Prop} (h : TpB s n bt) (hf : Fq A B s t) (hA : ∀ c i, (c = 3 ∧ i = 1) ∨ c = 4 ∨ (c = 248 ∧ i = 2) ∨ c = 249 → ¬ A c i) : TpB t n bt := by
  have k := TpB_fp (t := (t.1, s.2.1, t.2.2)) h (Fq_gi hf) hA
  exact k
theorem SvT_fq {s t : SM} {g g' : Nat → Int} {G : Nat → Nat → Int} {r : Nat} {A B : Nat → Nat → Prop} (h : SvT s g G r) (hf : Fq A B s t) (hg : SP g g') (hA : ∀ c i, (c = 2 ∧ i = 19) ∨ (c = 5 ∧ i = 11) ∨ (c = 248 ∧ (i = 22 ∨ i = 23)) → ¬ A c i) : SvT t g' G r := by
  obtain ⟨h1, h2, h3, v, h4, h5, h6, h7⟩ := h
  refine ⟨h1, by rw [hf.1 2 19 (hA _ _ (by omega))]; exact h2, by rw [hf.1 248 23 (hA _ _ (by omega))]; exact h3, v, h4, by rw [hf.1 5 11 (hA _ _ (by omega))]; exact h5, by rw [hf.1 248 22 (hA _ _ (by omega))]; exact h6, fun k hk => (hg k hk).trans (h7 k hk)⟩
theorem NmT_gq {s t : SM} {g g' : Nat → Int} {A B : Nat → Nat → Prop} (h : NmT s g) (hw : WF g) (hf : Fq A B s t) (h0 : g' 0 = g 0) (h1 : g' 1 = g 1) (hB : ∀ c i, c = 6 ∨ c = 9 ∨ (c = 253 ∧ i < 15) → ¬ B c i) : NmT t g' := by
  have k := NmT_fq h hw hf hB
  refine ⟨fun b hb => k.1 b (by omega), fun b hb => k.2 b (by omega)⟩
theorem BkR_fq {s t : SM} {g g' : Nat → Int} {A B : Nat → Nat → Prop} (h : BkR s g) (hf : Fq A B s t) (h0 : g' 0 = g 0) (h1 : g' 1 = g 1) (h5 : ∀ k, 586 ≤ k → g' k = g k) (hA : ∀ c i, 19 ≤ c ∧ c ≤ 24 → ¬ A c i) : BkR t g' :=
  BkR_fr h h0 h1 h5 (fun c c1 c2 => funext fun i => hf.1 c i (hA c i ⟨c1, c2⟩))
theorem FlT_fq {s t : SM} {A B : Nat → Nat → Prop} (h : FlT s) (hf : Fq A B s t) (hA : ∀ c i, (c = 2 ∧ i = 18) ∨ (c = 248 ∧ i = 15) → ¬ A c i) : FlT t := by
  unfold FlT at h ⊢
  rw [hf.1 2 18 (hA _ _ (by omega)), hf.1 248 15 (hA _ _ (by omega))]
  exact h
theorem RgT_fq {s t : SM} {A B : Nat → Nat → Prop} (h : RgT s) (hf : Fq A B s t) (hA : ∀ c i, (c = 2 ∧ i = 15) ∨ (c = 248 ∧ i = 30) ∨ c = 246 ∨ c = 258 → ¬ A c i) : RgT t := by
  obtain ⟨n, h1, h2, h3, h4⟩ := h
  refine ⟨n, h1, by rw [hf.1 2 15 (hA _ _ (by omega))]; exact h2, by rw [hf.1 248 30 (hA _ _ (by omega))]; exact h3, fun i hi => ?_⟩
  rw [hf.1 246 i (hA _ _ (by omega)), hf.1 258 i (hA _ _ (by omega))]
  exact h4 i hi
theorem JdT_fq {s t : SM} {A B : Nat → Nat → Prop} (h : JdT s) (hf : Fq A B s t) (hA : ∀ c i, (c = 2 ∧ i = 17) ∨ (c = 248 ∧ i = 38) ∨ c = 247 ∨ c = 263 → ¬ A c i) : JdT t := by
  obtain ⟨h1, h2⟩ := h
  refine ⟨by rw [hf.1 2 17 (hA _ _ (by omega)), hf.1 248 38 (hA _ _ (by omega))]; exact h1, ?_⟩
  rw [hf.1 2 17 (hA _ _ (by omega))]
  rcases h2 with h2 | h2
  · exact Or.inl h2
  · refine Or.inr fun i hi => ?_
    rw [hf.1 247 i (hA _ _ (by omega)), hf.1 263 i (hA _ _ (by omega))]
    exact h2 i hi
theorem PkT_fq {s t : SM} {G G' : Nat → Nat → Int} {r r' : Nat} {A B : Nat → Nat → Prop} (h : PkT s G r) (hf : Fq A B s t) (hA : ∀ c i, (c = 225 ∧ (i = 0 ∨ i = 1)) ∨ (226 ≤ c ∧ c ≤ 228) ∨ c = 231 ∨ c = 265 ∨ c = 268 ∨ (c = 248 ∧ (i = 46 ∨ i = 47)) → ¬ A c i) (hr : r ≤ r') (hG : ∀ v, v ≤ r → G' v = G v) : PkT t G' r' := by
  have hm : ∀ (c : Nat) (l : List Nat), MPx c (t.1, s.2.1, t.2.2) l → MPx c t l := by
    intro c l
    induction l with
    | nil => exact fun h => h
    | cons a l ih => exact fun h => ⟨h.1, ih h.2⟩
  have k := PkT_fp (t := (t.1, s.2.1, t.2.2)) h (Fq_gi hf) hA hr hG
  rcases k with k | ⟨n, ld, db, kd, v, c, h1, h2, h3, h4, h5, h6, h7, h8, h9, h10, h11, h12, h13⟩
  · exact Or.inl k
  · exact Or.inr ⟨n, ld, db, kd, v, c, h1, h2, h3, h4, h5, h6, h7, h8, h9, h10, h11, hm _ _ h12, hm _ _ h13⟩
theorem TxT_fq {s t : SM} {A B : Nat → Nat → Prop} (h : TxT s) (hf : Fq A B s t) (hA : ∀ c i, (c = 244 ∧ i = 0) ∨ c = 245 ∨ (c = 248 ∧ i = 35) ∨ c = 262 → ¬ A c i) : TxT t := by
  have k := TxT_fp (t := (t.1, s.2.1, t.2.2)) h (Fq_gi hf) hA
  exact k
theorem FiT_fq {s t : SM} {A B : Nat → Nat → Prop} (h : FiT s) (hf : Fq A B s t) (hA : ∀ c i, (c = 233 ∧ (i = 7 ∨ i = 9)) ∨ c = 236 ∨ c = 237 ∨ c = 270 ∨ c = 271 ∨ (c = 248 ∧ i = 53) → ¬ A c i) : FiT t := by
  have k := FiT_fp (t := (t.1, s.2.1, t.2.2)) h (Fq_gi hf) hA
  exact k
theorem ReT_fq {s t : SM} {A B : Nat → Nat → Prop} (h : ReT s) (hf : Fq A B s t) (hB : ∀ c i, c = 254 → ¬ B c i) : ReT t := fun i hi => by rw [hf.2.1 254 i (hB _ _ rfl)]; exact h i hi
/-- the settler's empty sums -/
def StZ (s : SM) : Prop := gI s 242 0 = zI 0 ∧ gI s 243 0 = zI 0
theorem StZ_fq {s t : SM} {A B : Nat → Nat → Prop} (h : StZ s) (hf : Fq A B s t) (hA : ∀ c i, (c = 242 ∨ c = 243) ∧ i = 0 → ¬ A c i) : StZ t := ⟨by rw [hf.1 242 0 (hA _ _ (by omega))]; exact h.1, by rw [hf.1 243 0 (hA _ _ (by omega))]; exact h.2⟩
/-- what stands on both sides -/
abbrev Cor (s : SM) (g : Nat → Int) : Prop := WF g ∧ LdR s 31 5 g ∧ RR s g ∧ HI s g
abbrev Res (s : SM) (g : Nat → Int) (G : Nat → Nat → Int) (r : Nat) : Prop := SvT s g G r ∧ NmT s g ∧ BkR s g ∧ FlT s ∧ RgT s ∧ JdT s ∧ PkT s G r ∧ TxT s ∧ FiT s ∧ ImT s G r ∧ ReT s ∧ StZ s
def INV (X : Nat × (Nat → Int32)) (n : Nat) (s : SM) : Prop := s.2.2.2 = X ∧ ∃ (g : Nat → Int) (G : Nat → Nat → Int) (r N : Nat) (bt : Nat → Int), r + n ≤ 99999 ∧ TpB s N bt ∧ Cor s g ∧ Res s g G r
theorem Cor_fq {s t : SM} {g : Nat → Int} {A B : Nat → Nat → Prop} (h : Cor s g) (hf : Fq A B s t) (hA : ∀ c i, (5 ≤ c ∧ c ≤ 11) ∨ (31 ≤ c ∧ c ≤ 164) ∨ c = 250 ∨ c = 255 ∨ (c = 248 ∧ i = 25) → ¬ A c i) : Cor t g :=
  ⟨h.1, LdR_fq h.2.1 hf (fun c i hc => hA c i (by omega)), RR_fq h.2.2.1 hf (fun i => hA 250 i (by omega)), HI_fq h.2.2.2 hf (fun c i hc => hA c i (by omega))⟩
abbrev RsI (c i : Nat) : Prop := ((c = 2 ∧ i = 19) ∨ (c = 5 ∧ i = 11) ∨ (c = 248 ∧ (i = 22 ∨ i = 23))) ∨ (19 ≤ c ∧ c ≤ 24) ∨ ((c = 2 ∧ i = 18) ∨ (c = 248 ∧ i = 15)) ∨ ((c = 2 ∧ i = 15) ∨ (c = 248 ∧ i = 30) ∨ c = 246 ∨ c = 258) ∨ ((c = 2 ∧ i = 17) ∨ (c = 248 ∧ i = 38) ∨ c = 247 ∨ c = 263) ∨ ((c = 225 ∧ (i = 0 ∨ i = 1)) ∨ (226 ≤ c ∧ c ≤ 228) ∨ c = 231 ∨ c = 265 ∨ c = 268 ∨ (c = 248 ∧ (i = 46 ∨ i = 47))) ∨ ((c = 244 ∧ i = 0) ∨ c = 245 ∨ (c = 248 ∧ i = 35) ∨ c = 262) ∨ ((c = 233 ∧ (i = 7 ∨ i = 9)) ∨ c = 236 ∨ c = 237 ∨ c = 270 ∨ c = 271 ∨ (c = 248 ∧ i = 53)) ∨ ((166 ≤ c ∧ c ≤ 217) ∨ c = 275 ∨ c = 277) ∨ ((c = 242 ∨ c = 243) ∧ i = 0)
abbrev RsL (c i : Nat) : Prop := (c = 6 ∨ c = 9 ∨ (c = 253 ∧ i < 15)) ∨ ((166 ≤ c ∧ c ≤ 217) ∨ c = 276) ∨ c = 254
/-- what nothing but its own calls changes -/
theorem Res_fq {s t : SM} {g g' : Nat → Int} {G : Nat → Nat → Int} {r : Nat} {A B : Nat → Nat → Prop} (h : Res s g G r) (hw : WF g) (hf : Fq A B s t) (hg : SP g g') (h5 : ∀ k, 586 ≤ k → g' k = g k) (hA : ∀ c i, RsI c i → ¬ A c i) (hB : ∀ c i, RsL c i → ¬ B c i) : Res t g' G r := by
  obtain ⟨a1, a2, a3, a4, a5, a6, a7, a8, a9, b1, b2, b3⟩ := h
  exact ⟨SvT_fq a1 hf hg (fun c i hc => hA c i (Or.inl hc)), NmT_gq a2 hw hf (hg 0 (by omega)) (hg 1 (by omega)) (fun c i hc => hB c i (Or.inl hc)), BkR_fq a3 hf (hg 0 (by omega)) (hg 1 (by omega)) h5 (fun c i hc => hA c i (Or.inr (Or.inl hc))), FlT_fq a4 hf (fun c i hc => hA c i (Or.inr (Or.inr (Or.inl hc)))), RgT_fq a5 hf (fun c i hc => hA c i (Or.inr (Or.inr (Or.inr (Or.inl hc))))), JdT_fq a6 hf (fun c i hc => hA c i (Or.inr (Or.inr (Or.inr (Or.inr (Or.inl hc)))))), PkT_fq a7 hf (fun c i hc => hA c i (Or.inr (Or.inr (Or.inr (Or.inr (Or.inr (Or.inl hc))))))) (Nat.le_refl _) (fun _ _ => rfl), TxT_fq a8 hf (fun c i hc => hA c i (Or.inr (Or.inr (Or.inr (Or.inr (Or.inr (Or.inr (Or.inl hc)))))))), FiT_fq a9 hf (fun c i hc => hA c i (Or.inr (Or.inr (Or.inr (Or.inr (Or.inr (Or.inr (Or.inr (Or.inl hc))))))))), ImT_fq b1 hf (fun _ _ => rfl) (Nat.le_refl _) (fun c i hc => hA c i (Or.inr (Or.inr (Or.inr (Or.inr (Or.inr (Or.inr (Or.inr (Or.inr (Or.inl hc)))))))))) (fun c i hc => hB c i (Or.inr (Or.inl hc))), ReT_fq b2 hf (fun c i hc => hB c i (Or.inr (Or.inr hc))), StZ_fq b3 hf (fun c i hc => hA c i (Or.inr (Or.inr (Or.inr (Or.inr (Or.inr (Or.inr (Or.inr (Or.inr (Or.inr hc))))))))))⟩
