-- needs: 6zt.inv 6w.scr 57.acts 69d.cut
section
variable {X : Nat × (Nat → Int32)} {n : Nat}
theorem INV_ao {s t : SM} {g : Nat → Int} {G : Nat → Nat → Int} {r N : Nat} {bt : Nat → Int} (hX : s.2.2.2 = X) (hr : r + (n + 1) ≤ 99999) (ht : TpB s N bt) (hw : WF g) (hR : Res s g G r) (ha : AOX s g t) : INV X n t := by
  obtain ⟨g', hw', sp, h5, hl, hrr, hi, hf⟩ := ha
  have hq : Fq FreeC NoL s t := Fq_fp hf
  exact ⟨hf.2.2.trans hX, g', G, r, N, bt, by omega, TpB_fq ht hq (fun c i hc ha => by omega), ⟨hw', hl, hrr, hi⟩, Res_fq hR hw hq sp h5 (fun c i hc ha => by rcases hc with hc | hc | hc | hc | hc | hc | hc | hc | hc | hc <;> omega) (fun c i _ hb => hb)⟩
theorem AOX_k {s t : SM} {g : Nat → Int} (h : AOK s g t) : AOX s g t := by
  obtain ⟨g', hw', sp, h5, hl, hrr, hi, hf⟩ := h
  exact ⟨g', hw', sp, h5, hl, hrr, hi, fun c i hc => hf.1 c i (fun ha => hc (by unfold ActC at ha; omega)), hf.2⟩
theorem INV_same {s t : SM} {A B : Nat → Nat → Prop} (h : INV X (n + 1) s) (hq : Fq A B s t) (hA : ∀ c i, A c i → c = 248 ∧ i = 0) (hB : ∀ c i, B c i → c = 278) : INV X n t := by
  obtain ⟨hX, g, G, r, N, bt, hr, ht, hc, hR⟩ := h
  exact ⟨hq.2.2.trans hX, g, G, r, N, bt, by omega, TpB_fq ht hq (fun c i hc ha => by have := hA c i ha; omega), Cor_fq hc hq (fun c i hc ha => by have := hA c i ha; omega), Res_fq hR hc.1 hq (fun _ _ => rfl) (fun _ _ => rfl) (fun c i hc ha => by have := hA c i ha; rcases hc with hc | hc | hc | hc | hc | hc | hc | hc | hc | hc <;> omega) (fun c i hc hb => by have := hB c i hb; omega)⟩
theorem INV_le {s : SM} (h : INV X (n + 1) s) : INV X n s := by
  obtain ⟨hX, g, G, r, N, bt, hr, h⟩ := h
  exact ⟨hX, g, G, r, N, bt, by omega, h⟩
theorem INV_Th {s : SM} (v : Int32) (h : INV X (n + 1) s) : INV X n (pI s 248 0 v) :=
  INV_same (A := fun c i => c = 248 ∧ i = 0) (B := NoL) h (Fq_fp (Fp_p s ⟨rfl, rfl⟩)) (fun _ _ h => h) (fun _ _ h => h.elim)
theorem i_out : S_out (INV X n) := by
  intro s x h
  obtain ⟨hX, g, G, r, N, bt, hr, ht, hc, hR⟩ := h
  have hq : Fq NoL (fun c _ => c = 278) s (pL s 278 0 x) := ⟨fun _ _ _ => rfl, fun c i hc => by rw [gL_pL, if_neg (fun hh => hc hh.1)], rfl⟩
  exact ⟨hX, g, G, r, N, bt, hr, TpB_fq ht hq (fun c i _ ha => ha), Cor_fq hc hq (fun c i _ ha => ha), Res_fq hR hc.1 hq (fun _ _ => rfl) (fun _ _ => rfl) (fun c i _ ha => ha) (fun c i hc hb => by omega)⟩
theorem i_aged : S_aged (INV X (n + 1)) (INV X n) := by
  intro s a1 a2 h
  obtain ⟨hX, g, G, r, N, bt, hr, ht, ⟨hw, hl, hrr, hi⟩, hR⟩ := id h
  obtain ⟨v1, v2, v3, v4⟩ := q_aged hl hrr hw a1 a2
  exact ⟨v1, v2, v3, by rw [v4]; exact INV_Th _ h⟩
theorem i_owes : S_owes (INV X (n + 1)) (INV X n) := by
  intro s a1 a2 h
  obtain ⟨hX, g, G, r, N, bt, hr, ht, ⟨hw, hl, hrr, hi⟩, hR⟩ := id h
  obtain ⟨v1, v2, v3, v4⟩ := q_owes hl hrr hw a1 a2
  exact ⟨v1, v2, v3, by rw [v4]; exact INV_Th _ h⟩
theorem i_trade : S_trade (INV X (n + 1)) (INV X n) := by
  intro s a1 a2 h
  obtain ⟨hX, g, G, r, N, bt, hr, ht, ⟨hw, hl, hrr, hi⟩, hR⟩ := id h
  obtain ⟨v1, v2, v3, v4⟩ := q_trade hl hrr hw a1 a2
  exact ⟨v1, v2, v3, by rw [v4]; exact INV_Th _ h⟩
theorem i_between : S_between (INV X (n + 1)) (INV X n) := by
  intro s a1 a2 a3 h
  obtain ⟨hX, g, G, r, N, bt, hr, ht, ⟨hw, hl, hrr, hi⟩, hR⟩ := id h
  obtain ⟨v1, v2, v3, v4⟩ := q_between hl hrr hw a1 a2 a3
  exact ⟨v1, v2, v3, by rw [v4]; exact INV_Th _ h⟩
theorem i_lost : S_lost (INV X (n + 1)) (INV X n) := by
  intro s a1 h
  obtain ⟨hX, g, G, r, N, bt, hr, ht, ⟨hw, hl, hrr, hi⟩, hR⟩ := id h
  obtain ⟨v1, v2, v3, v4⟩ := q_lost hl hrr hw a1
  exact ⟨v1, v2, v3, by rw [v4]; exact INV_Th _ h⟩
theorem i_owed : S_owed (INV X (n + 1)) (INV X n) := by
  intro s a1 a2 a3 h
  obtain ⟨hX, g, G, r, N, bt, hr, ht, ⟨hw, hl, hrr, hi⟩, hR⟩ := id h
  obtain ⟨v1, v2, v3, v4⟩ := q_owed hl hrr hw a1 a2 a3
  exact ⟨v1, v2, v3, by rw [v4]; exact INV_Th _ h⟩
theorem i_mark : S_mark (INV X (n + 1)) (INV X n) := by
  intro s a1 a2 h
  obtain ⟨hX, g, G, r, N, bt, hr, ht, ⟨hw, hl, hrr, hi⟩, hR⟩ := id h
  obtain ⟨v1, v2, v3, v4⟩ := q_mark hl hrr hw a1 a2
  exact ⟨v1, v2, v3, by rw [v4]; exact INV_Th _ h⟩
theorem i_read : S_read (INV X (n + 1)) (INV X n) := by
  intro s a1 a2 h
  obtain ⟨hX, g, G, r, N, bt, hr, ht, ⟨hw, hl, hrr, hi⟩, hR⟩ := id h
  obtain ⟨v1, v2, v3, v4⟩ := q_read hl hrr hw a1 a2
  exact ⟨v1, v2, v3, by rw [v4]; exact INV_Th _ h⟩
theorem i_greatest : S_greatest (INV X (n + 1)) (INV X n) := by
  intro s a1 h
  obtain ⟨hX, g, G, r, N, bt, hr, ht, ⟨hw, hl, hrr, hi⟩, hR⟩ := id h
  obtain ⟨v1, v2, v3, v4⟩ := q_greatest hl hrr hw a1
  exact ⟨v1, v2, v3, by rw [v4]; exact INV_Th _ h⟩
theorem i_fullest : S_fullest (INV X (n + 1)) (INV X n) := by
  intro s a1 h
  obtain ⟨hX, g, G, r, N, bt, hr, ht, ⟨hw, hl, hrr, hi⟩, hR⟩ := id h
  obtain ⟨v1, v2, v3, v4⟩ := q_fullest hl hrr hw a1
  exact ⟨v1, v2, v3, by rw [v4]; exact INV_Th _ h⟩
theorem i_chain : S_chain (INV X (n + 1)) (INV X n) := by
  intro s a1 a2 h
  obtain ⟨hX, g, G, r, N, bt, hr, ht, ⟨hw, hl, hrr, hi⟩, hR⟩ := id h
  obtain ⟨v1, v2, v3, v4⟩ := q_chain hl hrr hw a1 a2
  exact ⟨v1, v2, v3, by rw [v4]; exact INV_Th _ h⟩
theorem i_proof : S_proof (INV X (n + 1)) (INV X n) := by
  intro s a1 h
  obtain ⟨hX, g, G, r, N, bt, hr, ht, ⟨hw, hl, hrr, hi⟩, hR⟩ := id h
  obtain ⟨v1, v2, v3, v4⟩ := q_proof hl hrr hw a1
  exact ⟨v1, v2, v3, by rw [v4]; exact INV_Th _ h⟩
theorem i_witness : S_witness (INV X (n + 1)) (INV X n) := by
  intro s a1 h
  obtain ⟨hX, g, G, r, N, bt, hr, ht, ⟨hw, hl, hrr, hi⟩, hR⟩ := id h
  obtain ⟨v1, v2, v3, v4⟩ := q_witness hl hrr hw a1
  exact ⟨v1, v2, v3, by rw [v4]; exact INV_Th _ h⟩
theorem i_count : S_count (INV X (n + 1)) (INV X n) := by
  intro s a1 h
  obtain ⟨hX, g, G, r, N, bt, hr, ht, ⟨hw, hl, hrr, hi⟩, hR⟩ := id h
  obtain ⟨v1, v2, v3, v4⟩ := q_count hl hrr hw hR.2.2.1.1 (ht.2.1.trans ht.2.2.1.symm) a1
  exact ⟨v1, v2, v3, by rw [v4]; exact INV_Th _ h⟩
theorem i_ringAt : S_ringAt (INV X (n + 1)) (INV X n) := by
  intro s a1 h
  obtain ⟨hX, g, G, r, N, bt, hr, ht, ⟨hw, hl, hrr, hi⟩, hR⟩ := id h
  obtain ⟨v1, v2, v3, v4⟩ := q_ringAt hR.2.2.2.2.1 a1
  exact ⟨v1, v2, v3, by rw [v4]; exact INV_Th _ h⟩
theorem i_judged : S_judged (INV X (n + 1)) (INV X n) := by
  intro s a1 h
  obtain ⟨hX, g, G, r, N, bt, hr, ht, ⟨hw, hl, hrr, hi⟩, hR⟩ := id h
  obtain ⟨v1, v2, v3, v4⟩ := q_judged hR.2.2.2.2.2.1 a1
  exact ⟨v1, v2, v3, by rw [v4]; exact INV_Th _ h⟩
theorem i_packed : S_packed (INV X (n + 1)) (INV X n) := by
  intro s a1 h
  obtain ⟨hX, g, G, r, N, bt, hr, ht, ⟨hw, hl, hrr, hi⟩, hR⟩ := id h
  obtain ⟨v1, v2, v3, v4⟩ := q_packed hR.2.2.2.2.2.2.1 a1
  exact ⟨v1, v2, v3, by rw [v4]; exact INV_Th _ h⟩
theorem i_byteAt : S_byteAt (INV X (n + 1)) (INV X n) := by
  intro s a1 h
  obtain ⟨hX, g, G, r, N, bt, hr, ht, ⟨hw, hl, hrr, hi⟩, hR⟩ := id h
  obtain ⟨v1, v2, v3, v4⟩ := q_byteAt hR.2.2.2.2.2.2.2.1 a1
  exact ⟨v1, v2, v3, by rw [v4]; exact INV_Th _ h⟩
theorem i_fit : S_fit (INV X (n + 1)) (INV X n) := by
  intro s a1 a2 h
  obtain ⟨hX, g, G, r, N, bt, hr, ht, ⟨hw, hl, hrr, hi⟩, hR⟩ := id h
  obtain ⟨v1, v2, v3, v4⟩ := q_fit hR.2.2.2.2.2.2.2.2.1 a1 a2
  exact ⟨v1, v2, v3, by rw [v4]; exact INV_Th _ h⟩
theorem i_can : S_can (INV X (n + 1)) (INV X n) := by
  intro s a1 a2 h
  obtain ⟨hX, g, G, r, N, bt, hr, ht, ⟨hw, hl, hrr, hi⟩, hR⟩ := id h
  obtain ⟨v1, v0, v2, v3, v4⟩ := q_can hl hrr hw a1 a2
  rw [v0]
  exact ⟨v1, v2, v3, by rw [v4]; exact INV_Th _ h, rfl⟩
theorem i_fault : S_fault (INV X (n + 1)) (INV X n) := by
  intro s h
  obtain ⟨hX, g, G, r, N, bt, hr, ht, ⟨hw, hl, hrr, hi⟩, hR⟩ := id h
  refine ⟨?_, INV_Th _ h⟩
  show gI s 2 18 = gI (pI s 248 0 0) 248 15
  rw [gI_pI, if_neg (by decide)]
  exact hR.2.2.2.1
theorem i_body : S_body (INV X (n + 1)) (INV X n) := by
  intro s t a1 a2 h hT hst
  obtain ⟨hX, g, G, r, N, bt, hr, ht, ⟨hw, hl, hrr, hi⟩, hR⟩ := id h
  have e : gI t = gI s := by rcases hst with hst | ⟨x, hst⟩ <;> rw [hst] <;> rfl
  have hrt : RR t g := fun k => by rw [e]; exact hrr k
  obtain ⟨v1, v2, v3, v4⟩ := q_body hl hrt hw a1 a2
  refine ⟨v1, v2, by rw [v3]; exact INV_Th _ hT, by rw [v3]; rfl, ?_, v4⟩
  rw [v3]
  show gI (pI t 248 0 _) 248 0 = _
  rw [gI_pI, if_pos ⟨rfl, rfl⟩]
  cases vX11_body s a1 a2 <;> rfl
theorem i_kind : S_kind (INV X (n + 1)) (INV X n) := by
  intro s t a1 a2 h hT hst
  obtain ⟨hX, g, G, r, N, bt, hr, ht, ⟨hw, hl, hrr, hi⟩, hR⟩ := id h
  have e : gI t = gI s := by rcases hst with hst | ⟨x, hst⟩ <;> rw [hst] <;> rfl
  have hrt : RR t g := fun k => by rw [e]; exact hrr k
  obtain ⟨v1, v2, v3, v4⟩ := q_kind hl hrt hw a1 a2
  refine ⟨v1, v2, by rw [v3]; exact INV_Th _ hT, by rw [v3]; rfl, ?_, v4⟩
  rw [v3]
  show gI (pI t 248 0 _) 248 0 = _
  rw [gI_pI, if_pos ⟨rfl, rfl⟩]
  cases vX11_kind s a1 a2 <;> rfl
theorem i_deal : S_deal (INV X (n + 1)) (INV X n) := by
  intro s t a1 a2 h hT hst
  obtain ⟨hX, g, G, r, N, bt, hr, ht, ⟨hw, hl, hrr, hi⟩, hR⟩ := id h
  have e : gI t = gI s := by rcases hst with hst | ⟨x, hst⟩ <;> rw [hst] <;> rfl
  have hrt : RR t g := fun k => by rw [e]; exact hrr k
  obtain ⟨v1, v2, v3, v4⟩ := q_deal hl hrt hw a1 a2
  refine ⟨v1, v2, by rw [v3]; exact INV_Th _ hT, by rw [v3]; rfl, ?_, v4⟩
  rw [v3]
  show gI (pI t 248 0 _) 248 0 = _
  rw [gI_pI, if_pos ⟨rfl, rfl⟩]
  cases vX11_deal s a1 a2 <;> rfl
theorem i_strike : S_strike (INV X (n + 1)) (INV X n) := by
  intro s a1 h
  obtain ⟨hX, g, G, r, N, bt, hr, ht, ⟨hw, hl, hrr, hi⟩, hR⟩ := id h
  obtain ⟨v1, v2, v3, v4⟩ := q_strike hl hrr hw hi a1
  exact ⟨v1, v2, v3, INV_ao hX hr ht hw hR (AOX_k v4), sm_X11_strike s a1⟩
theorem i_scar : S_scar (INV X (n + 1)) (INV X n) := by
  intro s a1 a2 h
  obtain ⟨hX, g, G, r, N, bt, hr, ht, ⟨hw, hl, hrr, hi⟩, hR⟩ := id h
  obtain ⟨v1, v2, v3, v4⟩ := q_scar hl hrr hw hi a1 a2
  exact ⟨v1, v2, v3, INV_ao hX hr ht hw hR (AOX_k v4), sm_X11_scar s a1 a2⟩
theorem i_year : S_year (INV X (n + 1)) (INV X n) := by
  intro s  h
  obtain ⟨hX, g, G, r, N, bt, hr, ht, ⟨hw, hl, hrr, hi⟩, hR⟩ := id h
  obtain ⟨v1, v2, v3, v4⟩ := q_year hl hrr hw hi 
  exact ⟨v1, v2, v3, INV_ao hX hr ht hw hR (AOX_k v4), sm_X11_year s ⟩
theorem i_write : S_write (INV X (n + 1)) (INV X n) := by
  intro s a1 a2 a3 a4 h
  obtain ⟨hX, g, G, r, N, bt, hr, ht, ⟨hw, hl, hrr, hi⟩, hR⟩ := id h
  obtain ⟨v1, v2, v3, v4⟩ := q_write hl hrr hw hi a1 a2 a3 a4
  exact ⟨v1, v2, v3, INV_ao hX hr ht hw hR (AOX_k v4), sm_X11_write s a1 a2 a3 a4⟩
theorem i_dies : S_dies (INV X (n + 1)) (INV X n) := by
  intro s a1 a2 h
  obtain ⟨hX, g, G, r, N, bt, hr, ht, ⟨hw, hl, hrr, hi⟩, hR⟩ := id h
  obtain ⟨v1, v2, v3, v4⟩ := q_dies hl hrr hw hi a1 a2
  exact ⟨v1, v2, v3, INV_ao hX hr ht hw hR (AOX_k v4), sm_X11_dies s a1 a2⟩
theorem i_undo : S_undo (INV X (n + 1)) (INV X n) := by
  intro s  h
  obtain ⟨hX, g, G, r, N, bt, hr, ht, ⟨hw, hl, hrr, hi⟩, hR⟩ := id h
  obtain ⟨v1, v2, v3, v4⟩ := q_undo hl hrr hw hi 
  exact ⟨v1, v2, v3, INV_ao hX hr ht hw hR (AOX_k v4), sm_X11_undo s ⟩
theorem i_cut : S_cut (INV X (n + 1)) (INV X n) := by
  intro s  h
  obtain ⟨hX, g, G, r, N, bt, hr, ht, ⟨hw, hl, hrr, hi⟩, hR⟩ := id h
  obtain ⟨v1, v2, v3, v4⟩ := q_cut hl hrr hw hi 
  exact ⟨v1, v2, v3, INV_ao hX hr ht hw hR v4, sm_X11_cut s ⟩
theorem i_ringOf : S_ringOf (INV X (n + 1)) (INV X n) := by
  intro s a1 h
  obtain ⟨hX, g, G, r, N, bt, hr, ht, ⟨hw, hl, hrr, hi⟩, hR⟩ := id h
  obtain ⟨v1, v2, v3, v4⟩ := q_ringOf hl hrr hw hi a1
  exact ⟨v1, v2, v3, INV_ao hX hr ht hw hR v4, sm_X11_ringOf s a1⟩
theorem i_ringsFor : S_ringsFor (INV X (n + 1)) (INV X n) := by
  intro s a1 a2 a3 h
  obtain ⟨hX, g, G, r, N, bt, hr, ht, ⟨hw, hl, hrr, hi⟩, hR⟩ := id h
  obtain ⟨v1, v2, v3, v4⟩ := q_ringsFor hl hrr hw hi a1 a2 a3
  exact ⟨v1, v2, v3, INV_ao hX hr ht hw hR v4, sm_X11_ringsFor s a1 a2 a3⟩
theorem i_lasts : S_lasts (INV X (n + 1)) (INV X n) := by
  intro s a1 a2 h
  obtain ⟨hX, g, G, r, N, bt, hr, ht, ⟨hw, hl, hrr, hi⟩, hR⟩ := id h
  obtain ⟨v1, v2, v3, v4⟩ := q_lasts hl hrr hw hi a1 a2
  exact ⟨v1, v2, v3, INV_ao hX hr ht hw hR v4, sm_X11_lasts s a1 a2⟩
theorem i_ring : S_ring (INV X (n + 1)) (INV X n) := by
  intro s  h
  obtain ⟨hX, g, G, r, N, bt, hr, ht, ⟨hw, hl, hrr, hi⟩, hR⟩ := id h
  obtain ⟨a1_, a2_, a3_, a4_, a5_, a6_, a7_, a8_, a9_, b1_, b2_, b3_⟩ := hR
  obtain ⟨v1, v2, v3, v4, v5, v6, v7, v8⟩ := q_ring hl hrr hw hi a5_ 
  have hq := Fq_fp (B := NoL) v8
  exact ⟨v1, v2, v3, ⟨hq.2.2.trans hX, g, G, r, N, bt, by omega, TpB_fq ht hq (fun c i hc ha => by omega), ⟨hw, v4, v5, v6⟩, ⟨SvT_fq a1_ hq (fun _ _ => rfl) (fun c i hc ha => by omega), NmT_gq a2_ hw hq rfl rfl (fun c i _ hb => hb), BkR_fq a3_ hq rfl rfl (fun _ _ => rfl) (fun c i hc ha => by omega), FlT_fq a4_ hq (fun c i hc ha => by omega), v7, JdT_fq a6_ hq (fun c i hc ha => by omega), PkT_fq a7_ hq (fun c i hc ha => by omega) (Nat.le_refl _) (fun _ _ => rfl), TxT_fq a8_ hq (fun c i hc ha => by omega), FiT_fq a9_ hq (fun c i hc ha => by omega), ImT_fq b1_ hq (fun _ _ => rfl) (Nat.le_refl _) (fun c i hc ha => by omega) (fun c i _ hb => hb), ReT_fq b2_ hq (fun c i _ hb => hb), StZ_fq b3_ hq (fun c i hc ha => by omega)⟩⟩, sm_X11_ring s ⟩
theorem i_judge : S_judge (INV X (n + 1)) (INV X n) := by
  intro s a1 h
  obtain ⟨hX, g, G, r, N, bt, hr, ht, ⟨hw, hl, hrr, hi⟩, hR⟩ := id h
  obtain ⟨a1_, a2_, a3_, a4_, a5_, a6_, a7_, a8_, a9_, b1_, b2_, b3_⟩ := hR
  obtain ⟨v1, v2, v3, g', w1, w2, w3, w4, w5, w6, w7, w8⟩ := q_judge hl hrr hw hi a3_ a6_ a1
  have hq := Fq_fp (B := NoL) w7
  exact ⟨v1, v2, v3, ⟨hq.2.2.trans hX, g', G, r, N, bt, by omega, TpB_fq ht hq (fun c i hc ha => by omega), ⟨w1, w4, w5, w6⟩, ⟨SvT_fq a1_ hq w2 (fun c i hc ha => by omega), NmT_gq a2_ hw hq (w2 0 (by omega)) (w2 1 (by omega)) (fun c i _ hb => hb), BkR_fq a3_ hq (w2 0 (by omega)) (w2 1 (by omega)) w3 (fun c i hc ha => by omega), FlT_fq a4_ hq (fun c i hc ha => by omega), RgT_fq a5_ hq (fun c i hc ha => by omega), w8, PkT_fq a7_ hq (fun c i hc ha => by omega) (Nat.le_refl _) (fun _ _ => rfl), TxT_fq a8_ hq (fun c i hc ha => by omega), FiT_fq a9_ hq (fun c i hc ha => by omega), ImT_fq b1_ hq (fun _ _ => rfl) (Nat.le_refl _) (fun c i hc ha => by omega) (fun c i _ hb => hb), ReT_fq b2_ hq (fun c i _ hb => hb), StZ_fq b3_ hq (fun c i hc ha => by omega)⟩⟩, sm_X11_judge s a1⟩
theorem i_feed : S_feed (INV X (n + 1)) (INV X n) := by
  intro s a1 a2 a3 a4 a5 h
  obtain ⟨hX, g, G, r, N, bt, hr, ht, ⟨hw, hl, hrr, hi⟩, hR⟩ := id h
  obtain ⟨a1_, a2_, a3_, a4_, a5_, a6_, a7_, a8_, a9_, b1_, b2_, b3_⟩ := hR
  obtain ⟨v1, v2, v3, ⟨N', bt', v4⟩, v5⟩ := q_feed ht a1 a2 a3 a4 a5
  have hq := Fq_fp (B := NoL) v5
  exact ⟨v1, v2, v3, ⟨hq.2.2.trans hX, g, G, r, N', bt', by omega, v4, Cor_fq ⟨hw, hl, hrr, hi⟩ hq (fun c i hc ha => by omega), ⟨SvT_fq a1_ hq (fun _ _ => rfl) (fun c i hc ha => by omega), NmT_gq a2_ hw hq rfl rfl (fun c i _ hb => hb), BkR_fq a3_ hq rfl rfl (fun _ _ => rfl) (fun c i hc ha => by omega), FlT_fq a4_ hq (fun c i hc ha => by omega), RgT_fq a5_ hq (fun c i hc ha => by omega), JdT_fq a6_ hq (fun c i hc ha => by omega), PkT_fq a7_ hq (fun c i hc ha => by omega) (Nat.le_refl _) (fun _ _ => rfl), TxT_fq a8_ hq (fun c i hc ha => by omega), FiT_fq a9_ hq (fun c i hc ha => by omega), ImT_fq b1_ hq (fun _ _ => rfl) (Nat.le_refl _) (fun c i hc ha => by omega) (fun c i _ hb => hb), ReT_fq b2_ hq (fun c i _ hb => hb), StZ_fq b3_ hq (fun c i hc ha => by omega)⟩⟩, sm_X11_feed s a1 a2 a3 a4 a5⟩
theorem i_end : S_end (INV X (n + 1)) (INV X n) := by
  intro s a1 h
  obtain ⟨hX, g, G, r, N, bt, hr, ht, ⟨hw, hl, hrr, hi⟩, hR⟩ := id h
  obtain ⟨a1_, a2_, a3_, a4_, a5_, a6_, a7_, a8_, a9_, b1_, b2_, b3_⟩ := hR
  obtain ⟨v3, ⟨N', bt', v4⟩, v5, v6⟩ := q_end ht a1
  have hq := Fq_fp (B := NoL) v5
  exact ⟨v3, ⟨hq.2.2.trans hX, g, G, r, N', bt', by omega, v4, Cor_fq ⟨hw, hl, hrr, hi⟩ hq (fun c i hc ha => by omega), ⟨SvT_fq a1_ hq (fun _ _ => rfl) (fun c i hc ha => by omega), NmT_gq a2_ hw hq rfl rfl (fun c i _ hb => hb), BkR_fq a3_ hq rfl rfl (fun _ _ => rfl) (fun c i hc ha => by omega), FlT_fq a4_ hq (fun c i hc ha => by omega), RgT_fq a5_ hq (fun c i hc ha => by omega), JdT_fq a6_ hq (fun c i hc ha => by omega), PkT_fq a7_ hq (fun c i hc ha => by omega) (Nat.le_refl _) (fun _ _ => rfl), TxT_fq a8_ hq (fun c i hc ha => by omega), FiT_fq a9_ hq (fun c i hc ha => by omega), ImT_fq b1_ hq (fun _ _ => rfl) (Nat.le_refl _) (fun c i hc ha => by omega) (fun c i _ hb => hb), ReT_fq b2_ hq (fun c i _ hb => hb), StZ_fq b3_ hq (fun c i hc ha => by omega)⟩⟩, v6⟩
theorem i_skin : S_skin (INV X (n + 1)) (INV X n) := by
  intro s a1 h
  obtain ⟨hX, g, G, r, N, bt, hr, ht, ⟨hw, hl, hrr, hi⟩, hR⟩ := id h
  obtain ⟨a1_, a2_, a3_, a4_, a5_, a6_, a7_, a8_, a9_, b1_, b2_, b3_⟩ := hR
  obtain ⟨v1, v2, v3, v4, v5⟩ := q_skin hl hrr hw a2_ a8_ a1
  have hq := Fq_fp (B := NoL) v5
  exact ⟨v1, v2, v3, ⟨hq.2.2.trans hX, g, G, r, N, bt, by omega, TpB_fq ht hq (fun c i hc ha => by omega), Cor_fq ⟨hw, hl, hrr, hi⟩ hq (fun c i hc ha => by omega), ⟨SvT_fq a1_ hq (fun _ _ => rfl) (fun c i hc ha => by omega), NmT_gq a2_ hw hq rfl rfl (fun c i _ hb => hb), BkR_fq a3_ hq rfl rfl (fun _ _ => rfl) (fun c i hc ha => by omega), FlT_fq a4_ hq (fun c i hc ha => by omega), RgT_fq a5_ hq (fun c i hc ha => by omega), JdT_fq a6_ hq (fun c i hc ha => by omega), PkT_fq a7_ hq (fun c i hc ha => by omega) (Nat.le_refl _) (fun _ _ => rfl), v4, FiT_fq a9_ hq (fun c i hc ha => by omega), ImT_fq b1_ hq (fun _ _ => rfl) (Nat.le_refl _) (fun c i hc ha => by omega) (fun c i _ hb => hb), ReT_fq b2_ hq (fun c i _ hb => hb), StZ_fq b3_ hq (fun c i hc ha => by omega)⟩⟩, sm_X11_skin s a1⟩
theorem i_pack : S_pack (INV X (n + 1)) (INV X n) := by
  intro s  h
  obtain ⟨hX, g, G, r, N, bt, hr, ht, ⟨hw, hl, hrr, hi⟩, hR⟩ := id h
  obtain ⟨a1_, a2_, a3_, a4_, a5_, a6_, a7_, a8_, a9_, b1_, b2_, b3_⟩ := hR
  obtain ⟨v1, v2, v3, v4, v5, v6, v7, v8, v9, w1⟩ := q_pack hl hrr hw hi ht a1_ a7_ 
  have hq := Fq_fp (B := NoL) w1
  exact ⟨v1, v2, v3, ⟨hq.2.2.trans hX, g, G, r, 0, bt, by omega, ⟨by omega, v7, v8, fun i hi => absurd hi (by omega)⟩, ⟨hw, v4, v5, v6⟩, ⟨SvT_fq a1_ hq (fun _ _ => rfl) (fun c i hc ha => by omega), NmT_gq a2_ hw hq rfl rfl (fun c i _ hb => hb), BkR_fq a3_ hq rfl rfl (fun _ _ => rfl) (fun c i hc ha => by omega), FlT_fq a4_ hq (fun c i hc ha => by omega), RgT_fq a5_ hq (fun c i hc ha => by omega), JdT_fq a6_ hq (fun c i hc ha => by omega), v9, TxT_fq a8_ hq (fun c i hc ha => by omega), FiT_fq a9_ hq (fun c i hc ha => by omega), ImT_fq b1_ hq (fun _ _ => rfl) (Nat.le_refl _) (fun c i hc ha => by omega) (fun c i _ hb => hb), ReT_fq b2_ hq (fun c i _ hb => hb), StZ_fq b3_ hq (fun c i hc ha => by omega)⟩⟩, sm_X11_pack s ⟩
theorem i_price : S_price (INV X (n + 1)) (INV X n) := by
  intro s a1 a2 h
  obtain ⟨hX, g, G, r, N, bt, hr, ht, ⟨hw, hl, hrr, hi⟩, hR⟩ := id h
  obtain ⟨a1_, a2_, a3_, a4_, a5_, a6_, a7_, a8_, a9_, b1_, b2_, b3_⟩ := hR
  obtain ⟨v1, v2, v3, v4, v5, v6, v7, v8⟩ := q_price hl hrr hw hi a1_ a7_ a1 a2
  have hq := Fq_fp (B := NoL) v8
  exact ⟨v1, v2, v3, ⟨hq.2.2.trans hX, g, G, r, N, bt, by omega, TpB_fq ht hq (fun c i hc ha => by omega), ⟨hw, v4, v5, v6⟩, ⟨SvT_fq a1_ hq (fun _ _ => rfl) (fun c i hc ha => by omega), NmT_gq a2_ hw hq rfl rfl (fun c i _ hb => hb), BkR_fq a3_ hq rfl rfl (fun _ _ => rfl) (fun c i hc ha => by omega), FlT_fq a4_ hq (fun c i hc ha => by omega), RgT_fq a5_ hq (fun c i hc ha => by omega), JdT_fq a6_ hq (fun c i hc ha => by omega), v7, TxT_fq a8_ hq (fun c i hc ha => by omega), FiT_fq a9_ hq (fun c i hc ha => by omega), ImT_fq b1_ hq (fun _ _ => rfl) (Nat.le_refl _) (fun c i hc ha => by omega) (fun c i _ hb => hb), ReT_fq b2_ hq (fun c i _ hb => hb), StZ_fq b3_ hq (fun c i hc ha => by omega)⟩⟩, sm_X11_price s a1 a2⟩
theorem i_fits : S_fits (INV X (n + 1)) (INV X n) := by
  intro s a1 h
  obtain ⟨hX, g, G, r, N, bt, hr, ht, ⟨hw, hl, hrr, hi⟩, hR⟩ := id h
  obtain ⟨a1_, a2_, a3_, a4_, a5_, a6_, a7_, a8_, a9_, b1_, b2_, b3_⟩ := hR
  obtain ⟨v1, v2, v3, v4, v5, v6, v7⟩ := q_fits hl hrr hw hi ht a9_ a1
  have hq := Fq_fp (B := NoL) v7
  exact ⟨v1, v2, v3, ⟨hq.2.2.trans hX, g, G, r, 0, bt, by omega, ⟨by omega, v4, v5, fun i hi => absurd hi (by omega)⟩, Cor_fq ⟨hw, hl, hrr, hi⟩ hq (fun c i hc ha => by omega), ⟨SvT_fq a1_ hq (fun _ _ => rfl) (fun c i hc ha => by omega), NmT_gq a2_ hw hq rfl rfl (fun c i _ hb => hb), BkR_fq a3_ hq rfl rfl (fun _ _ => rfl) (fun c i hc ha => by omega), FlT_fq a4_ hq (fun c i hc ha => by omega), RgT_fq a5_ hq (fun c i hc ha => by omega), JdT_fq a6_ hq (fun c i hc ha => by omega), PkT_fq a7_ hq (fun c i hc ha => by omega) (Nat.le_refl _) (fun _ _ => rfl), TxT_fq a8_ hq (fun c i hc ha => by omega), v6, ImT_fq b1_ hq (fun _ _ => rfl) (Nat.le_refl _) (fun c i hc ha => by omega) (fun c i _ hb => hb), ReT_fq b2_ hq (fun c i _ hb => hb), StZ_fq b3_ hq (fun c i hc ha => by omega)⟩⟩, sm_X11_fits s a1⟩
theorem i_image : S_image (INV X (n + 1)) (INV X n) := by
  intro s a1 h
  obtain ⟨hX, g, G, r, N, bt, hr, ht, ⟨hw, hl, hrr, hi⟩, hR⟩ := id h
  obtain ⟨a1_, a2_, a3_, a4_, a5_, a6_, a7_, a8_, a9_, b1_, b2_, b3_⟩ := hR
  obtain ⟨v1, v2, v3, v4, hq⟩ := q_image hl hrr hw hi a1_ a2_ a3_ b1_ a1
  exact ⟨v1, v2, v3, ⟨hq.2.2.trans hX, g, G, r, N, bt, by omega, TpB_fq ht hq (fun c i hc ha => by omega), Cor_fq ⟨hw, hl, hrr, hi⟩ hq (fun c i hc ha => by omega), ⟨SvT_fq a1_ hq (fun _ _ => rfl) (fun c i hc ha => by omega), NmT_gq a2_ hw hq rfl rfl (fun c i hc hb => by omega), BkR_fq a3_ hq rfl rfl (fun _ _ => rfl) (fun c i hc ha => by omega), FlT_fq a4_ hq (fun c i hc ha => by omega), RgT_fq a5_ hq (fun c i hc ha => by omega), JdT_fq a6_ hq (fun c i hc ha => by omega), PkT_fq a7_ hq (fun c i hc ha => by omega) (Nat.le_refl _) (fun _ _ => rfl), TxT_fq a8_ hq (fun c i hc ha => by omega), FiT_fq a9_ hq (fun c i hc ha => by omega), v4, ReT_fq b2_ hq (fun c i hc hb => by omega), StZ_fq b3_ hq (fun c i hc ha => by omega)⟩⟩, sm_X11_image s a1⟩
theorem i_restore : S_restore (INV X (n + 1)) (INV X n) := by
  intro s a1 h
  obtain ⟨hX, g, G, r, N, bt, hr, ht, ⟨hw, hl, hrr, hi⟩, hR⟩ := id h
  obtain ⟨a1_, a2_, a3_, a4_, a5_, a6_, a7_, a8_, a9_, b1_, b2_, b3_⟩ := hR
  obtain ⟨v1, v2, v3, g', t, e, w1, w2, w3, w4, w5, w6, w7, hq⟩ := q_restore hl hrr hw hi a1_ a2_ a3_ b1_ a1
  rw [e]
  exact ⟨v1, v2, v3, ⟨hq.2.2.trans hX, g', G, r, N, bt, by omega, TpB_fq ht hq (fun c i hc ha => by omega), ⟨w1, w2, w3, w4⟩, ⟨w5, w6, w7, FlT_fq a4_ hq (fun c i hc ha => by omega), RgT_fq a5_ hq (fun c i hc ha => by omega), JdT_fq a6_ hq (fun c i hc ha => by omega), PkT_fq a7_ hq (fun c i hc ha => by omega) (Nat.le_refl _) (fun _ _ => rfl), TxT_fq a8_ hq (fun c i hc ha => by omega), FiT_fq a9_ hq (fun c i hc ha => by omega), ImT_fq b1_ hq (fun _ _ => rfl) (Nat.le_refl _) (fun c i hc ha => by omega) (fun c i hc hb => by omega), ReT_fq b2_ hq (fun c i hc hb => by omega), StZ_fq b3_ hq (fun c i hc ha => by omega)⟩⟩, sm_X11_restore s a1⟩
theorem i_book : S_book (INV X (n + 1)) (INV X n) := by
  intro s  h
  obtain ⟨hX, g, G, r, N, bt, hr, ht, ⟨hw, hl, hrr, hi⟩, hR⟩ := id h
  obtain ⟨a1_, a2_, a3_, a4_, a5_, a6_, a7_, a8_, a9_, b1_, b2_, b3_⟩ := hR
  obtain ⟨v1, v2, v3, g', w1, w2, w3, w4, w5, w6, w7, w8, w9, hq⟩ := q_book hl hrr hw hi ht a2_ b2_ a3_ 
  exact ⟨v1, v2, v3, ⟨hq.2.2.trans hX, g', G, r, 0, bt, by omega, ⟨by omega, w6, w7, fun i hi => absurd hi (by omega)⟩, ⟨w2, w3, w4, w5⟩, ⟨SvT_fq a1_ hq (fun k hk => w1 k (by omega)) (fun c i hc ha => by omega), NmT_gq a2_ hw hq (w1 0 (by omega)) (w1 1 (by omega)) (fun c i hc hb => by omega), w8, w9, RgT_fq a5_ hq (fun c i hc ha => by omega), JdT_fq a6_ hq (fun c i hc ha => by omega), PkT_fq a7_ hq (fun c i hc ha => by omega) (Nat.le_refl _) (fun _ _ => rfl), TxT_fq a8_ hq (fun c i hc ha => by omega), FiT_fq a9_ hq (fun c i hc ha => by omega), ImT_fq b1_ hq (fun _ _ => rfl) (Nat.le_refl _) (fun c i hc ha => by omega) (fun c i hc hb => by omega), ReT_fq b2_ hq (fun c i hc hb => by omega), StZ_fq b3_ hq (fun c i hc ha => by omega)⟩⟩, sm_X11_book s ⟩
theorem i_port : S_port (INV X (n + 1)) (INV X n) := by
  intro s  h
  obtain ⟨hX, g, G, r, N, bt, hr, ht, ⟨hw, hl, hrr, hi⟩, hR⟩ := id h
  obtain ⟨a1_, a2_, a3_, a4_, a5_, a6_, a7_, a8_, a9_, b1_, b2_, b3_⟩ := hR
  obtain ⟨v1, v2, v3, g', G', r', -, w1, w2, w3, w4, w5, w6, w7, hG, hr1, hr2, w8, w9, w10, hq⟩ := q_port hl hrr hw hi ht a1_ (by omega) a2_ b2_ a3_ 
  exact ⟨v1, v2, v3, ⟨hq.2.2.trans hX, g', G', r', 0, bt, by omega, ⟨by omega, w5, w6, fun i hi => absurd hi (by omega)⟩, ⟨w1, w2, w3, w4⟩, ⟨w7, w8, w9, w10, RgT_fq a5_ hq (fun c i hc ha => by omega), JdT_fq a6_ hq (fun c i hc ha => by omega), PkT_fq a7_ hq (fun c i hc ha => by omega) hr1 hG, TxT_fq a8_ hq (fun c i hc ha => by omega), FiT_fq a9_ hq (fun c i hc ha => by omega), ImT_fq b1_ hq hG hr1 (fun c i hc ha => by omega) (fun c i hc hb => by omega), ReT_fq b2_ hq (fun c i hc hb => by omega), StZ_fq b3_ hq (fun c i hc ha => by omega)⟩⟩, sm_X11_port s ⟩
theorem i_settled : S_settled (INV X (n + 1)) (INV X n) := by
  intro s h
  obtain ⟨hX, g, G, r, N, bt, hr, ht, ⟨hw, hl, hrr, hi⟩, hR⟩ := id h
  obtain ⟨a1_, a2_, a3_, a4_, a5_, a6_, a7_, a8_, a9_, b1_, b2_, b3_⟩ := hR
  obtain ⟨e1, f1, z1, r1⟩ := y_settled hl hw b3_
  have hr1 : RR (mX11_settled s) g := RR_fr hrr f1 (by omega)
  obtain ⟨e2, r2, -, u, f2, e3⟩ := x_settled hr1 hw
  have hq : Fq (fun c i => (241 ≤ c ∧ c ≤ 243) ∨ (260 ≤ c ∧ c ≤ 261) ∨ (c = 248 ∧ i = 0)) NoL s u := by
    refine Fq_fp ⟨fun c i hc => ?_, f2.2.1.trans f1.2.1, f2.2.2.trans f1.2.2⟩
    rw [f2.1 c (by omega), gI_pI, if_neg (by omega), f1.1 c (by omega)]
  have hz : StZ u := ⟨by rw [f2.1 242 (by omega), gI_pI, if_neg (by omega)]; exact z1.1, by rw [f2.1 243 (by omega), gI_pI, if_neg (by omega)]; exact z1.2⟩
  refine ⟨r1, r2, by rw [e1, e2], ?_, sm_X11_settled s⟩
  rw [e3]
  exact ⟨hq.2.2.trans hX, g, G, r, N, bt, by omega, TpB_fq ht hq (fun c i hc ha => by omega), Cor_fq ⟨hw, hl, hrr, hi⟩ hq (fun c i hc ha => by omega), ⟨SvT_fq a1_ hq (fun _ _ => rfl) (fun c i hc ha => by omega), NmT_gq a2_ hw hq rfl rfl (fun c i _ hb => hb), BkR_fq a3_ hq rfl rfl (fun _ _ => rfl) (fun c i hc ha => by omega), FlT_fq a4_ hq (fun c i hc ha => by omega), RgT_fq a5_ hq (fun c i hc ha => by omega), JdT_fq a6_ hq (fun c i hc ha => by omega), PkT_fq a7_ hq (fun c i hc ha => by omega) (Nat.le_refl _) (fun _ _ => rfl), TxT_fq a8_ hq (fun c i hc ha => by omega), FiT_fq a9_ hq (fun c i hc ha => by omega), ImT_fq b1_ hq (fun _ _ => rfl) (Nat.le_refl _) (fun c i hc ha => by omega) (fun c i _ hb => hb), ReT_fq b2_ hq (fun c i _ hb => hb), hz⟩⟩
theorem i_all : S_all (INV X (n + 1)) (INV X n) := ⟨i_feed, i_end, i_port, i_fault, i_body, i_kind, i_deal, i_read, i_mark, i_write, i_strike, i_scar, i_ring, i_ringAt, i_ringOf, i_cut, i_dies, i_year, i_undo, i_can, i_ringsFor, i_aged, i_owes, i_chain, i_fullest, i_trade, i_settled, i_skin, i_byteAt, i_between, i_greatest, i_book, i_judge, i_judged, i_pack, i_packed, i_price, i_lost, i_fits, i_fit, i_owed, i_proof, i_witness, i_lasts, i_image, i_restore, i_count, i_out⟩
end
/-- a new object's state -/
theorem i_start (X : Nat × (Nat → Int32)) : INV X 512 (s00 X) := by
  have e : ∀ c i, gI (s00 X) c i = if c = 5 ∧ i = 8 ∨ c = 12 ∧ i = 8 ∨ c = 167 ∧ i = 8 ∨ c = 193 ∧ i = 8 ∨ c = 250 ∧ i = 2 then 1 else if c = 248 ∧ (i = 46 ∨ i = 47) then -1 else 0 := by
    intro c i
    unfold s00
    simp only [gI_pL, gI_pI]
    show _ = _
    have e0 : gI (z0 X) c i = 0 := rfl
    rw [e0]
    repeat' split
    all_goals first | rfl | omega
  have z : ∀ c i, ¬ (c = 5 ∧ i = 8 ∨ c = 12 ∧ i = 8 ∨ c = 167 ∧ i = 8 ∨ c = 193 ∧ i = 8 ∨ c = 250 ∧ i = 2) → ¬ (c = 248 ∧ (i = 46 ∨ i = 47)) → gI (s00 X) c i = 0 := fun c i h1 h2 => by rw [e, if_neg h1, if_neg h2]
  have z0' : zI 0 = 0 := rfl
  have z1' : zI 1 = 1 := rfl
  obtain ⟨g, hg⟩ : ∃ g : Nat → Int, g = fun k => if k = 2 then 1 else 0 := ⟨_, rfl⟩
  have g2 : g 2 = 1 := by rw [hg]; rfl
  have gz : ∀ k, k ≠ 2 → g k = 0 := fun k hk => by rw [hg]; exact if_neg hk
  have hw : WF g := by
    refine ⟨⟨?_, ?_, ?_, ?_, ?_, ?_, ?_⟩, fun b hb => ?_, fun b hb => ?_, fun b hb => ?_⟩
    · rw [gz 0 (by omega)]; omega
    · rw [gz 1 (by omega)]; omega
    · rw [g2]; omega
    · rw [gz 3 (by omega)]; omega
    · rw [gz 34 (by omega)]; omega
    · rw [gz 35 (by omega)]; omega
    · rw [gz 36 (by omega)]; omega
    · have := gz 0 (by omega); omega
    · have := gz 1 (by omega); omega
    · have := gz 34 (by omega); omega
  have k0 := gz 0 (by omega)
  have k1 := gz 1 (by omega)
  have k3 := gz 3 (by omega)
  have k34 := gz 34 (by omega)
  have k35 := gz 35 (by omega)
  have k36 := gz 36 (by omega)
  have k586 := gz 586 (by omega)
  have hl : LdR (s00 X) 31 5 g := by
    refine ⟨⟨⟨?_, ?_, ?_, ?_⟩, fun b hb => ?_, fun b hb => ?_⟩, ⟨?_, ?_, ?_⟩, fun b hb => ?_, fun b hb => ?_⟩
    · rw [k0, z _ _ (by omega) (by omega)]; rfl
    · rw [k1, z _ _ (by omega) (by omega)]; rfl
    · rw [g2, e]; rfl
    · rw [k3, z _ _ (by omega) (by omega)]; rfl
    · omega
    · omega
    · rw [k34, z _ _ (by omega) (by omega)]; rfl
    · rw [k35, z _ _ (by omega) (by omega)]; rfl
    · rw [k36, z _ _ (by omega) (by omega)]; rfl
    · omega
    · omega
  have hr : RR (s00 X) g := fun k => by
    by_cases hk : k = 2
    · rw [hk, g2, e]; rfl
    · rw [gz k hk, z _ _ (by omega) (by omega)]; rfl
  have hi : HI (s00 X) g := by
    refine ⟨0, 0, by omega, by omega, ?_, ?_, ?_, fun j hj => absurd hj (by omega), fun d hd => ?_⟩
    · rw [z _ _ (by omega) (by omega)]; rfl
    · rw [z _ _ (by omega) (by omega)]; rfl
    · rw [z _ _ (by omega) (by omega)]; rfl
    · have := hd.1; omega
  have hbk : gI (s00 X) 19 0 = zI (g 586) := by rw [k586]; exact (z 19 0 (by decide) (by decide))
  have hre : ReT (s00 X) := by
    intro i hi
    have h17 : i = 0 ∨ i = 1 ∨ i = 2 ∨ i = 3 ∨ i = 4 ∨ i = 5 ∨ i = 6 ∨ i = 7 ∨ i = 8 ∨ i = 9 ∨ i = 10 ∨ i = 11 ∨ i = 12 ∨ i = 13 ∨ i = 14 ∨ i = 15 ∨ i = 16 := by omega
    rcases h17 with h17 | h17 | h17 | h17 | h17 | h17 | h17 | h17 | h17 | h17 | h17 | h17 | h17 | h17 | h17 | h17 | h17 <;> (rw [h17]; rfl)
  exact ⟨rfl, g, fun _ => g, 0, 0, fun _ => 0, by omega, ⟨by omega, (z 3 1 (by decide) (by decide)), (z 248 2 (by decide) (by decide)), fun i hi => absurd hi (by omega)⟩, ⟨hw, hl, hr, hi⟩, ⟨by omega, (z 2 19 (by decide) (by decide)), (z 248 23 (by decide) (by decide)), 0, by omega, (z 5 11 (by decide) (by decide)), (z 248 22 (by decide) (by decide)), fun _ _ => rfl⟩, ⟨fun b hb => by omega, fun b hb => by omega⟩, ⟨hbk, by omega, fun i hi => by omega⟩, ((z 2 18 (by decide) (by decide))).trans ((z 248 15 (by decide) (by decide))).symm, ⟨0, by omega, (z 2 15 (by decide) (by decide)), (z 248 30 (by decide) (by decide)), fun i hi => absurd hi (by omega)⟩, ⟨((z 2 17 (by decide) (by decide))).trans ((z 248 38 (by decide) (by decide))).symm, Or.inl (z 2 17 (by decide) (by decide))⟩, Or.inl ⟨(z 225 0 (by decide) (by decide)), (e 248 46).trans rfl⟩, ⟨[], by decide, ⟨(z 244 0 (by decide) (by decide)), fun i hi => absurd hi (Nat.not_lt_zero i)⟩, ⟨(z 248 35 (by decide) (by decide)), fun i hi => absurd hi (Nat.not_lt_zero i)⟩⟩, Or.inl ⟨(z 233 9 (by decide) (by decide)), (z 248 53 (by decide) (by decide))⟩, ⟨Or.inl ⟨(z 166 0 (by decide) (by decide)), (z 277 0 (by decide) (by decide))⟩, Or.inl ⟨(z 192 0 (by decide) (by decide)), (z 277 1 (by decide) (by decide))⟩⟩, hre, ⟨(z 242 0 (by decide) (by decide)), (z 243 0 (by decide) (by decide))⟩⟩
