set_option maxRecDepth 1000000 in
theorem bX12_bookLine_122 (a1 : Int32) (a2 : Int32) (a3 : Int32) {s : SM} {Q : Int32 → SM → Prop} (h : (((5 : Int32) ≤ a3 → vp_in a2 201 ∧ rX12_next (pI s 252 (a2).toNatClampNeg a1)  ∧ ((a1 = (3 : Int32) → Q (1 : Int32) (mX12_next (pI s 252 (a2).toNatClampNeg a1) )) ∧ (¬ a1 = (3 : Int32) → ((¬ a1 = (5 : Int32) → ((a1 = (1 : Int32) → BI MX12_bookLine 3 175 [(0, .ref 248), (1, .int a1), (2, .int a2), (3, .int a3)] (mX12_next (pI s 252 (a2).toNatClampNeg a1) ) Q) ∧ (¬ a1 = (1 : Int32) → ((¬ a1 = (2 : Int32) → rX12_takesName (mX12_next (pI s 252 (a2).toNatClampNeg a1) ) (0 : Int32) (gI (mX12_next (pI s 252 (a2).toNatClampNeg a1) ) 250 ((0 : Int32)).toNatClampNeg) ∧ (∀ s2, s2 = (mX12_takesName (mX12_next (pI s 252 (a2).toNatClampNeg a1) ) (0 : Int32) (gI (mX12_next (pI s 252 (a2).toNatClampNeg a1) ) 250 ((0 : Int32)).toNatClampNeg)) → ((¬ (vX12_takesName (mX12_next (pI s 252 (a2).toNatClampNeg a1) ) (0 : Int32) (gI (mX12_next (pI s 252 (a2).toNatClampNeg a1) ) 250 ((0 : Int32)).toNatClampNeg)) = 0 → vp_in (a2 + (1 : Int32)) 201 ∧ rX12_takesName (pI s2 252 ((a2 + (1 : Int32))).toNatClampNeg (gI s2 248 18)) (0 : Int32) (gI (pI s2 252 ((a2 + (1 : Int32))).toNatClampNeg (gI s2 248 18)) 250 ((0 : Int32)).toNatClampNeg) ∧ (∀ s4, s4 = (mX12_takesName (pI s2 252 ((a2 + (1 : Int32))).toNatClampNeg (gI s2 248 18)) (0 : Int32) (gI (pI s2 252 ((a2 + (1 : Int32))).toNatClampNeg (gI s2 248 18)) 250 ((0 : Int32)).toNatClampNeg)) → ((¬ (vX12_takesName (pI s2 252 ((a2 + (1 : Int32))).toNatClampNeg (gI s2 248 18)) (0 : Int32) (gI (pI s2 252 ((a2 + (1 : Int32))).toNatClampNeg (gI s2 248 18)) 250 ((0 : Int32)).toNatClampNeg)) = 0 → vp_in (a2 + (2 : Int32)) 201 ∧ ((¬ a1 = (4 : Int32) → rX12_takes (pI s4 252 ((a2 + (2 : Int32))).toNatClampNeg (gI s4 248 18)) (1 : Int32) (99 : Int32) ∧ ((¬ (vX12_takes (pI s4 252 ((a2 + (2 : Int32))).toNatClampNeg (gI s4 248 18)) (1 : Int32) (99 : Int32)) = 0 → vp_in (a2 + (3 : Int32)) 201 ∧ (∀ s7, s7 = (pI (mX12_takes (pI s4 252 ((a2 + (2 : Int32))).toNatClampNeg (gI s4 248 18)) (1 : Int32) (99 : Int32)) 252 ((a2 + (3 : Int32))).toNatClampNeg (gI (mX12_takes (pI s4 252 ((a2 + (2 : Int32))).toNatClampNeg (gI s4 248 18)) (1 : Int32) (99 : Int32)) 248 18)) → rX12_takesName s7 (9 : Int32) (gI s7 250 ((1 : Int32)).toNatClampNeg) ∧ ((¬ (vX12_takesName s7 (9 : Int32) (gI s7 250 ((1 : Int32)).toNatClampNeg)) = 0 → vp_in (a2 + (4 : Int32)) 201 ∧ (∀ s9, s9 = (pI (mX12_takesName s7 (9 : Int32) (gI s7 250 ((1 : Int32)).toNatClampNeg)) 252 ((a2 + (4 : Int32))).toNatClampNeg (gI (mX12_takesName s7 (9 : Int32) (gI s7 250 ((1 : Int32)).toNatClampNeg)) 248 18)) → Q (1 : Int32) s9)) ∧ ((vX12_takesName s7 (9 : Int32) (gI s7 250 ((1 : Int32)).toNatClampNeg)) = 0 → Q (0 : Int32) (mX12_takesName s7 (9 : Int32) (gI s7 250 ((1 : Int32)).toNatClampNeg)))))) ∧ ((vX12_takes (pI s4 252 ((a2 + (2 : Int32))).toNatClampNeg (gI s4 248 18)) (1 : Int32) (99 : Int32)) = 0 → Q (0 : Int32) (mX12_takes (pI s4 252 ((a2 + (2 : Int32))).toNatClampNeg (gI s4 248 18)) (1 : Int32) (99 : Int32))))) ∧ (a1 = (4 : Int32) → Q (1 : Int32) (pI s4 252 ((a2 + (2 : Int32))).toNatClampNeg (gI s4 248 18))))) ∧ ((vX12_takesName (pI s2 252 ((a2 + (1 : Int32))).toNatClampNeg (gI s2 248 18)) (0 : Int32) (gI (pI s2 252 ((a2 + (1 : Int32))).toNatClampNeg (gI s2 248 18)) 250 ((0 : Int32)).toNatClampNeg)) = 0 → Q (0 : Int32) s4)))) ∧ ((vX12_takesName (mX12_next (pI s 252 (a2).toNatClampNeg a1) ) (0 : Int32) (gI (mX12_next (pI s 252 (a2).toNatClampNeg a1) ) 250 ((0 : Int32)).toNatClampNeg)) = 0 → Q (0 : Int32) s2)))) ∧ (a1 = (2 : Int32) → BI MX12_bookLine 3 175 [(0, .ref 248), (1, .int a1), (2, .int a2), (3, .int a3)] (mX12_next (pI s 252 (a2).toNatClampNeg a1) ) Q))))) ∧ (a1 = (5 : Int32) → Q (1 : Int32) (mX12_next (pI s 252 (a2).toNatClampNeg a1) )))))) ∧ (¬ (5 : Int32) ≤ a3 → vp_in (a2 + a3) 201 ∧ BI MX12_bookLine 3 122 [(0, .ref 248), (1, .int a1), (2, .int a2), (3, .int (a3 + 1))] (pI s 252 ((a2 + a3)).toNatClampNeg (0 : Int32)) Q))) : BI MX12_bookLine 3 122 [(0, .ref 248), (1, .int a1), (2, .int a2), (3, .int a3)] s Q := by
  refine JT_iload_n (q := 3) dX12_bookLine_122 rfl rfl ?_
  refine JT_iconst (v := 5) dX12_bookLine_123 ic_5 ?_
  refine JT_icmp_ge (tgt := 142) dX12_bookLine_124 (by decide) (fun hc25 => ?_) (fun hc25 => ?_)
  · have h := h.1 hc25
    refine JT_aload_n (q := 0) dX12_bookLine_142 rfl rfl ?_
    refine JS_getR (x := 252) dX12_bookLine_143 flX12_40 BS_248 (Nat.le_of_ble_eq_true rfl) (Nat.le_of_ble_eq_true rfl) (Or.inr ⟨_, ct_12_8⟩) RF_248_8 ?_
    refine JT_iload_n (q := 2) dX12_bookLine_146 rfl rfl ?_
    refine JT_iload_n (q := 1) dX12_bookLine_147 rfl rfl ?_
    obtain ⟨o1, h⟩ := h
    refine JS_iast dX12_bookLine_148 BS_252 (Nat.le_of_ble_eq_true rfl) (Nat.le_of_ble_eq_true rfl) o1 ?_
    refine JT_aload_n (q := 0) dX12_bookLine_149 rfl rfl ?_
    obtain ⟨o23, h⟩ := h
    refine JS_callVV (M' := MX12_next) (d' := 1) (As := []) (rest := []) (P := (fun wm9 => (mX12_next (pI s 252 (a2).toNatClampNeg a1) ) = wm9)) dX12_bookLine_150 cvX12_199 okX12_next rfl (Nat.le_of_ble_eq_true rfl) BS_248 (Nat.le_of_ble_eq_true rfl) (Nat.le_of_ble_eq_true rfl) hci_12 (Nat.le_of_ble_eq_true rfl) (Nat.le_of_ble_eq_true rfl) (pX12_next   o23 rfl) (fun wm9 hq9 => ?_)
    subst hq9
    refine JT_iload_n (q := 1) dX12_bookLine_153 rfl rfl ?_
    refine JT_iconst (v := 3) dX12_bookLine_154 ic_3 ?_
    refine JT_icmp_eq (tgt := 163) dX12_bookLine_155 (by decide) (fun hc22 => ?_) (fun hc22 => ?_)
    · have h := h.1 hc22
      refine JT_iconst (v := 1) dX12_bookLine_163 ic_1 ?_
      exact JS_iret dX12_bookLine_164 rfl (n01 (Or.inr rfl)) h
    · have h := h.2 hc22
      refine JT_iload_n (q := 1) dX12_bookLine_158 rfl rfl ?_
      refine JT_iconst (v := 5) dX12_bookLine_159 ic_5 ?_
      refine JT_icmp_ne (tgt := 165) dX12_bookLine_160 (by decide) (fun hc21 => ?_) (fun hc21 => ?_)
      · have h := h.1 hc21
        refine JT_iload_n (q := 1) dX12_bookLine_165 rfl rfl ?_
        refine JT_iconst (v := 1) dX12_bookLine_166 ic_1 ?_
        refine JT_icmp_eq (tgt := 175) dX12_bookLine_167 (by decide) (fun hc20 => ?_) (fun hc20 => ?_)
        · have h := h.1 hc20
          exact JT_sub [0, 1, 2, 3] rfl h
        · have h := h.2 hc20
          refine JT_iload_n (q := 1) dX12_bookLine_170 rfl rfl ?_
          refine JT_iconst (v := 2) dX12_bookLine_171 ic_2 ?_
          refine JT_icmp_ne (tgt := 261) dX12_bookLine_172 (by decide) (fun hc19 => ?_) (fun hc19 => ?_)
          · have h := h.1 hc19
            refine JT_aload_n (q := 0) dX12_bookLine_261 rfl rfl ?_
            refine JT_iconst (v := 0) dX12_bookLine_262 ic_0 ?_
            refine JT_aload_n (q := 0) dX12_bookLine_263 rfl rfl ?_
            refine JS_getR (x := 250) dX12_bookLine_264 flX12_33 BS_248 (Nat.le_of_ble_eq_true rfl) (Nat.le_of_ble_eq_true rfl) (Or.inr ⟨_, ct_12_6⟩) RF_248_6 ?_
            refine JT_iconst (v := 0) dX12_bookLine_267 ic_0 ?_
            refine JS_iald dX12_bookLine_268 BS_250 (Nat.le_of_ble_eq_true rfl) (Nat.le_of_ble_eq_true rfl) (by unfold vp_in; decide) ?_
            obtain ⟨o18, h⟩ := h
            refine JS_callVI (M' := MX12_takesName) (d' := 2) (As := [.int (0 : Int32), .int (gI (mX12_next (pI s 252 (a2).toNatClampNeg a1) ) 250 ((0 : Int32)).toNatClampNeg)]) (rest := []) (P := (fun zv9 wm9 => (vX12_takesName (mX12_next (pI s 252 (a2).toNatClampNeg a1) ) (0 : Int32) (gI (mX12_next (pI s 252 (a2).toNatClampNeg a1) ) 250 ((0 : Int32)).toNatClampNeg)) = zv9 ∧ (mX12_takesName (mX12_next (pI s 252 (a2).toNatClampNeg a1) ) (0 : Int32) (gI (mX12_next (pI s 252 (a2).toNatClampNeg a1) ) 250 ((0 : Int32)).toNatClampNeg)) = wm9)) dX12_bookLine_269 cvX12_228 okX12_takesName rfl (Nat.le_of_ble_eq_true rfl) BS_248 (Nat.le_of_ble_eq_true rfl) (Nat.le_of_ble_eq_true rfl) hci_12 (Nat.le_of_ble_eq_true rfl) (Nat.le_of_ble_eq_true rfl) (pX12_takesName  ((0 : Int32)) ((gI (mX12_next (pI s 252 (a2).toNatClampNeg a1) ) 250 ((0 : Int32)).toNatClampNeg)) o18 ⟨rfl, rfl⟩) (fun zv9 wm9 hq9 => ?_)
            obtain ⟨rfl, rfl⟩ := hq9
            obtain ⟨s2, hs2⟩ : ∃ z, z = (mX12_takesName (mX12_next (pI s 252 (a2).toNatClampNeg a1) ) (0 : Int32) (gI (mX12_next (pI s 252 (a2).toNatClampNeg a1) ) 250 ((0 : Int32)).toNatClampNeg)) := ⟨_, rfl⟩
            replace h := h s2 hs2
            rw [← hs2]
            refine JT_if_ne (tgt := 277) dX12_bookLine_272 (by decide) (fun hc17 => ?_) (fun hc17 => ?_)
            · have h := h.1 hc17
              refine JT_aload_n (q := 0) dX12_bookLine_277 rfl rfl ?_
              refine JS_getR (x := 252) dX12_bookLine_278 flX12_40 BS_248 (Nat.le_of_ble_eq_true rfl) (Nat.le_of_ble_eq_true rfl) (Or.inr ⟨_, ct_12_8⟩) RF_248_8 ?_
              refine JT_iload_n (q := 2) dX12_bookLine_281 rfl rfl ?_
              refine JT_iconst (v := 1) dX12_bookLine_282 ic_1 ?_
              refine JT_iadd dX12_bookLine_283 ?_
              refine JT_aload_n (q := 0) dX12_bookLine_284 rfl rfl ?_
              refine JS_getI dX12_bookLine_285 flX12_206 BS_248 (Nat.le_of_ble_eq_true rfl) (Nat.le_of_ble_eq_true rfl) (Or.inl ct_12_18) ?_
              obtain ⟨o3, h⟩ := h
              refine JS_iast dX12_bookLine_288 BS_252 (Nat.le_of_ble_eq_true rfl) (Nat.le_of_ble_eq_true rfl) o3 ?_
              refine JT_aload_n (q := 0) dX12_bookLine_289 rfl rfl ?_
              refine JT_iconst (v := 0) dX12_bookLine_290 ic_0 ?_
              refine JT_aload_n (q := 0) dX12_bookLine_291 rfl rfl ?_
              refine JS_getR (x := 250) dX12_bookLine_292 flX12_33 BS_248 (Nat.le_of_ble_eq_true rfl) (Nat.le_of_ble_eq_true rfl) (Or.inr ⟨_, ct_12_6⟩) RF_248_6 ?_
              refine JT_iconst (v := 0) dX12_bookLine_295 ic_0 ?_
              refine JS_iald dX12_bookLine_296 BS_250 (Nat.le_of_ble_eq_true rfl) (Nat.le_of_ble_eq_true rfl) (by unfold vp_in; decide) ?_
              obtain ⟨o16, h⟩ := h
              refine JS_callVI (M' := MX12_takesName) (d' := 2) (As := [.int (0 : Int32), .int (gI (pI s2 252 ((a2 + (1 : Int32))).toNatClampNeg (gI s2 248 18)) 250 ((0 : Int32)).toNatClampNeg)]) (rest := []) (P := (fun zv9 wm9 => (vX12_takesName (pI s2 252 ((a2 + (1 : Int32))).toNatClampNeg (gI s2 248 18)) (0 : Int32) (gI (pI s2 252 ((a2 + (1 : Int32))).toNatClampNeg (gI s2 248 18)) 250 ((0 : Int32)).toNatClampNeg)) = zv9 ∧ (mX12_takesName (pI s2 252 ((a2 + (1 : Int32))).toNatClampNeg (gI s2 248 18)) (0 : Int32) (gI (pI s2 252 ((a2 + (1 : Int32))).toNatClampNeg (gI s2 248 18)) 250 ((0 : Int32)).toNatClampNeg)) = wm9)) dX12_bookLine_297 cvX12_228 okX12_takesName rfl (Nat.le_of_ble_eq_true rfl) BS_248 (Nat.le_of_ble_eq_true rfl) (Nat.le_of_ble_eq_true rfl) hci_12 (Nat.le_of_ble_eq_true rfl) (Nat.le_of_ble_eq_true rfl) (pX12_takesName  ((0 : Int32)) ((gI (pI s2 252 ((a2 + (1 : Int32))).toNatClampNeg (gI s2 248 18)) 250 ((0 : Int32)).toNatClampNeg)) o16 ⟨rfl, rfl⟩) (fun zv9 wm9 hq9 => ?_)
              obtain ⟨rfl, rfl⟩ := hq9
              obtain ⟨s4, hs4⟩ : ∃ z, z = (mX12_takesName (pI s2 252 ((a2 + (1 : Int32))).toNatClampNeg (gI s2 248 18)) (0 : Int32) (gI (pI s2 252 ((a2 + (1 : Int32))).toNatClampNeg (gI s2 248 18)) 250 ((0 : Int32)).toNatClampNeg)) := ⟨_, rfl⟩
              replace h := h s4 hs4
              rw [← hs4]
              refine JT_if_ne (tgt := 305) dX12_bookLine_300 (by decide) (fun hc15 => ?_) (fun hc15 => ?_)
              · have h := h.1 hc15
                refine JT_aload_n (q := 0) dX12_bookLine_305 rfl rfl ?_
                refine JS_getR (x := 252) dX12_bookLine_306 flX12_40 BS_248 (Nat.le_of_ble_eq_true rfl) (Nat.le_of_ble_eq_true rfl) (Or.inr ⟨_, ct_12_8⟩) RF_248_8 ?_
                refine JT_iload_n (q := 2) dX12_bookLine_309 rfl rfl ?_
                refine JT_iconst (v := 2) dX12_bookLine_310 ic_2 ?_
                refine JT_iadd dX12_bookLine_311 ?_
                refine JT_aload_n (q := 0) dX12_bookLine_312 rfl rfl ?_
                refine JS_getI dX12_bookLine_313 flX12_206 BS_248 (Nat.le_of_ble_eq_true rfl) (Nat.le_of_ble_eq_true rfl) (Or.inl ct_12_18) ?_
                obtain ⟨o5, h⟩ := h
                refine JS_iast dX12_bookLine_316 BS_252 (Nat.le_of_ble_eq_true rfl) (Nat.le_of_ble_eq_true rfl) o5 ?_
                refine JT_iload_n (q := 1) dX12_bookLine_317 rfl rfl ?_
                refine JT_iconst (v := 4) dX12_bookLine_318 ic_4 ?_
                refine JT_icmp_ne (tgt := 324) dX12_bookLine_319 (by decide) (fun hc14 => ?_) (fun hc14 => ?_)
                · have h := h.1 hc14
                  refine JT_aload_n (q := 0) dX12_bookLine_324 rfl rfl ?_
                  refine JT_iconst (v := 1) dX12_bookLine_325 ic_1 ?_
                  refine JT_bipush (v := 99) dX12_bookLine_326 bp_99 ?_
                  obtain ⟨o13, h⟩ := h
                  refine JS_callVI (M' := MX12_takes) (d' := 2) (As := [.int (1 : Int32), .int (99 : Int32)]) (rest := []) (P := (fun zv9 wm9 => (vX12_takes (pI s4 252 ((a2 + (2 : Int32))).toNatClampNeg (gI s4 248 18)) (1 : Int32) (99 : Int32)) = zv9 ∧ (mX12_takes (pI s4 252 ((a2 + (2 : Int32))).toNatClampNeg (gI s4 248 18)) (1 : Int32) (99 : Int32)) = wm9)) dX12_bookLine_328 cvX12_224 okX12_takes rfl (Nat.le_of_ble_eq_true rfl) BS_248 (Nat.le_of_ble_eq_true rfl) (Nat.le_of_ble_eq_true rfl) hci_12 (Nat.le_of_ble_eq_true rfl) (Nat.le_of_ble_eq_true rfl) (pX12_takes  ((1 : Int32)) ((99 : Int32)) o13 ⟨rfl, rfl⟩) (fun zv9 wm9 hq9 => ?_)
                  obtain ⟨rfl, rfl⟩ := hq9
                  refine JT_if_ne (tgt := 336) dX12_bookLine_331 (by decide) (fun hc12 => ?_) (fun hc12 => ?_)
                  · have h := h.1 hc12
                    refine JT_aload_n (q := 0) dX12_bookLine_336 rfl rfl ?_
                    refine JS_getR (x := 252) dX12_bookLine_337 flX12_40 BS_248 (Nat.le_of_ble_eq_true rfl) (Nat.le_of_ble_eq_true rfl) (Or.inr ⟨_, ct_12_8⟩) RF_248_8 ?_
                    refine JT_iload_n (q := 2) dX12_bookLine_340 rfl rfl ?_
                    refine JT_iconst (v := 3) dX12_bookLine_341 ic_3 ?_
                    refine JT_iadd dX12_bookLine_342 ?_
                    refine JT_aload_n (q := 0) dX12_bookLine_343 rfl rfl ?_
                    refine JS_getI dX12_bookLine_344 flX12_206 BS_248 (Nat.le_of_ble_eq_true rfl) (Nat.le_of_ble_eq_true rfl) (Or.inl ct_12_18) ?_
                    obtain ⟨o6, h⟩ := h
                    refine JS_iast dX12_bookLine_347 BS_252 (Nat.le_of_ble_eq_true rfl) (Nat.le_of_ble_eq_true rfl) o6 ?_
                    obtain ⟨s7, hs7⟩ : ∃ z, z = (pI (mX12_takes (pI s4 252 ((a2 + (2 : Int32))).toNatClampNeg (gI s4 248 18)) (1 : Int32) (99 : Int32)) 252 ((a2 + (3 : Int32))).toNatClampNeg (gI (mX12_takes (pI s4 252 ((a2 + (2 : Int32))).toNatClampNeg (gI s4 248 18)) (1 : Int32) (99 : Int32)) 248 18)) := ⟨_, rfl⟩
                    replace h := h s7 hs7
                    rw [← hs7]
                    refine JT_aload_n (q := 0) dX12_bookLine_348 rfl rfl ?_
                    refine JT_bipush (v := 9) dX12_bookLine_349 bp_9 ?_
                    refine JT_aload_n (q := 0) dX12_bookLine_351 rfl rfl ?_
                    refine JS_getR (x := 250) dX12_bookLine_352 flX12_33 BS_248 (Nat.le_of_ble_eq_true rfl) (Nat.le_of_ble_eq_true rfl) (Or.inr ⟨_, ct_12_6⟩) RF_248_6 ?_
                    refine JT_iconst (v := 1) dX12_bookLine_355 ic_1 ?_
                    refine JS_iald dX12_bookLine_356 BS_250 (Nat.le_of_ble_eq_true rfl) (Nat.le_of_ble_eq_true rfl) (by unfold vp_in; decide) ?_
                    obtain ⟨o11, h⟩ := h
                    refine JS_callVI (M' := MX12_takesName) (d' := 2) (As := [.int (9 : Int32), .int (gI s7 250 ((1 : Int32)).toNatClampNeg)]) (rest := []) (P := (fun zv9 wm9 => (vX12_takesName s7 (9 : Int32) (gI s7 250 ((1 : Int32)).toNatClampNeg)) = zv9 ∧ (mX12_takesName s7 (9 : Int32) (gI s7 250 ((1 : Int32)).toNatClampNeg)) = wm9)) dX12_bookLine_357 cvX12_228 okX12_takesName rfl (Nat.le_of_ble_eq_true rfl) BS_248 (Nat.le_of_ble_eq_true rfl) (Nat.le_of_ble_eq_true rfl) hci_12 (Nat.le_of_ble_eq_true rfl) (Nat.le_of_ble_eq_true rfl) (pX12_takesName  ((9 : Int32)) ((gI s7 250 ((1 : Int32)).toNatClampNeg)) o11 ⟨rfl, rfl⟩) (fun zv9 wm9 hq9 => ?_)
                    obtain ⟨rfl, rfl⟩ := hq9
                    refine JT_if_ne (tgt := 365) dX12_bookLine_360 (by decide) (fun hc10 => ?_) (fun hc10 => ?_)
                    · have h := h.1 hc10
                      refine JT_aload_n (q := 0) dX12_bookLine_365 rfl rfl ?_
                      refine JS_getR (x := 252) dX12_bookLine_366 flX12_40 BS_248 (Nat.le_of_ble_eq_true rfl) (Nat.le_of_ble_eq_true rfl) (Or.inr ⟨_, ct_12_8⟩) RF_248_8 ?_
                      refine JT_iload_n (q := 2) dX12_bookLine_369 rfl rfl ?_
                      refine JT_iconst (v := 4) dX12_bookLine_370 ic_4 ?_
                      refine JT_iadd dX12_bookLine_371 ?_
                      refine JT_aload_n (q := 0) dX12_bookLine_372 rfl rfl ?_
                      refine JS_getI dX12_bookLine_373 flX12_206 BS_248 (Nat.le_of_ble_eq_true rfl) (Nat.le_of_ble_eq_true rfl) (Or.inl ct_12_18) ?_
                      obtain ⟨o8, h⟩ := h
                      refine JS_iast dX12_bookLine_376 BS_252 (Nat.le_of_ble_eq_true rfl) (Nat.le_of_ble_eq_true rfl) o8 ?_
                      obtain ⟨s9, hs9⟩ : ∃ z, z = (pI (mX12_takesName s7 (9 : Int32) (gI s7 250 ((1 : Int32)).toNatClampNeg)) 252 ((a2 + (4 : Int32))).toNatClampNeg (gI (mX12_takesName s7 (9 : Int32) (gI s7 250 ((1 : Int32)).toNatClampNeg)) 248 18)) := ⟨_, rfl⟩
                      replace h := h s9 hs9
                      rw [← hs9]
                      refine JT_iconst (v := 1) dX12_bookLine_377 ic_1 ?_
                      exact JS_iret dX12_bookLine_378 rfl (n01 (Or.inr rfl)) h
                    · have h := h.2 hc10
                      refine JT_iconst (v := 0) dX12_bookLine_363 ic_0 ?_
                      exact JS_iret dX12_bookLine_364 rfl (n01 (Or.inl rfl)) h
                  · have h := h.2 hc12
                    refine JT_iconst (v := 0) dX12_bookLine_334 ic_0 ?_
                    exact JS_iret dX12_bookLine_335 rfl (n01 (Or.inl rfl)) h
                · have h := h.2 hc14
                  refine JT_iconst (v := 1) dX12_bookLine_322 ic_1 ?_
                  exact JS_iret dX12_bookLine_323 rfl (n01 (Or.inr rfl)) h
              · have h := h.2 hc15
                refine JT_iconst (v := 0) dX12_bookLine_303 ic_0 ?_
                exact JS_iret dX12_bookLine_304 rfl (n01 (Or.inl rfl)) h
            · have h := h.2 hc17
              refine JT_iconst (v := 0) dX12_bookLine_275 ic_0 ?_
              exact JS_iret dX12_bookLine_276 rfl (n01 (Or.inl rfl)) h
          · have h := h.2 hc19
            exact JT_sub [0, 1, 2, 3] rfl h
      · have h := h.2 hc21
        refine JT_iconst (v := 1) dX12_bookLine_163 ic_1 ?_
        exact JS_iret dX12_bookLine_164 rfl (n01 (Or.inr rfl)) h
  · have h := h.2 hc25
    refine JT_aload_n (q := 0) dX12_bookLine_127 rfl rfl ?_
    refine JS_getR (x := 252) dX12_bookLine_128 flX12_40 BS_248 (Nat.le_of_ble_eq_true rfl) (Nat.le_of_ble_eq_true rfl) (Or.inr ⟨_, ct_12_8⟩) RF_248_8 ?_
    refine JT_iload_n (q := 2) dX12_bookLine_131 rfl rfl ?_
    refine JT_iload_n (q := 3) dX12_bookLine_132 rfl rfl ?_
    refine JT_iadd dX12_bookLine_133 ?_
    refine JT_iconst (v := 0) dX12_bookLine_134 ic_0 ?_
    obtain ⟨o24, h⟩ := h
    refine JS_iast dX12_bookLine_135 BS_252 (Nat.le_of_ble_eq_true rfl) (Nat.le_of_ble_eq_true rfl) o24 ?_
    refine JT_iinc (q := 3) (v := (a3 + 1)) (lv' := [(3, .int (a3 + 1)), (0, .ref 248), (1, .int a1), (2, .int a2)]) dX12_bookLine_136 rfl (by rfl) (Nat.le_of_ble_eq_true rfl) rfl ?_
    refine JT_goto (tgt := 122) dX12_bookLine_139 (by decide) ?_
    exact JT_sub [1, 2, 3, 0] rfl h
set_option maxRecDepth 1000000 in
theorem bX12_bookLine_175 (a1 : Int32) (a2 : Int32) (a3 : Int32) {s : SM} {Q : Int32 → SM → Prop} (h : rX12_takes s (0 : Int32) (59 : Int32) ∧ ((¬ (vX12_takes s (0 : Int32) (59 : Int32)) = 0 → vp_in (a2 + (1 : Int32)) 201 ∧ (∀ s2, s2 = (pI (mX12_takes s (0 : Int32) (59 : Int32)) 252 ((a2 + (1 : Int32))).toNatClampNeg (gI (mX12_takes s (0 : Int32) (59 : Int32)) 248 18)) → ((¬ a1 = (1 : Int32) → ((¬ (vX12_isWord s2 (109342978500980 : Int64)) = 0 → BI MX12_bookLine 3 232 [(0, .ref 248), (1, .int a1), (2, .int a2), (3, .int a3)] s2 Q) ∧ ((vX12_isWord s2 (109342978500980 : Int64)) = 0 → ((¬ (vX12_isWord s2 (1684365940 : Int64)) = 0 → BI MX12_bookLine 3 232 [(0, .ref 248), (1, .int a1), (2, .int a2), (3, .int a3)] s2 Q) ∧ ((vX12_isWord s2 (1684365940 : Int64)) = 0 → Q (vX12_bad s2 (1 : Int32)) (mX12_bad s2 (1 : Int32))))))) ∧ (a1 = (1 : Int32) → Q (1 : Int32) s2)))) ∧ ((vX12_takes s (0 : Int32) (59 : Int32)) = 0 → Q (0 : Int32) (mX12_takes s (0 : Int32) (59 : Int32))))) : BI MX12_bookLine 3 175 [(0, .ref 248), (1, .int a1), (2, .int a2), (3, .int a3)] s Q := by
  refine JT_aload_n (q := 0) dX12_bookLine_175 rfl rfl ?_
  refine JT_iconst (v := 0) dX12_bookLine_176 ic_0 ?_
  refine JT_bipush (v := 59) dX12_bookLine_177 bp_59 ?_
  obtain ⟨o10, h⟩ := h
  refine JS_callVI (M' := MX12_takes) (d' := 2) (As := [.int (0 : Int32), .int (59 : Int32)]) (rest := []) (P := (fun zv9 wm9 => (vX12_takes s (0 : Int32) (59 : Int32)) = zv9 ∧ (mX12_takes s (0 : Int32) (59 : Int32)) = wm9)) dX12_bookLine_179 cvX12_224 okX12_takes rfl (Nat.le_of_ble_eq_true rfl) BS_248 (Nat.le_of_ble_eq_true rfl) (Nat.le_of_ble_eq_true rfl) hci_12 (Nat.le_of_ble_eq_true rfl) (Nat.le_of_ble_eq_true rfl) (pX12_takes  ((0 : Int32)) ((59 : Int32)) o10 ⟨rfl, rfl⟩) (fun zv9 wm9 hq9 => ?_)
  obtain ⟨rfl, rfl⟩ := hq9
  refine JT_if_ne (tgt := 187) dX12_bookLine_182 (by decide) (fun hc9 => ?_) (fun hc9 => ?_)
  · have h := h.1 hc9
    refine JT_aload_n (q := 0) dX12_bookLine_187 rfl rfl ?_
    refine JS_getR (x := 252) dX12_bookLine_188 flX12_40 BS_248 (Nat.le_of_ble_eq_true rfl) (Nat.le_of_ble_eq_true rfl) (Or.inr ⟨_, ct_12_8⟩) RF_248_8 ?_
    refine JT_iload_n (q := 2) dX12_bookLine_191 rfl rfl ?_
    refine JT_iconst (v := 1) dX12_bookLine_192 ic_1 ?_
    refine JT_iadd dX12_bookLine_193 ?_
    refine JT_aload_n (q := 0) dX12_bookLine_194 rfl rfl ?_
    refine JS_getI dX12_bookLine_195 flX12_206 BS_248 (Nat.le_of_ble_eq_true rfl) (Nat.le_of_ble_eq_true rfl) (Or.inl ct_12_18) ?_
    obtain ⟨o1, h⟩ := h
    refine JS_iast dX12_bookLine_198 BS_252 (Nat.le_of_ble_eq_true rfl) (Nat.le_of_ble_eq_true rfl) o1 ?_
    obtain ⟨s2, hs2⟩ : ∃ z, z = (pI (mX12_takes s (0 : Int32) (59 : Int32)) 252 ((a2 + (1 : Int32))).toNatClampNeg (gI (mX12_takes s (0 : Int32) (59 : Int32)) 248 18)) := ⟨_, rfl⟩
    replace h := h s2 hs2
    rw [← hs2]
    refine JT_iload_n (q := 1) dX12_bookLine_199 rfl rfl ?_
    refine JT_iconst (v := 1) dX12_bookLine_200 ic_1 ?_
    refine JT_icmp_ne (tgt := 206) dX12_bookLine_201 (by decide) (fun hc8 => ?_) (fun hc8 => ?_)
    · have h := h.1 hc8
      refine JT_aload_n (q := 0) dX12_bookLine_206 rfl rfl ?_
      refine JT_ldc2 dX12_bookLine_207 kwX12_150 ?_
      refine JS_callVI (M' := MX12_isWord) (d' := 0) (As := [.long (109342978500980 : Int64)]) (rest := []) (P := (fun zv9 wm9 => (vX12_isWord s2 (109342978500980 : Int64)) = zv9 ∧ s2 = wm9)) dX12_bookLine_210 cvX12_217 okX12_isWord rfl (Nat.le_of_ble_eq_true rfl) BS_248 (Nat.le_of_ble_eq_true rfl) (Nat.le_of_ble_eq_true rfl) hci_12 (Nat.le_of_ble_eq_true rfl) (Nat.le_of_ble_eq_true rfl) (pX12_isWord  ((109342978500980 : Int64))  ⟨rfl, rfl⟩) (fun zv9 wm9 hq9 => ?_)
      obtain ⟨rfl, rfl⟩ := hq9
      refine JT_if_ne (tgt := 232) dX12_bookLine_213 (by decide) (fun hc6 => ?_) (fun hc6 => ?_)
      · have h := h.1 hc6
        exact JT_sub [0, 1, 2, 3] rfl h
      · have h := h.2 hc6
        refine JT_aload_n (q := 0) dX12_bookLine_216 rfl rfl ?_
        refine JT_ldc2 dX12_bookLine_217 kwX12_152 ?_
        refine JS_callVI (M' := MX12_isWord) (d' := 0) (As := [.long (1684365940 : Int64)]) (rest := []) (P := (fun zv9 wm9 => (vX12_isWord s2 (1684365940 : Int64)) = zv9 ∧ s2 = wm9)) dX12_bookLine_220 cvX12_217 okX12_isWord rfl (Nat.le_of_ble_eq_true rfl) BS_248 (Nat.le_of_ble_eq_true rfl) (Nat.le_of_ble_eq_true rfl) hci_12 (Nat.le_of_ble_eq_true rfl) (Nat.le_of_ble_eq_true rfl) (pX12_isWord  ((1684365940 : Int64))  ⟨rfl, rfl⟩) (fun zv9 wm9 hq9 => ?_)
        obtain ⟨rfl, rfl⟩ := hq9
        refine JT_if_ne (tgt := 232) dX12_bookLine_223 (by decide) (fun hc4 => ?_) (fun hc4 => ?_)
        · have h := h.1 hc4
          exact JT_sub [0, 1, 2, 3] rfl h
        · have h := h.2 hc4
          refine JT_aload_n (q := 0) dX12_bookLine_226 rfl rfl ?_
          refine JT_iconst (v := 1) dX12_bookLine_227 ic_1 ?_
          refine JS_callVI (M' := MX12_bad) (d' := 0) (As := [.int (1 : Int32)]) (rest := []) (P := (fun zv9 wm9 => (vX12_bad s2 (1 : Int32)) = zv9 ∧ (mX12_bad s2 (1 : Int32)) = wm9)) dX12_bookLine_228 cvX12_196 okX12_bad rfl (Nat.le_of_ble_eq_true rfl) BS_248 (Nat.le_of_ble_eq_true rfl) (Nat.le_of_ble_eq_true rfl) hci_12 (Nat.le_of_ble_eq_true rfl) (Nat.le_of_ble_eq_true rfl) (pX12_bad  ((1 : Int32))  ⟨rfl, rfl⟩) (fun zv9 wm9 hq9 => ?_)
          obtain ⟨rfl, rfl⟩ := hq9
          exact JS_iret dX12_bookLine_231 rfl (n01 (zX12_bad s2 (1 : Int32))) h
    · have h := h.2 hc8
      refine JT_iconst (v := 1) dX12_bookLine_204 ic_1 ?_
      exact JS_iret dX12_bookLine_205 rfl (n01 (Or.inr rfl)) h
  · have h := h.2 hc9
    refine JT_iconst (v := 0) dX12_bookLine_185 ic_0 ?_
    exact JS_iret dX12_bookLine_186 rfl (n01 (Or.inl rfl)) h
set_option maxRecDepth 1000000 in
theorem bX12_bookLine_232 (a1 : Int32) (a2 : Int32) (a3 : Int32) {s : SM} {Q : Int32 → SM → Prop} (h : vp_in (a2 + (2 : Int32)) 201 ∧ (∀ s2, s2 = (pI s 252 ((a2 + (2 : Int32))).toNatClampNeg (if (vX12_isWord s (1684365940 : Int64)) = 0 then (0 : Int32) else (1 : Int32))) → rX12_next s2  ∧ Q (1 : Int32) (mX12_next s2 ))) : BI MX12_bookLine 3 232 [(0, .ref 248), (1, .int a1), (2, .int a2), (3, .int a3)] s Q := by
  refine JT_aload_n (q := 0) dX12_bookLine_232 rfl rfl ?_
  refine JS_getR (x := 252) dX12_bookLine_233 flX12_40 BS_248 (Nat.le_of_ble_eq_true rfl) (Nat.le_of_ble_eq_true rfl) (Or.inr ⟨_, ct_12_8⟩) RF_248_8 ?_
  refine JT_iload_n (q := 2) dX12_bookLine_236 rfl rfl ?_
  refine JT_iconst (v := 2) dX12_bookLine_237 ic_2 ?_
  refine JT_iadd dX12_bookLine_238 ?_
  refine JT_aload_n (q := 0) dX12_bookLine_239 rfl rfl ?_
  refine JT_ldc2 dX12_bookLine_240 kwX12_152 ?_
  refine JS_callVI (M' := MX12_isWord) (d' := 0) (As := [.long (1684365940 : Int64)]) (rest := [.int (a2 + (2 : Int32)), .ref 252]) (P := (fun zv9 wm9 => (vX12_isWord s (1684365940 : Int64)) = zv9 ∧ s = wm9)) dX12_bookLine_243 cvX12_217 okX12_isWord rfl (Nat.le_of_ble_eq_true rfl) BS_248 (Nat.le_of_ble_eq_true rfl) (Nat.le_of_ble_eq_true rfl) hci_12 (Nat.le_of_ble_eq_true rfl) (Nat.le_of_ble_eq_true rfl) (pX12_isWord  ((1684365940 : Int64))  ⟨rfl, rfl⟩) (fun zv9 wm9 hq9 => ?_)
  obtain ⟨rfl, rfl⟩ := hq9
  have hj4 : ∀ v : Int32, v = (if (vX12_isWord s (1684365940 : Int64)) = 0 then (0 : Int32) else (1 : Int32)) → JT MX12_bookLine 3 0 0 254 [(0, .ref 248), (1, .int a1), (2, .int a2), (3, .int a3)] [.int v, .int (a2 + (2 : Int32)), .ref 252] (std s) (KQ Q) := by
    intro v hv
    subst hv
    obtain ⟨o1, h⟩ := h
    refine JS_iast dX12_bookLine_254 BS_252 (Nat.le_of_ble_eq_true rfl) (Nat.le_of_ble_eq_true rfl) o1 ?_
    obtain ⟨s2, hs2⟩ : ∃ z, z = (pI s 252 ((a2 + (2 : Int32))).toNatClampNeg (if (vX12_isWord s (1684365940 : Int64)) = 0 then (0 : Int32) else (1 : Int32))) := ⟨_, rfl⟩
    replace h := h s2 hs2
    rw [← hs2]
    refine JT_aload_n (q := 0) dX12_bookLine_255 rfl rfl ?_
    obtain ⟨o3, h⟩ := h
    refine JS_callVV (M' := MX12_next) (d' := 1) (As := []) (rest := []) (P := (fun wm9 => (mX12_next s2 ) = wm9)) dX12_bookLine_256 cvX12_199 okX12_next rfl (Nat.le_of_ble_eq_true rfl) BS_248 (Nat.le_of_ble_eq_true rfl) (Nat.le_of_ble_eq_true rfl) hci_12 (Nat.le_of_ble_eq_true rfl) (Nat.le_of_ble_eq_true rfl) (pX12_next   o3 rfl) (fun wm9 hq9 => ?_)
    subst hq9
    refine JT_iconst (v := 1) dX12_bookLine_259 ic_1 ?_
    exact JS_iret dX12_bookLine_260 rfl (n01 (Or.inr rfl)) h
  refine JT_if_eq (tgt := 253) dX12_bookLine_246 (by decide) (fun hc5 => ?_) (fun hc5 => ?_)
  · refine JT_iconst (v := 0) dX12_bookLine_253 ic_0 ?_
    exact hj4 _ (by rw [if_pos hc5])
  · refine JT_iconst (v := 1) dX12_bookLine_249 ic_1 ?_
    refine JT_goto (tgt := 254) dX12_bookLine_250 (by decide) ?_
    exact hj4 _ (by rw [if_neg hc5])
set_option maxRecDepth 1000000 in
theorem bX12_bookLine  {s : SM} {Q : Int32 → SM → Prop} (h : (((vX12_isWord s (1684365676 : Int64)) = 0 → (((vX12_isWord s (126943972911973 : Int64)) = 0 → (((vX12_isWord s (1935892850 : Int64)) = 0 → (((vX12_isWord s (1919512167 : Int64)) = 0 → (((vX12_isWord s (1684628851 : Int64)) = 0 → ((0 ≤ (if (vX12_isWord s (2036687218 : Int64)) = 0 then (-1 : Int32) else (5 : Int32)) → ((¬ (gI s 248 36) = (40 : Int32) → BI MX12_bookLine 3 122 [(0, .ref 248), (1, .int (if (vX12_isWord s (2036687218 : Int64)) = 0 then (-1 : Int32) else (5 : Int32))), (2, .int ((1 : Int32) + ((5 : Int32) * (gI s 248 36)))), (3, .int (0 : Int32))] s Q) ∧ ((gI s 248 36) = (40 : Int32) → Q (vX12_bad s (4 : Int32)) (mX12_bad s (4 : Int32))))) ∧ (¬ 0 ≤ (if (vX12_isWord s (2036687218 : Int64)) = 0 then (-1 : Int32) else (5 : Int32)) → Q (vX12_bad s (1 : Int32)) (mX12_bad s (1 : Int32))))) ∧ (¬ (vX12_isWord s (1684628851 : Int64)) = 0 → ((0 ≤ (4 : Int32) → ((¬ (gI s 248 36) = (40 : Int32) → BI MX12_bookLine 3 122 [(0, .ref 248), (1, .int (4 : Int32)), (2, .int ((1 : Int32) + ((5 : Int32) * (gI s 248 36)))), (3, .int (0 : Int32))] s Q) ∧ ((gI s 248 36) = (40 : Int32) → Q (vX12_bad s (4 : Int32)) (mX12_bad s (4 : Int32))))) ∧ (¬ 0 ≤ (4 : Int32) → Q (vX12_bad s (1 : Int32)) (mX12_bad s (1 : Int32))))))) ∧ (¬ (vX12_isWord s (1919512167 : Int64)) = 0 → ((0 ≤ (3 : Int32) → ((¬ (gI s 248 36) = (40 : Int32) → BI MX12_bookLine 3 122 [(0, .ref 248), (1, .int (3 : Int32)), (2, .int ((1 : Int32) + ((5 : Int32) * (gI s 248 36)))), (3, .int (0 : Int32))] s Q) ∧ ((gI s 248 36) = (40 : Int32) → Q (vX12_bad s (4 : Int32)) (mX12_bad s (4 : Int32))))) ∧ (¬ 0 ≤ (3 : Int32) → Q (vX12_bad s (1 : Int32)) (mX12_bad s (1 : Int32))))))) ∧ (¬ (vX12_isWord s (1935892850 : Int64)) = 0 → ((0 ≤ (2 : Int32) → ((¬ (gI s 248 36) = (40 : Int32) → BI MX12_bookLine 3 122 [(0, .ref 248), (1, .int (2 : Int32)), (2, .int ((1 : Int32) + ((5 : Int32) * (gI s 248 36)))), (3, .int (0 : Int32))] s Q) ∧ ((gI s 248 36) = (40 : Int32) → Q (vX12_bad s (4 : Int32)) (mX12_bad s (4 : Int32))))) ∧ (¬ 0 ≤ (2 : Int32) → Q (vX12_bad s (1 : Int32)) (mX12_bad s (1 : Int32))))))) ∧ (¬ (vX12_isWord s (126943972911973 : Int64)) = 0 → ((0 ≤ (1 : Int32) → ((¬ (gI s 248 36) = (40 : Int32) → BI MX12_bookLine 3 122 [(0, .ref 248), (1, .int (1 : Int32)), (2, .int ((1 : Int32) + ((5 : Int32) * (gI s 248 36)))), (3, .int (0 : Int32))] s Q) ∧ ((gI s 248 36) = (40 : Int32) → Q (vX12_bad s (4 : Int32)) (mX12_bad s (4 : Int32))))) ∧ (¬ 0 ≤ (1 : Int32) → Q (vX12_bad s (1 : Int32)) (mX12_bad s (1 : Int32))))))) ∧ (¬ (vX12_isWord s (1684365676 : Int64)) = 0 → ((0 ≤ (0 : Int32) → ((¬ (gI s 248 36) = (40 : Int32) → BI MX12_bookLine 3 122 [(0, .ref 248), (1, .int (0 : Int32)), (2, .int ((1 : Int32) + ((5 : Int32) * (gI s 248 36)))), (3, .int (0 : Int32))] s Q) ∧ ((gI s 248 36) = (40 : Int32) → Q (vX12_bad s (4 : Int32)) (mX12_bad s (4 : Int32))))) ∧ (¬ 0 ≤ (0 : Int32) → Q (vX12_bad s (1 : Int32)) (mX12_bad s (1 : Int32))))))) : KI MX12_bookLine 3 [.ref 248] s Q := by
  show BI MX12_bookLine 3 0 [(0, .ref 248)] s Q
  refine JT_aload_n (q := 0) dX12_bookLine_0 rfl rfl ?_
  refine JT_ldc2 dX12_bookLine_1 kwX12_144 ?_
  refine JS_callVI (M' := MX12_isWord) (d' := 0) (As := [.long (1684365676 : Int64)]) (rest := []) (P := (fun zv9 wm9 => (vX12_isWord s (1684365676 : Int64)) = zv9 ∧ s = wm9)) dX12_bookLine_4 cvX12_217 okX12_isWord rfl (Nat.le_of_ble_eq_true rfl) BS_248 (Nat.le_of_ble_eq_true rfl) (Nat.le_of_ble_eq_true rfl) hci_12 (Nat.le_of_ble_eq_true rfl) (Nat.le_of_ble_eq_true rfl) (pX12_isWord  ((1684365676 : Int64))  ⟨rfl, rfl⟩) (fun zv9 wm9 hq9 => ?_)
  obtain ⟨rfl, rfl⟩ := hq9
  refine JT_if_eq (tgt := 14) dX12_bookLine_7 (by decide) (fun hc36 => ?_) (fun hc36 => ?_)
  · have h := h.1 hc36
    refine JT_aload_n (q := 0) dX12_bookLine_14 rfl rfl ?_
    refine JT_ldc2 dX12_bookLine_15 kwX12_146 ?_
    refine JS_callVI (M' := MX12_isWord) (d' := 0) (As := [.long (126943972911973 : Int64)]) (rest := []) (P := (fun zv9 wm9 => (vX12_isWord s (126943972911973 : Int64)) = zv9 ∧ s = wm9)) dX12_bookLine_18 cvX12_217 okX12_isWord rfl (Nat.le_of_ble_eq_true rfl) BS_248 (Nat.le_of_ble_eq_true rfl) (Nat.le_of_ble_eq_true rfl) hci_12 (Nat.le_of_ble_eq_true rfl) (Nat.le_of_ble_eq_true rfl) (pX12_isWord  ((126943972911973 : Int64))  ⟨rfl, rfl⟩) (fun zv9 wm9 hq9 => ?_)
    obtain ⟨rfl, rfl⟩ := hq9
    refine JT_if_eq (tgt := 28) dX12_bookLine_21 (by decide) (fun hc30 => ?_) (fun hc30 => ?_)
    · have h := h.1 hc30
      refine JT_aload_n (q := 0) dX12_bookLine_28 rfl rfl ?_
      refine JT_ldc2 dX12_bookLine_29 kwX12_148 ?_
      refine JS_callVI (M' := MX12_isWord) (d' := 0) (As := [.long (1935892850 : Int64)]) (rest := []) (P := (fun zv9 wm9 => (vX12_isWord s (1935892850 : Int64)) = zv9 ∧ s = wm9)) dX12_bookLine_32 cvX12_217 okX12_isWord rfl (Nat.le_of_ble_eq_true rfl) BS_248 (Nat.le_of_ble_eq_true rfl) (Nat.le_of_ble_eq_true rfl) hci_12 (Nat.le_of_ble_eq_true rfl) (Nat.le_of_ble_eq_true rfl) (pX12_isWord  ((1935892850 : Int64))  ⟨rfl, rfl⟩) (fun zv9 wm9 hq9 => ?_)
      obtain ⟨rfl, rfl⟩ := hq9
      refine JT_if_eq (tgt := 42) dX12_bookLine_35 (by decide) (fun hc24 => ?_) (fun hc24 => ?_)
      · have h := h.1 hc24
        refine JT_aload_n (q := 0) dX12_bookLine_42 rfl rfl ?_
        refine JT_ldc2 dX12_bookLine_43 kwX12_154 ?_
        refine JS_callVI (M' := MX12_isWord) (d' := 0) (As := [.long (1919512167 : Int64)]) (rest := []) (P := (fun zv9 wm9 => (vX12_isWord s (1919512167 : Int64)) = zv9 ∧ s = wm9)) dX12_bookLine_46 cvX12_217 okX12_isWord rfl (Nat.le_of_ble_eq_true rfl) BS_248 (Nat.le_of_ble_eq_true rfl) (Nat.le_of_ble_eq_true rfl) hci_12 (Nat.le_of_ble_eq_true rfl) (Nat.le_of_ble_eq_true rfl) (pX12_isWord  ((1919512167 : Int64))  ⟨rfl, rfl⟩) (fun zv9 wm9 hq9 => ?_)
        obtain ⟨rfl, rfl⟩ := hq9
        refine JT_if_eq (tgt := 56) dX12_bookLine_49 (by decide) (fun hc18 => ?_) (fun hc18 => ?_)
        · have h := h.1 hc18
          refine JT_aload_n (q := 0) dX12_bookLine_56 rfl rfl ?_
          refine JT_ldc2 dX12_bookLine_57 kwX12_156 ?_
          refine JS_callVI (M' := MX12_isWord) (d' := 0) (As := [.long (1684628851 : Int64)]) (rest := []) (P := (fun zv9 wm9 => (vX12_isWord s (1684628851 : Int64)) = zv9 ∧ s = wm9)) dX12_bookLine_60 cvX12_217 okX12_isWord rfl (Nat.le_of_ble_eq_true rfl) BS_248 (Nat.le_of_ble_eq_true rfl) (Nat.le_of_ble_eq_true rfl) hci_12 (Nat.le_of_ble_eq_true rfl) (Nat.le_of_ble_eq_true rfl) (pX12_isWord  ((1684628851 : Int64))  ⟨rfl, rfl⟩) (fun zv9 wm9 hq9 => ?_)
          obtain ⟨rfl, rfl⟩ := hq9
          refine JT_if_eq (tgt := 70) dX12_bookLine_63 (by decide) (fun hc12 => ?_) (fun hc12 => ?_)
          · have h := h.1 hc12
            refine JT_aload_n (q := 0) dX12_bookLine_70 rfl rfl ?_
            refine JT_ldc2 dX12_bookLine_71 kwX12_158 ?_
            refine JS_callVI (M' := MX12_isWord) (d' := 0) (As := [.long (2036687218 : Int64)]) (rest := []) (P := (fun zv9 wm9 => (vX12_isWord s (2036687218 : Int64)) = zv9 ∧ s = wm9)) dX12_bookLine_74 cvX12_217 okX12_isWord rfl (Nat.le_of_ble_eq_true rfl) BS_248 (Nat.le_of_ble_eq_true rfl) (Nat.le_of_ble_eq_true rfl) hci_12 (Nat.le_of_ble_eq_true rfl) (Nat.le_of_ble_eq_true rfl) (pX12_isWord  ((2036687218 : Int64))  ⟨rfl, rfl⟩) (fun zv9 wm9 hq9 => ?_)
            obtain ⟨rfl, rfl⟩ := hq9
            have hj5 : ∀ v : Int32, v = (if (vX12_isWord s (2036687218 : Int64)) = 0 then (-1 : Int32) else (5 : Int32)) → JT MX12_bookLine 3 0 0 85 [(0, .ref 248)] [.int v] (std s) (KQ Q) := by
              intro v hv
              subst hv
              refine JT_istore_n (lv' := [(1, .int (if (vX12_isWord s (2036687218 : Int64)) = 0 then (-1 : Int32) else (5 : Int32))), (0, .ref 248)]) dX12_bookLine_85 rfl (Nat.le_of_ble_eq_true rfl) rfl ?_
              refine JT_iload_n (q := 0) dX12_bookLine_86 rfl rfl ?_
              refine JT_if_ge (tgt := 96) dX12_bookLine_87 (by decide) (fun hc4 => ?_) (fun hc4 => ?_)
              · have h := h.1 hc4
                refine JT_aload_n (q := 1) dX12_bookLine_96 rfl rfl ?_
                refine JS_getI dX12_bookLine_97 flX12_401 BS_248 (Nat.le_of_ble_eq_true rfl) (Nat.le_of_ble_eq_true rfl) (Or.inl ct_12_36) ?_
                refine JT_bipush (v := 40) dX12_bookLine_100 bp_40 ?_
                refine JT_icmp_ne (tgt := 111) dX12_bookLine_102 (by decide) (fun hc2 => ?_) (fun hc2 => ?_)
                · have h := h.1 hc2
                  refine JT_iconst (v := 1) dX12_bookLine_111 ic_1 ?_
                  refine JT_iconst (v := 5) dX12_bookLine_112 ic_5 ?_
                  refine JT_aload_n (q := 1) dX12_bookLine_113 rfl rfl ?_
                  refine JS_getI dX12_bookLine_114 flX12_401 BS_248 (Nat.le_of_ble_eq_true rfl) (Nat.le_of_ble_eq_true rfl) (Or.inl ct_12_36) ?_
                  refine JT_imul dX12_bookLine_117 ?_
                  refine JT_iadd dX12_bookLine_118 ?_
                  refine JT_istore_n (lv' := [(2, .int ((1 : Int32) + ((5 : Int32) * (gI s 248 36)))), (1, .int (if (vX12_isWord s (2036687218 : Int64)) = 0 then (-1 : Int32) else (5 : Int32))), (0, .ref 248)]) dX12_bookLine_119 rfl (Nat.le_of_ble_eq_true rfl) rfl ?_
                  refine JT_iconst (v := 0) dX12_bookLine_120 ic_0 ?_
                  refine JT_istore_n (lv' := [(3, .int (0 : Int32)), (2, .int ((1 : Int32) + ((5 : Int32) * (gI s 248 36)))), (1, .int (if (vX12_isWord s (2036687218 : Int64)) = 0 then (-1 : Int32) else (5 : Int32))), (0, .ref 248)]) dX12_bookLine_121 rfl (Nat.le_of_ble_eq_true rfl) rfl ?_
                  exact JT_sub [3, 2, 1, 0] rfl h
                · have h := h.2 hc2
                  refine JT_aload_n (q := 1) dX12_bookLine_105 rfl rfl ?_
                  refine JT_iconst (v := 4) dX12_bookLine_106 ic_4 ?_
                  refine JS_callVI (M' := MX12_bad) (d' := 0) (As := [.int (4 : Int32)]) (rest := []) (P := (fun zv9 wm9 => (vX12_bad s (4 : Int32)) = zv9 ∧ (mX12_bad s (4 : Int32)) = wm9)) dX12_bookLine_107 cvX12_196 okX12_bad rfl (Nat.le_of_ble_eq_true rfl) BS_248 (Nat.le_of_ble_eq_true rfl) (Nat.le_of_ble_eq_true rfl) hci_12 (Nat.le_of_ble_eq_true rfl) (Nat.le_of_ble_eq_true rfl) (pX12_bad  ((4 : Int32))  ⟨rfl, rfl⟩) (fun zv9 wm9 hq9 => ?_)
                  obtain ⟨rfl, rfl⟩ := hq9
                  exact JS_iret dX12_bookLine_110 rfl (n01 (zX12_bad s (4 : Int32))) h
              · have h := h.2 hc4
                refine JT_aload_n (q := 1) dX12_bookLine_90 rfl rfl ?_
                refine JT_iconst (v := 1) dX12_bookLine_91 ic_1 ?_
                refine JS_callVI (M' := MX12_bad) (d' := 0) (As := [.int (1 : Int32)]) (rest := []) (P := (fun zv9 wm9 => (vX12_bad s (1 : Int32)) = zv9 ∧ (mX12_bad s (1 : Int32)) = wm9)) dX12_bookLine_92 cvX12_196 okX12_bad rfl (Nat.le_of_ble_eq_true rfl) BS_248 (Nat.le_of_ble_eq_true rfl) (Nat.le_of_ble_eq_true rfl) hci_12 (Nat.le_of_ble_eq_true rfl) (Nat.le_of_ble_eq_true rfl) (pX12_bad  ((1 : Int32))  ⟨rfl, rfl⟩) (fun zv9 wm9 hq9 => ?_)
                obtain ⟨rfl, rfl⟩ := hq9
                exact JS_iret dX12_bookLine_95 rfl (n01 (zX12_bad s (1 : Int32))) h
            refine JT_if_eq (tgt := 84) dX12_bookLine_77 (by decide) (fun hc6 => ?_) (fun hc6 => ?_)
            · refine JT_iconst (v := -1) dX12_bookLine_84 ic_m1 ?_
              exact hj5 _ (by rw [if_pos hc6])
            · refine JT_iconst (v := 5) dX12_bookLine_80 ic_5 ?_
              refine JT_goto (tgt := 85) dX12_bookLine_81 (by decide) ?_
              exact hj5 _ (by rw [if_neg hc6])
          · have h := h.2 hc12
            refine JT_iconst (v := 4) dX12_bookLine_66 ic_4 ?_
            refine JT_goto (tgt := 85) dX12_bookLine_67 (by decide) ?_
            refine JT_istore_n (lv' := [(1, .int (4 : Int32)), (0, .ref 248)]) dX12_bookLine_85 rfl (Nat.le_of_ble_eq_true rfl) rfl ?_
            refine JT_iload_n (q := 0) dX12_bookLine_86 rfl rfl ?_
            refine JT_if_ge (tgt := 96) dX12_bookLine_87 (by decide) (fun hc11 => ?_) (fun hc11 => ?_)
            · have h := h.1 hc11
              refine JT_aload_n (q := 1) dX12_bookLine_96 rfl rfl ?_
              refine JS_getI dX12_bookLine_97 flX12_401 BS_248 (Nat.le_of_ble_eq_true rfl) (Nat.le_of_ble_eq_true rfl) (Or.inl ct_12_36) ?_
              refine JT_bipush (v := 40) dX12_bookLine_100 bp_40 ?_
              refine JT_icmp_ne (tgt := 111) dX12_bookLine_102 (by decide) (fun hc9 => ?_) (fun hc9 => ?_)
              · have h := h.1 hc9
                refine JT_iconst (v := 1) dX12_bookLine_111 ic_1 ?_
                refine JT_iconst (v := 5) dX12_bookLine_112 ic_5 ?_
                refine JT_aload_n (q := 1) dX12_bookLine_113 rfl rfl ?_
                refine JS_getI dX12_bookLine_114 flX12_401 BS_248 (Nat.le_of_ble_eq_true rfl) (Nat.le_of_ble_eq_true rfl) (Or.inl ct_12_36) ?_
                refine JT_imul dX12_bookLine_117 ?_
                refine JT_iadd dX12_bookLine_118 ?_
                refine JT_istore_n (lv' := [(2, .int ((1 : Int32) + ((5 : Int32) * (gI s 248 36)))), (1, .int (4 : Int32)), (0, .ref 248)]) dX12_bookLine_119 rfl (Nat.le_of_ble_eq_true rfl) rfl ?_
                refine JT_iconst (v := 0) dX12_bookLine_120 ic_0 ?_
                refine JT_istore_n (lv' := [(3, .int (0 : Int32)), (2, .int ((1 : Int32) + ((5 : Int32) * (gI s 248 36)))), (1, .int (4 : Int32)), (0, .ref 248)]) dX12_bookLine_121 rfl (Nat.le_of_ble_eq_true rfl) rfl ?_
                exact JT_sub [3, 2, 1, 0] rfl h
              · have h := h.2 hc9
                refine JT_aload_n (q := 1) dX12_bookLine_105 rfl rfl ?_
                refine JT_iconst (v := 4) dX12_bookLine_106 ic_4 ?_
                refine JS_callVI (M' := MX12_bad) (d' := 0) (As := [.int (4 : Int32)]) (rest := []) (P := (fun zv9 wm9 => (vX12_bad s (4 : Int32)) = zv9 ∧ (mX12_bad s (4 : Int32)) = wm9)) dX12_bookLine_107 cvX12_196 okX12_bad rfl (Nat.le_of_ble_eq_true rfl) BS_248 (Nat.le_of_ble_eq_true rfl) (Nat.le_of_ble_eq_true rfl) hci_12 (Nat.le_of_ble_eq_true rfl) (Nat.le_of_ble_eq_true rfl) (pX12_bad  ((4 : Int32))  ⟨rfl, rfl⟩) (fun zv9 wm9 hq9 => ?_)
                obtain ⟨rfl, rfl⟩ := hq9
                exact JS_iret dX12_bookLine_110 rfl (n01 (zX12_bad s (4 : Int32))) h
            · have h := h.2 hc11
              refine JT_aload_n (q := 1) dX12_bookLine_90 rfl rfl ?_
              refine JT_iconst (v := 1) dX12_bookLine_91 ic_1 ?_
              refine JS_callVI (M' := MX12_bad) (d' := 0) (As := [.int (1 : Int32)]) (rest := []) (P := (fun zv9 wm9 => (vX12_bad s (1 : Int32)) = zv9 ∧ (mX12_bad s (1 : Int32)) = wm9)) dX12_bookLine_92 cvX12_196 okX12_bad rfl (Nat.le_of_ble_eq_true rfl) BS_248 (Nat.le_of_ble_eq_true rfl) (Nat.le_of_ble_eq_true rfl) hci_12 (Nat.le_of_ble_eq_true rfl) (Nat.le_of_ble_eq_true rfl) (pX12_bad  ((1 : Int32))  ⟨rfl, rfl⟩) (fun zv9 wm9 hq9 => ?_)
              obtain ⟨rfl, rfl⟩ := hq9
              exact JS_iret dX12_bookLine_95 rfl (n01 (zX12_bad s (1 : Int32))) h
        · have h := h.2 hc18
          refine JT_iconst (v := 3) dX12_bookLine_52 ic_3 ?_
          refine JT_goto (tgt := 85) dX12_bookLine_53 (by decide) ?_
          refine JT_istore_n (lv' := [(1, .int (3 : Int32)), (0, .ref 248)]) dX12_bookLine_85 rfl (Nat.le_of_ble_eq_true rfl) rfl ?_
          refine JT_iload_n (q := 0) dX12_bookLine_86 rfl rfl ?_
          refine JT_if_ge (tgt := 96) dX12_bookLine_87 (by decide) (fun hc17 => ?_) (fun hc17 => ?_)
          · have h := h.1 hc17
            refine JT_aload_n (q := 1) dX12_bookLine_96 rfl rfl ?_
            refine JS_getI dX12_bookLine_97 flX12_401 BS_248 (Nat.le_of_ble_eq_true rfl) (Nat.le_of_ble_eq_true rfl) (Or.inl ct_12_36) ?_
            refine JT_bipush (v := 40) dX12_bookLine_100 bp_40 ?_
            refine JT_icmp_ne (tgt := 111) dX12_bookLine_102 (by decide) (fun hc15 => ?_) (fun hc15 => ?_)
            · have h := h.1 hc15
              refine JT_iconst (v := 1) dX12_bookLine_111 ic_1 ?_
              refine JT_iconst (v := 5) dX12_bookLine_112 ic_5 ?_
              refine JT_aload_n (q := 1) dX12_bookLine_113 rfl rfl ?_
              refine JS_getI dX12_bookLine_114 flX12_401 BS_248 (Nat.le_of_ble_eq_true rfl) (Nat.le_of_ble_eq_true rfl) (Or.inl ct_12_36) ?_
              refine JT_imul dX12_bookLine_117 ?_
              refine JT_iadd dX12_bookLine_118 ?_
              refine JT_istore_n (lv' := [(2, .int ((1 : Int32) + ((5 : Int32) * (gI s 248 36)))), (1, .int (3 : Int32)), (0, .ref 248)]) dX12_bookLine_119 rfl (Nat.le_of_ble_eq_true rfl) rfl ?_
              refine JT_iconst (v := 0) dX12_bookLine_120 ic_0 ?_
              refine JT_istore_n (lv' := [(3, .int (0 : Int32)), (2, .int ((1 : Int32) + ((5 : Int32) * (gI s 248 36)))), (1, .int (3 : Int32)), (0, .ref 248)]) dX12_bookLine_121 rfl (Nat.le_of_ble_eq_true rfl) rfl ?_
              exact JT_sub [3, 2, 1, 0] rfl h
            · have h := h.2 hc15
              refine JT_aload_n (q := 1) dX12_bookLine_105 rfl rfl ?_
              refine JT_iconst (v := 4) dX12_bookLine_106 ic_4 ?_
              refine JS_callVI (M' := MX12_bad) (d' := 0) (As := [.int (4 : Int32)]) (rest := []) (P := (fun zv9 wm9 => (vX12_bad s (4 : Int32)) = zv9 ∧ (mX12_bad s (4 : Int32)) = wm9)) dX12_bookLine_107 cvX12_196 okX12_bad rfl (Nat.le_of_ble_eq_true rfl) BS_248 (Nat.le_of_ble_eq_true rfl) (Nat.le_of_ble_eq_true rfl) hci_12 (Nat.le_of_ble_eq_true rfl) (Nat.le_of_ble_eq_true rfl) (pX12_bad  ((4 : Int32))  ⟨rfl, rfl⟩) (fun zv9 wm9 hq9 => ?_)
              obtain ⟨rfl, rfl⟩ := hq9
              exact JS_iret dX12_bookLine_110 rfl (n01 (zX12_bad s (4 : Int32))) h
          · have h := h.2 hc17
            refine JT_aload_n (q := 1) dX12_bookLine_90 rfl rfl ?_
            refine JT_iconst (v := 1) dX12_bookLine_91 ic_1 ?_
            refine JS_callVI (M' := MX12_bad) (d' := 0) (As := [.int (1 : Int32)]) (rest := []) (P := (fun zv9 wm9 => (vX12_bad s (1 : Int32)) = zv9 ∧ (mX12_bad s (1 : Int32)) = wm9)) dX12_bookLine_92 cvX12_196 okX12_bad rfl (Nat.le_of_ble_eq_true rfl) BS_248 (Nat.le_of_ble_eq_true rfl) (Nat.le_of_ble_eq_true rfl) hci_12 (Nat.le_of_ble_eq_true rfl) (Nat.le_of_ble_eq_true rfl) (pX12_bad  ((1 : Int32))  ⟨rfl, rfl⟩) (fun zv9 wm9 hq9 => ?_)
            obtain ⟨rfl, rfl⟩ := hq9
            exact JS_iret dX12_bookLine_95 rfl (n01 (zX12_bad s (1 : Int32))) h
      · have h := h.2 hc24
        refine JT_iconst (v := 2) dX12_bookLine_38 ic_2 ?_
        refine JT_goto (tgt := 85) dX12_bookLine_39 (by decide) ?_
        refine JT_istore_n (lv' := [(1, .int (2 : Int32)), (0, .ref 248)]) dX12_bookLine_85 rfl (Nat.le_of_ble_eq_true rfl) rfl ?_
        refine JT_iload_n (q := 0) dX12_bookLine_86 rfl rfl ?_
        refine JT_if_ge (tgt := 96) dX12_bookLine_87 (by decide) (fun hc23 => ?_) (fun hc23 => ?_)
        · have h := h.1 hc23
          refine JT_aload_n (q := 1) dX12_bookLine_96 rfl rfl ?_
          refine JS_getI dX12_bookLine_97 flX12_401 BS_248 (Nat.le_of_ble_eq_true rfl) (Nat.le_of_ble_eq_true rfl) (Or.inl ct_12_36) ?_
          refine JT_bipush (v := 40) dX12_bookLine_100 bp_40 ?_
          refine JT_icmp_ne (tgt := 111) dX12_bookLine_102 (by decide) (fun hc21 => ?_) (fun hc21 => ?_)
          · have h := h.1 hc21
            refine JT_iconst (v := 1) dX12_bookLine_111 ic_1 ?_
            refine JT_iconst (v := 5) dX12_bookLine_112 ic_5 ?_
            refine JT_aload_n (q := 1) dX12_bookLine_113 rfl rfl ?_
            refine JS_getI dX12_bookLine_114 flX12_401 BS_248 (Nat.le_of_ble_eq_true rfl) (Nat.le_of_ble_eq_true rfl) (Or.inl ct_12_36) ?_
            refine JT_imul dX12_bookLine_117 ?_
            refine JT_iadd dX12_bookLine_118 ?_
            refine JT_istore_n (lv' := [(2, .int ((1 : Int32) + ((5 : Int32) * (gI s 248 36)))), (1, .int (2 : Int32)), (0, .ref 248)]) dX12_bookLine_119 rfl (Nat.le_of_ble_eq_true rfl) rfl ?_
            refine JT_iconst (v := 0) dX12_bookLine_120 ic_0 ?_
            refine JT_istore_n (lv' := [(3, .int (0 : Int32)), (2, .int ((1 : Int32) + ((5 : Int32) * (gI s 248 36)))), (1, .int (2 : Int32)), (0, .ref 248)]) dX12_bookLine_121 rfl (Nat.le_of_ble_eq_true rfl) rfl ?_
            exact JT_sub [3, 2, 1, 0] rfl h
          · have h := h.2 hc21
            refine JT_aload_n (q := 1) dX12_bookLine_105 rfl rfl ?_
            refine JT_iconst (v := 4) dX12_bookLine_106 ic_4 ?_
            refine JS_callVI (M' := MX12_bad) (d' := 0) (As := [.int (4 : Int32)]) (rest := []) (P := (fun zv9 wm9 => (vX12_bad s (4 : Int32)) = zv9 ∧ (mX12_bad s (4 : Int32)) = wm9)) dX12_bookLine_107 cvX12_196 okX12_bad rfl (Nat.le_of_ble_eq_true rfl) BS_248 (Nat.le_of_ble_eq_true rfl) (Nat.le_of_ble_eq_true rfl) hci_12 (Nat.le_of_ble_eq_true rfl) (Nat.le_of_ble_eq_true rfl) (pX12_bad  ((4 : Int32))  ⟨rfl, rfl⟩) (fun zv9 wm9 hq9 => ?_)
            obtain ⟨rfl, rfl⟩ := hq9
            exact JS_iret dX12_bookLine_110 rfl (n01 (zX12_bad s (4 : Int32))) h
        · have h := h.2 hc23
          refine JT_aload_n (q := 1) dX12_bookLine_90 rfl rfl ?_
          refine JT_iconst (v := 1) dX12_bookLine_91 ic_1 ?_
          refine JS_callVI (M' := MX12_bad) (d' := 0) (As := [.int (1 : Int32)]) (rest := []) (P := (fun zv9 wm9 => (vX12_bad s (1 : Int32)) = zv9 ∧ (mX12_bad s (1 : Int32)) = wm9)) dX12_bookLine_92 cvX12_196 okX12_bad rfl (Nat.le_of_ble_eq_true rfl) BS_248 (Nat.le_of_ble_eq_true rfl) (Nat.le_of_ble_eq_true rfl) hci_12 (Nat.le_of_ble_eq_true rfl) (Nat.le_of_ble_eq_true rfl) (pX12_bad  ((1 : Int32))  ⟨rfl, rfl⟩) (fun zv9 wm9 hq9 => ?_)
          obtain ⟨rfl, rfl⟩ := hq9
          exact JS_iret dX12_bookLine_95 rfl (n01 (zX12_bad s (1 : Int32))) h
    · have h := h.2 hc30
      refine JT_iconst (v := 1) dX12_bookLine_24 ic_1 ?_
      refine JT_goto (tgt := 85) dX12_bookLine_25 (by decide) ?_
      refine JT_istore_n (lv' := [(1, .int (1 : Int32)), (0, .ref 248)]) dX12_bookLine_85 rfl (Nat.le_of_ble_eq_true rfl) rfl ?_
      refine JT_iload_n (q := 0) dX12_bookLine_86 rfl rfl ?_
      refine JT_if_ge (tgt := 96) dX12_bookLine_87 (by decide) (fun hc29 => ?_) (fun hc29 => ?_)
      · have h := h.1 hc29
        refine JT_aload_n (q := 1) dX12_bookLine_96 rfl rfl ?_
        refine JS_getI dX12_bookLine_97 flX12_401 BS_248 (Nat.le_of_ble_eq_true rfl) (Nat.le_of_ble_eq_true rfl) (Or.inl ct_12_36) ?_
        refine JT_bipush (v := 40) dX12_bookLine_100 bp_40 ?_
        refine JT_icmp_ne (tgt := 111) dX12_bookLine_102 (by decide) (fun hc27 => ?_) (fun hc27 => ?_)
        · have h := h.1 hc27
          refine JT_iconst (v := 1) dX12_bookLine_111 ic_1 ?_
          refine JT_iconst (v := 5) dX12_bookLine_112 ic_5 ?_
          refine JT_aload_n (q := 1) dX12_bookLine_113 rfl rfl ?_
          refine JS_getI dX12_bookLine_114 flX12_401 BS_248 (Nat.le_of_ble_eq_true rfl) (Nat.le_of_ble_eq_true rfl) (Or.inl ct_12_36) ?_
          refine JT_imul dX12_bookLine_117 ?_
          refine JT_iadd dX12_bookLine_118 ?_
          refine JT_istore_n (lv' := [(2, .int ((1 : Int32) + ((5 : Int32) * (gI s 248 36)))), (1, .int (1 : Int32)), (0, .ref 248)]) dX12_bookLine_119 rfl (Nat.le_of_ble_eq_true rfl) rfl ?_
          refine JT_iconst (v := 0) dX12_bookLine_120 ic_0 ?_
          refine JT_istore_n (lv' := [(3, .int (0 : Int32)), (2, .int ((1 : Int32) + ((5 : Int32) * (gI s 248 36)))), (1, .int (1 : Int32)), (0, .ref 248)]) dX12_bookLine_121 rfl (Nat.le_of_ble_eq_true rfl) rfl ?_
          exact JT_sub [3, 2, 1, 0] rfl h
        · have h := h.2 hc27
          refine JT_aload_n (q := 1) dX12_bookLine_105 rfl rfl ?_
          refine JT_iconst (v := 4) dX12_bookLine_106 ic_4 ?_
          refine JS_callVI (M' := MX12_bad) (d' := 0) (As := [.int (4 : Int32)]) (rest := []) (P := (fun zv9 wm9 => (vX12_bad s (4 : Int32)) = zv9 ∧ (mX12_bad s (4 : Int32)) = wm9)) dX12_bookLine_107 cvX12_196 okX12_bad rfl (Nat.le_of_ble_eq_true rfl) BS_248 (Nat.le_of_ble_eq_true rfl) (Nat.le_of_ble_eq_true rfl) hci_12 (Nat.le_of_ble_eq_true rfl) (Nat.le_of_ble_eq_true rfl) (pX12_bad  ((4 : Int32))  ⟨rfl, rfl⟩) (fun zv9 wm9 hq9 => ?_)
          obtain ⟨rfl, rfl⟩ := hq9
          exact JS_iret dX12_bookLine_110 rfl (n01 (zX12_bad s (4 : Int32))) h
      · have h := h.2 hc29
        refine JT_aload_n (q := 1) dX12_bookLine_90 rfl rfl ?_
        refine JT_iconst (v := 1) dX12_bookLine_91 ic_1 ?_
        refine JS_callVI (M' := MX12_bad) (d' := 0) (As := [.int (1 : Int32)]) (rest := []) (P := (fun zv9 wm9 => (vX12_bad s (1 : Int32)) = zv9 ∧ (mX12_bad s (1 : Int32)) = wm9)) dX12_bookLine_92 cvX12_196 okX12_bad rfl (Nat.le_of_ble_eq_true rfl) BS_248 (Nat.le_of_ble_eq_true rfl) (Nat.le_of_ble_eq_true rfl) hci_12 (Nat.le_of_ble_eq_true rfl) (Nat.le_of_ble_eq_true rfl) (pX12_bad  ((1 : Int32))  ⟨rfl, rfl⟩) (fun zv9 wm9 hq9 => ?_)
        obtain ⟨rfl, rfl⟩ := hq9
        exact JS_iret dX12_bookLine_95 rfl (n01 (zX12_bad s (1 : Int32))) h
  · have h := h.2 hc36
    refine JT_iconst (v := 0) dX12_bookLine_10 ic_0 ?_
    refine JT_goto (tgt := 85) dX12_bookLine_11 (by decide) ?_
    refine JT_istore_n (lv' := [(1, .int (0 : Int32)), (0, .ref 248)]) dX12_bookLine_85 rfl (Nat.le_of_ble_eq_true rfl) rfl ?_
    refine JT_iload_n (q := 0) dX12_bookLine_86 rfl rfl ?_
    refine JT_if_ge (tgt := 96) dX12_bookLine_87 (by decide) (fun hc35 => ?_) (fun hc35 => ?_)
    · have h := h.1 hc35
      refine JT_aload_n (q := 1) dX12_bookLine_96 rfl rfl ?_
      refine JS_getI dX12_bookLine_97 flX12_401 BS_248 (Nat.le_of_ble_eq_true rfl) (Nat.le_of_ble_eq_true rfl) (Or.inl ct_12_36) ?_
      refine JT_bipush (v := 40) dX12_bookLine_100 bp_40 ?_
      refine JT_icmp_ne (tgt := 111) dX12_bookLine_102 (by decide) (fun hc33 => ?_) (fun hc33 => ?_)
      · have h := h.1 hc33
        refine JT_iconst (v := 1) dX12_bookLine_111 ic_1 ?_
        refine JT_iconst (v := 5) dX12_bookLine_112 ic_5 ?_
        refine JT_aload_n (q := 1) dX12_bookLine_113 rfl rfl ?_
        refine JS_getI dX12_bookLine_114 flX12_401 BS_248 (Nat.le_of_ble_eq_true rfl) (Nat.le_of_ble_eq_true rfl) (Or.inl ct_12_36) ?_
        refine JT_imul dX12_bookLine_117 ?_
        refine JT_iadd dX12_bookLine_118 ?_
        refine JT_istore_n (lv' := [(2, .int ((1 : Int32) + ((5 : Int32) * (gI s 248 36)))), (1, .int (0 : Int32)), (0, .ref 248)]) dX12_bookLine_119 rfl (Nat.le_of_ble_eq_true rfl) rfl ?_
        refine JT_iconst (v := 0) dX12_bookLine_120 ic_0 ?_
        refine JT_istore_n (lv' := [(3, .int (0 : Int32)), (2, .int ((1 : Int32) + ((5 : Int32) * (gI s 248 36)))), (1, .int (0 : Int32)), (0, .ref 248)]) dX12_bookLine_121 rfl (Nat.le_of_ble_eq_true rfl) rfl ?_
        exact JT_sub [3, 2, 1, 0] rfl h
      · have h := h.2 hc33
        refine JT_aload_n (q := 1) dX12_bookLine_105 rfl rfl ?_
        refine JT_iconst (v := 4) dX12_bookLine_106 ic_4 ?_
        refine JS_callVI (M' := MX12_bad) (d' := 0) (As := [.int (4 : Int32)]) (rest := []) (P := (fun zv9 wm9 => (vX12_bad s (4 : Int32)) = zv9 ∧ (mX12_bad s (4 : Int32)) = wm9)) dX12_bookLine_107 cvX12_196 okX12_bad rfl (Nat.le_of_ble_eq_true rfl) BS_248 (Nat.le_of_ble_eq_true rfl) (Nat.le_of_ble_eq_true rfl) hci_12 (Nat.le_of_ble_eq_true rfl) (Nat.le_of_ble_eq_true rfl) (pX12_bad  ((4 : Int32))  ⟨rfl, rfl⟩) (fun zv9 wm9 hq9 => ?_)
        obtain ⟨rfl, rfl⟩ := hq9
        exact JS_iret dX12_bookLine_110 rfl (n01 (zX12_bad s (4 : Int32))) h
    · have h := h.2 hc35
      refine JT_aload_n (q := 1) dX12_bookLine_90 rfl rfl ?_
      refine JT_iconst (v := 1) dX12_bookLine_91 ic_1 ?_
      refine JS_callVI (M' := MX12_bad) (d' := 0) (As := [.int (1 : Int32)]) (rest := []) (P := (fun zv9 wm9 => (vX12_bad s (1 : Int32)) = zv9 ∧ (mX12_bad s (1 : Int32)) = wm9)) dX12_bookLine_92 cvX12_196 okX12_bad rfl (Nat.le_of_ble_eq_true rfl) BS_248 (Nat.le_of_ble_eq_true rfl) (Nat.le_of_ble_eq_true rfl) hci_12 (Nat.le_of_ble_eq_true rfl) (Nat.le_of_ble_eq_true rfl) (pX12_bad  ((1 : Int32))  ⟨rfl, rfl⟩) (fun zv9 wm9 hq9 => ?_)
      obtain ⟨rfl, rfl⟩ := hq9
      exact JS_iret dX12_bookLine_95 rfl (n01 (zX12_bad s (1 : Int32))) h
set_option maxRecDepth 1000000 in
theorem gX12_bookLine  : ∀ n : Nat, (∀ (a1 : Int32) (a2 : Int32) (a3 : Int32) (s : SM) (Q : Int32 → SM → Prop), ((qX12_bookLine n).1 s a1 a2 a3) → Q ((lX12_bookLine n).1 s a1 a2 a3).1 ((lX12_bookLine n).1 s a1 a2 a3).2 → BI MX12_bookLine 3 122 [(0, .ref 248), (1, .int a1), (2, .int a2), (3, .int a3)] s Q) ∧ (∀ (a1 : Int32) (a2 : Int32) (a3 : Int32) (s : SM) (Q : Int32 → SM → Prop), ((qX12_bookLine n).2.1 s a1 a2 a3) → Q ((lX12_bookLine n).2.1 s a1 a2 a3).1 ((lX12_bookLine n).2.1 s a1 a2 a3).2 → BI MX12_bookLine 3 175 [(0, .ref 248), (1, .int a1), (2, .int a2), (3, .int a3)] s Q) ∧ (∀ (a1 : Int32) (a2 : Int32) (a3 : Int32) (s : SM) (Q : Int32 → SM → Prop), ((qX12_bookLine n).2.2 s a1 a2 a3) → Q ((lX12_bookLine n).2.2 s a1 a2 a3).1 ((lX12_bookLine n).2.2 s a1 a2 a3).2 → BI MX12_bookLine 3 232 [(0, .ref 248), (1, .int a1), (2, .int a2), (3, .int a3)] s Q) := by
  intro n
  induction n with
  | zero => exact ⟨fun _ _ _ _ _ hq _ => absurd hq id, fun _ _ _ _ _ hq _ => absurd hq id, fun _ _ _ _ _ hq _ => absurd hq id⟩
  | succ n ih =>
    refine ⟨?_, ?_, ?_⟩
    · intro a1 a2 a3 s Q hr h
      replace hr : uX12_bookLine_122 (qX12_bookLine n) s a1 a2 a3 := hr
      replace h : Q (tX12_bookLine_122 (lX12_bookLine n) s a1 a2 a3).1 (tX12_bookLine_122 (lX12_bookLine n) s a1 a2 a3).2 := h
      unfold uX12_bookLine_122 at hr
      unfold tX12_bookLine_122 at h
      refine bX12_bookLine_122 a1 a2 a3 ?_
      refine ⟨fun c => ?_, fun c => ?_⟩
      · replace hr := hr.1 c
        replace h := q3p c h
        refine ⟨hr.1, ?_⟩
        replace hr := hr.2
        refine ⟨hr.1, ?_⟩
        replace hr := hr.2
        refine ⟨fun c => ?_, fun c => ?_⟩
        · replace h := q3p c h
          first | exact h | contradiction
        · replace hr := hr c
          replace h := q3n c h
          refine ⟨fun c => ?_, fun c => ?_⟩
          · replace hr := hr c
            replace h := q3n c h
            refine ⟨fun c => ?_, fun c => ?_⟩
            · replace hr := hr.1 c
              replace h := q3p c h
              first | exact ih.2.1 a1 a2 a3 _ Q hr h | contradiction
            · replace hr := hr.2 c
              replace h := q3n c h
              refine ⟨fun c => ?_, fun c => ?_⟩
              · replace hr := hr.1 c
                replace h := q3n c h
                refine ⟨hr.1, ?_⟩
                replace hr := hr.2
                intro s2 e9
                replace hr := hr s2 e9
                try rw [← e9] at h
                try dsimp only at h
                refine ⟨fun c => ?_, fun c => ?_⟩
                · replace hr := hr c
                  replace h := q3n c h
                  refine ⟨hr.1, ?_⟩
                  replace hr := hr.2
                  refine ⟨hr.1, ?_⟩
                  replace hr := hr.2
                  intro s4 e9
                  replace hr := hr s4 e9
                  try rw [← e9] at h
                  try dsimp only at h
                  refine ⟨fun c => ?_, fun c => ?_⟩
                  · replace hr := hr c
                    replace h := q3n c h
                    refine ⟨hr.1, ?_⟩
                    replace hr := hr.2
                    refine ⟨fun c => ?_, fun c => ?_⟩
                    · replace hr := hr c
                      replace h := q3n c h
                      refine ⟨hr.1, ?_⟩
                      replace hr := hr.2
                      refine ⟨fun c => ?_, fun c => ?_⟩
                      · replace hr := hr c
                        replace h := q3n c h
                        refine ⟨hr.1, ?_⟩
                        replace hr := hr.2
                        intro s7 e9
                        replace hr := hr s7 e9
                        try rw [← e9] at h
                        try dsimp only at h
                        refine ⟨hr.1, ?_⟩
                        replace hr := hr.2
                        refine ⟨fun c => ?_, fun c => ?_⟩
                        · replace hr := hr c
                          replace h := q3n c h
                          refine ⟨hr, ?_⟩
                          intro s9 e9
                          try rw [← e9] at h
                          try dsimp only at h
                          first | exact h | contradiction
                        · replace h := q3p c h
                          first | exact h | contradiction
                      · replace h := q3p c h
                        first | exact h | contradiction
                    · replace h := q3p c h
                      first | exact h | contradiction
                  · replace h := q3p c h
                    first | exact h | contradiction
                · replace h := q3p c h
                  first | exact h | contradiction
              · replace hr := hr.2 c
                replace h := q3p c h
                first | exact ih.2.1 a1 a2 a3 _ Q hr h | contradiction
          · replace h := q3p c h
            first | exact h | contradiction
      · replace hr := hr.2 c
        replace h := q3n c h
        refine ⟨hr.1, ?_⟩
        replace hr := hr.2
        first | exact ih.1 a1 a2 (a3 + 1) _ Q hr h | contradiction
    · intro a1 a2 a3 s Q hr h
      replace hr : uX12_bookLine_175 (qX12_bookLine n) s a1 a2 a3 := hr
      replace h : Q (tX12_bookLine_175 (lX12_bookLine n) s a1 a2 a3).1 (tX12_bookLine_175 (lX12_bookLine n) s a1 a2 a3).2 := h
      unfold uX12_bookLine_175 at hr
      unfold tX12_bookLine_175 at h
      refine bX12_bookLine_175 a1 a2 a3 ?_
      refine ⟨hr.1, ?_⟩
      replace hr := hr.2
      refine ⟨fun c => ?_, fun c => ?_⟩
      · replace hr := hr c
        replace h := q3n c h
        refine ⟨hr.1, ?_⟩
        replace hr := hr.2
        intro s2 e9
        replace hr := hr s2 e9
        try rw [← e9] at h
        try dsimp only at h
        refine ⟨fun c => ?_, fun c => ?_⟩
        · replace hr := hr c
          replace h := q3n c h
          refine ⟨fun c => ?_, fun c => ?_⟩
          · replace hr := hr.1 c
            replace h := q3n c h
            first | exact ih.2.2 a1 a2 a3 _ Q hr h | contradiction
          · replace hr := hr.2 c
            replace h := q3p c h
            refine ⟨fun c => ?_, fun c => ?_⟩
            · replace hr := hr c
              replace h := q3n c h
              first | exact ih.2.2 a1 a2 a3 _ Q hr h | contradiction
            · replace h := q3p c h
              first | exact h | contradiction
        · replace h := q3p c h
          first | exact h | contradiction
      · replace h := q3p c h
        first | exact h | contradiction
    · intro a1 a2 a3 s Q hr h
      replace hr : uX12_bookLine_232 (qX12_bookLine n) s a1 a2 a3 := hr
      replace h : Q (tX12_bookLine_232 (lX12_bookLine n) s a1 a2 a3).1 (tX12_bookLine_232 (lX12_bookLine n) s a1 a2 a3).2 := h
      unfold uX12_bookLine_232 at hr
      unfold tX12_bookLine_232 at h
      refine bX12_bookLine_232 a1 a2 a3 ?_
      refine ⟨hr.1, ?_⟩
      replace hr := hr.2
      intro s2 e9
      replace hr := hr s2 e9
      try rw [← e9] at h
      try dsimp only at h
      refine ⟨hr, ?_⟩
      first | exact h | contradiction
set_option maxRecDepth 1000000 in
theorem pX12_bookLine  {s : SM} {Q : Int32 → SM → Prop} (hr : rX12_bookLine s ) (h : Q (vX12_bookLine s ) (mX12_bookLine s )) : KI MX12_bookLine 3 [.ref 248] s Q := by
  replace h : Q (fX12_bookLine s ).1 (fX12_bookLine s ).2 := h
  unfold rX12_bookLine at hr
  unfold fX12_bookLine at h
  refine bX12_bookLine  ?_
  refine ⟨fun c => ?_, fun c => ?_⟩
  · replace hr := hr.1 c
    replace h := q3p c h
    refine ⟨fun c => ?_, fun c => ?_⟩
    · replace hr := hr.1 c
      replace h := q3p c h
      refine ⟨fun c => ?_, fun c => ?_⟩
      · replace hr := hr.1 c
        replace h := q3p c h
        refine ⟨fun c => ?_, fun c => ?_⟩
        · replace hr := hr.1 c
          replace h := q3p c h
          refine ⟨fun c => ?_, fun c => ?_⟩
          · replace hr := hr.1 c
            replace h := q3p c h
            refine ⟨fun c => ?_, fun c => ?_⟩
            · replace hr := hr c
              replace h := q3p c h
              refine ⟨fun c => ?_, fun c => ?_⟩
              · replace hr := hr c
                replace h := q3n c h
                first | exact (gX12_bookLine  FU).1 (if (vX12_isWord s (2036687218 : Int64)) = 0 then (-1 : Int32) else (5 : Int32)) ((1 : Int32) + ((5 : Int32) * (gI s 248 36))) (0 : Int32) _ Q hr h | contradiction
              · replace h := q3p c h
                first | exact h | contradiction
            · replace h := q3n c h
              first | exact h | contradiction
          · replace hr := hr.2 c
            replace h := q3n c h
            refine ⟨fun c => ?_, fun c => ?_⟩
            · replace hr := hr c
              replace h := q3p c h
              refine ⟨fun c => ?_, fun c => ?_⟩
              · replace hr := hr c
                replace h := q3n c h
                first | exact (gX12_bookLine  FU).1 (4 : Int32) ((1 : Int32) + ((5 : Int32) * (gI s 248 36))) (0 : Int32) _ Q hr h | contradiction
              · replace h := q3p c h
                first | exact h | contradiction
            · replace h := q3n c h
              first | exact h | contradiction
        · replace hr := hr.2 c
          replace h := q3n c h
          refine ⟨fun c => ?_, fun c => ?_⟩
          · replace hr := hr c
            replace h := q3p c h
            refine ⟨fun c => ?_, fun c => ?_⟩
            · replace hr := hr c
              replace h := q3n c h
              first | exact (gX12_bookLine  FU).1 (3 : Int32) ((1 : Int32) + ((5 : Int32) * (gI s 248 36))) (0 : Int32) _ Q hr h | contradiction
            · replace h := q3p c h
              first | exact h | contradiction
          · replace h := q3n c h
            first | exact h | contradiction
      · replace hr := hr.2 c
        replace h := q3n c h
        refine ⟨fun c => ?_, fun c => ?_⟩
        · replace hr := hr c
          replace h := q3p c h
          refine ⟨fun c => ?_, fun c => ?_⟩
          · replace hr := hr c
            replace h := q3n c h
            first | exact (gX12_bookLine  FU).1 (2 : Int32) ((1 : Int32) + ((5 : Int32) * (gI s 248 36))) (0 : Int32) _ Q hr h | contradiction
          · replace h := q3p c h
            first | exact h | contradiction
        · replace h := q3n c h
          first | exact h | contradiction
    · replace hr := hr.2 c
      replace h := q3n c h
      refine ⟨fun c => ?_, fun c => ?_⟩
      · replace hr := hr c
        replace h := q3p c h
        refine ⟨fun c => ?_, fun c => ?_⟩
        · replace hr := hr c
          replace h := q3n c h
          first | exact (gX12_bookLine  FU).1 (1 : Int32) ((1 : Int32) + ((5 : Int32) * (gI s 248 36))) (0 : Int32) _ Q hr h | contradiction
        · replace h := q3p c h
          first | exact h | contradiction
      · replace h := q3n c h
        first | exact h | contradiction
  · replace hr := hr.2 c
    replace h := q3n c h
    refine ⟨fun c => ?_, fun c => ?_⟩
    · replace hr := hr c
      replace h := q3p c h
      refine ⟨fun c => ?_, fun c => ?_⟩
      · replace hr := hr c
        replace h := q3n c h
        first | exact (gX12_bookLine  FU).1 (0 : Int32) ((1 : Int32) + ((5 : Int32) * (gI s 248 36))) (0 : Int32) _ Q hr h | contradiction
      · replace h := q3p c h
        first | exact h | contradiction
    · replace h := q3n c h
      first | exact h | contradiction
set_option maxRecDepth 1000000 in
theorem bX12_buries_18 (a1 : Int32) (a2 : Int32) (a3 : Int32) (a4 : Int32) {s : SM} {Q : Int32 → SM → Prop} (h : (((gI s 250 ((34 : Int32)).toNatClampNeg) ≤ a4 → Q a3 s) ∧ (¬ (gI s 250 ((34 : Int32)).toNatClampNeg) ≤ a4 → rX12_isOpen s a4 ∧ (((vX12_isOpen s a4) = 0 → BI MX12_buries 3 18 [(0, .ref 248), (1, .int a1), (2, .int a2), (3, .int a3), (4, .int (a4 + 1))] s Q) ∧ (¬ (vX12_isOpen s a4) = 0 → rX12_of s a4 (0 : Int32) ∧ (((vX12_of s a4 (0 : Int32)) = a1 → BI MX12_buries 3 64 [(0, .ref 248), (1, .int a1), (2, .int a2), (3, .int a3), (4, .int a4)] s Q) ∧ (¬ (vX12_of s a4 (0 : Int32)) = a1 → rX12_of s a4 (1 : Int32) ∧ (((vX12_of s a4 (1 : Int32)) = a1 → BI MX12_buries 3 64 [(0, .ref 248), (1, .int a1), (2, .int a2), (3, .int a3), (4, .int a4)] s Q) ∧ (¬ (vX12_of s a4 (1 : Int32)) = a1 → BI MX12_buries 3 18 [(0, .ref 248), (1, .int a1), (2, .int a2), (3, .int a3), (4, .int (a4 + 1))] s Q))))))))) : BI MX12_buries 3 18 [(0, .ref 248), (1, .int a1), (2, .int a2), (3, .int a3), (4, .int a4)] s Q := by
  refine JT_iload (q := 4) dX12_buries_18 rfl ?_
  refine JT_aload_n (q := 0) dX12_buries_20 rfl rfl ?_
  refine JS_getR (x := 250) dX12_buries_21 flX12_33 BS_248 (Nat.le_of_ble_eq_true rfl) (Nat.le_of_ble_eq_true rfl) (Or.inr ⟨_, ct_12_6⟩) RF_248_6 ?_
  refine JT_bipush (v := 34) dX12_buries_24 bp_34 ?_
  refine JS_iald dX12_buries_26 BS_250 (Nat.le_of_ble_eq_true rfl) (Nat.le_of_ble_eq_true rfl) (by unfold vp_in; decide) ?_
  refine JT_icmp_ge (tgt := 124) dX12_buries_27 (by decide) (fun hc7 => ?_) (fun hc7 => ?_)
  · have h := h.1 hc7
    refine JT_iload_n (q := 3) dX12_buries_124 rfl rfl ?_
    exact JS_iret dX12_buries_125 rfl rfl h
  · have h := h.2 hc7
    refine JT_aload_n (q := 0) dX12_buries_30 rfl rfl ?_
    refine JT_iload (q := 4) dX12_buries_31 rfl ?_
    obtain ⟨o6, h⟩ := h
    refine JS_callVI (M' := MX12_isOpen) (d' := 2) (As := [.int a4]) (rest := []) (P := (fun zv9 wm9 => (vX12_isOpen s a4) = zv9 ∧ s = wm9)) dX12_buries_33 cvX12_278 okX12_isOpen rfl (Nat.le_of_ble_eq_true rfl) BS_248 (Nat.le_of_ble_eq_true rfl) (Nat.le_of_ble_eq_true rfl) hci_12 (Nat.le_of_ble_eq_true rfl) (Nat.le_of_ble_eq_true rfl) (pX12_isOpen  (a4) o6 ⟨rfl, rfl⟩) (fun zv9 wm9 hq9 => ?_)
    obtain ⟨rfl, rfl⟩ := hq9
    refine JT_if_eq (tgt := 118) dX12_buries_36 (by decide) (fun hc5 => ?_) (fun hc5 => ?_)
    · have h := h.1 hc5
      refine JT_iinc (q := 4) (v := (a4 + 1)) (lv' := [(4, .int (a4 + 1)), (0, .ref 248), (1, .int a1), (2, .int a2), (3, .int a3)]) dX12_buries_118 rfl (by rfl) (Nat.le_of_ble_eq_true rfl) rfl ?_
      refine JT_goto (tgt := 18) dX12_buries_121 (by decide) ?_
      exact JT_sub [1, 2, 3, 4, 0] rfl h
    · have h := h.2 hc5
      refine JT_aload_n (q := 0) dX12_buries_39 rfl rfl ?_
      refine JT_iload (q := 4) dX12_buries_40 rfl ?_
      refine JT_iconst (v := 0) dX12_buries_42 ic_0 ?_
      obtain ⟨o4, h⟩ := h
      refine JS_callVI (M' := MX12_of) (d' := 0) (As := [.int a4, .int (0 : Int32)]) (rest := []) (P := (fun zv9 wm9 => (vX12_of s a4 (0 : Int32)) = zv9 ∧ s = wm9)) dX12_buries_43 cvX12_265 okX12_of rfl (Nat.le_of_ble_eq_true rfl) BS_248 (Nat.le_of_ble_eq_true rfl) (Nat.le_of_ble_eq_true rfl) hci_12 (Nat.le_of_ble_eq_true rfl) (Nat.le_of_ble_eq_true rfl) (pX12_of  (a4) ((0 : Int32)) o4 ⟨rfl, rfl⟩) (fun zv9 wm9 hq9 => ?_)
      obtain ⟨rfl, rfl⟩ := hq9
      refine JT_iload_n (q := 1) dX12_buries_46 rfl rfl ?_
      refine JT_icmp_eq (tgt := 64) dX12_buries_47 (by decide) (fun hc3 => ?_) (fun hc3 => ?_)
      · have h := h.1 hc3
        exact JT_sub [0, 1, 2, 3, 4] rfl h
      · have h := h.2 hc3
        refine JT_aload_n (q := 0) dX12_buries_50 rfl rfl ?_
        refine JT_iload (q := 4) dX12_buries_51 rfl ?_
        refine JT_iconst (v := 1) dX12_buries_53 ic_1 ?_
        obtain ⟨o2, h⟩ := h
        refine JS_callVI (M' := MX12_of) (d' := 0) (As := [.int a4, .int (1 : Int32)]) (rest := []) (P := (fun zv9 wm9 => (vX12_of s a4 (1 : Int32)) = zv9 ∧ s = wm9)) dX12_buries_54 cvX12_265 okX12_of rfl (Nat.le_of_ble_eq_true rfl) BS_248 (Nat.le_of_ble_eq_true rfl) (Nat.le_of_ble_eq_true rfl) hci_12 (Nat.le_of_ble_eq_true rfl) (Nat.le_of_ble_eq_true rfl) (pX12_of  (a4) ((1 : Int32)) o2 ⟨rfl, rfl⟩) (fun zv9 wm9 hq9 => ?_)
        obtain ⟨rfl, rfl⟩ := hq9
        refine JT_iload_n (q := 1) dX12_buries_57 rfl rfl ?_
        refine JT_icmp_eq (tgt := 64) dX12_buries_58 (by decide) (fun hc1 => ?_) (fun hc1 => ?_)
        · have h := h.1 hc1
          exact JT_sub [0, 1, 2, 3, 4] rfl h
        · have h := h.2 hc1
          refine JT_goto (tgt := 118) dX12_buries_61 (by decide) ?_
          refine JT_iinc (q := 4) (v := (a4 + 1)) (lv' := [(4, .int (a4 + 1)), (0, .ref 248), (1, .int a1), (2, .int a2), (3, .int a3)]) dX12_buries_118 rfl (by rfl) (Nat.le_of_ble_eq_true rfl) rfl ?_
          refine JT_goto (tgt := 18) dX12_buries_121 (by decide) ?_
          exact JT_sub [1, 2, 3, 4, 0] rfl h
set_option maxRecDepth 1000000 in
theorem bX12_buries_64 (a1 : Int32) (a2 : Int32) (a3 : Int32) (a4 : Int32) {s : SM} {Q : Int32 → SM → Prop} (h : rX12_of s a4 (0 : Int32) ∧ rX12_set s a4 (if (vX12_of s a4 (0 : Int32)) = a1 then (0 : Int32) else (1 : Int32)) a2 ∧ rX12_of (mX12_set s a4 (if (vX12_of s a4 (0 : Int32)) = a1 then (0 : Int32) else (1 : Int32)) a2) a4 (0 : Int32) ∧ rX12_of (mX12_set s a4 (if (vX12_of s a4 (0 : Int32)) = a1 then (0 : Int32) else (1 : Int32)) a2) a4 (1 : Int32) ∧ ((¬ (vX12_of (mX12_set s a4 (if (vX12_of s a4 (0 : Int32)) = a1 then (0 : Int32) else (1 : Int32)) a2) a4 (0 : Int32)) = (vX12_of (mX12_set s a4 (if (vX12_of s a4 (0 : Int32)) = a1 then (0 : Int32) else (1 : Int32)) a2) a4 (1 : Int32)) → BI MX12_buries 3 18 [(0, .ref 248), (1, .int a1), (2, .int a2), (3, .int (a3 + 1)), (4, .int (a4 + 1))] (mX12_set s a4 (if (vX12_of s a4 (0 : Int32)) = a1 then (0 : Int32) else (1 : Int32)) a2) Q) ∧ ((vX12_of (mX12_set s a4 (if (vX12_of s a4 (0 : Int32)) = a1 then (0 : Int32) else (1 : Int32)) a2) a4 (0 : Int32)) = (vX12_of (mX12_set s a4 (if (vX12_of s a4 (0 : Int32)) = a1 then (0 : Int32) else (1 : Int32)) a2) a4 (1 : Int32)) → rX12_set (mX12_set s a4 (if (vX12_of s a4 (0 : Int32)) = a1 then (0 : Int32) else (1 : Int32)) a2) a4 (5 : Int32) (2 : Int32) ∧ (∀ s1, s1 = (mX12_set (mX12_set s a4 (if (vX12_of s a4 (0 : Int32)) = a1 then (0 : Int32) else (1 : Int32)) a2) a4 (5 : Int32) (2 : Int32)) → BI MX12_buries 3 18 [(0, .ref 248), (1, .int a1), (2, .int a2), (3, .int a3), (4, .int (a4 + 1))] s1 Q)))) : BI MX12_buries 3 64 [(0, .ref 248), (1, .int a1), (2, .int a2), (3, .int a3), (4, .int a4)] s Q := by
  refine JT_aload_n (q := 0) dX12_buries_64 rfl rfl ?_
  refine JT_iload (q := 4) dX12_buries_65 rfl ?_
  refine JT_aload_n (q := 0) dX12_buries_67 rfl rfl ?_
  refine JT_iload (q := 4) dX12_buries_68 rfl ?_
  refine JT_iconst (v := 0) dX12_buries_70 ic_0 ?_
  obtain ⟨o9, h⟩ := h
  refine JS_callVI (M' := MX12_of) (d' := 0) (As := [.int a4, .int (0 : Int32)]) (rest := [.int a4, .ref 248]) (P := (fun zv9 wm9 => (vX12_of s a4 (0 : Int32)) = zv9 ∧ s = wm9)) dX12_buries_71 cvX12_265 okX12_of rfl (Nat.le_of_ble_eq_true rfl) BS_248 (Nat.le_of_ble_eq_true rfl) (Nat.le_of_ble_eq_true rfl) hci_12 (Nat.le_of_ble_eq_true rfl) (Nat.le_of_ble_eq_true rfl) (pX12_of  (a4) ((0 : Int32)) o9 ⟨rfl, rfl⟩) (fun zv9 wm9 hq9 => ?_)
  obtain ⟨rfl, rfl⟩ := hq9
  refine JT_iload_n (q := 1) dX12_buries_74 rfl rfl ?_
  have hj7 : ∀ v : Int32, v = (if (vX12_of s a4 (0 : Int32)) = a1 then (0 : Int32) else (1 : Int32)) → JT MX12_buries 3 0 0 83 [(0, .ref 248), (1, .int a1), (2, .int a2), (3, .int a3), (4, .int a4)] [.int v, .int a4, .ref 248] (std s) (KQ Q) := by
    intro v hv
    subst hv
    refine JT_iload_n (q := 2) dX12_buries_83 rfl rfl ?_
    obtain ⟨o6, h⟩ := h
    refine JS_callVV (M' := MX12_set) (d' := 0) (As := [.int a4, .int (if (vX12_of s a4 (0 : Int32)) = a1 then (0 : Int32) else (1 : Int32)), .int a2]) (rest := []) (P := (fun wm9 => (mX12_set s a4 (if (vX12_of s a4 (0 : Int32)) = a1 then (0 : Int32) else (1 : Int32)) a2) = wm9)) dX12_buries_84 cvX12_322 okX12_set rfl (Nat.le_of_ble_eq_true rfl) BS_248 (Nat.le_of_ble_eq_true rfl) (Nat.le_of_ble_eq_true rfl) hci_12 (Nat.le_of_ble_eq_true rfl) (Nat.le_of_ble_eq_true rfl) (pX12_set  (a4) ((if (vX12_of s a4 (0 : Int32)) = a1 then (0 : Int32) else (1 : Int32))) (a2) o6 rfl) (fun wm9 hq9 => ?_)
    subst hq9
    refine JT_aload_n (q := 0) dX12_buries_87 rfl rfl ?_
    refine JT_iload (q := 4) dX12_buries_88 rfl ?_
    refine JT_iconst (v := 0) dX12_buries_90 ic_0 ?_
    obtain ⟨o5, h⟩ := h
    refine JS_callVI (M' := MX12_of) (d' := 0) (As := [.int a4, .int (0 : Int32)]) (rest := []) (P := (fun zv9 wm9 => (vX12_of (mX12_set s a4 (if (vX12_of s a4 (0 : Int32)) = a1 then (0 : Int32) else (1 : Int32)) a2) a4 (0 : Int32)) = zv9 ∧ (mX12_set s a4 (if (vX12_of s a4 (0 : Int32)) = a1 then (0 : Int32) else (1 : Int32)) a2) = wm9)) dX12_buries_91 cvX12_265 okX12_of rfl (Nat.le_of_ble_eq_true rfl) BS_248 (Nat.le_of_ble_eq_true rfl) (Nat.le_of_ble_eq_true rfl) hci_12 (Nat.le_of_ble_eq_true rfl) (Nat.le_of_ble_eq_true rfl) (pX12_of  (a4) ((0 : Int32)) o5 ⟨rfl, rfl⟩) (fun zv9 wm9 hq9 => ?_)
    obtain ⟨rfl, rfl⟩ := hq9
    refine JT_aload_n (q := 0) dX12_buries_94 rfl rfl ?_
    refine JT_iload (q := 4) dX12_buries_95 rfl ?_
    refine JT_iconst (v := 1) dX12_buries_97 ic_1 ?_
    obtain ⟨o4, h⟩ := h
    refine JS_callVI (M' := MX12_of) (d' := 0) (As := [.int a4, .int (1 : Int32)]) (rest := [.int (vX12_of (mX12_set s a4 (if (vX12_of s a4 (0 : Int32)) = a1 then (0 : Int32) else (1 : Int32)) a2) a4 (0 : Int32))]) (P := (fun zv9 wm9 => (vX12_of (mX12_set s a4 (if (vX12_of s a4 (0 : Int32)) = a1 then (0 : Int32) else (1 : Int32)) a2) a4 (1 : Int32)) = zv9 ∧ (mX12_set s a4 (if (vX12_of s a4 (0 : Int32)) = a1 then (0 : Int32) else (1 : Int32)) a2) = wm9)) dX12_buries_98 cvX12_265 okX12_of rfl (Nat.le_of_ble_eq_true rfl) BS_248 (Nat.le_of_ble_eq_true rfl) (Nat.le_of_ble_eq_true rfl) hci_12 (Nat.le_of_ble_eq_true rfl) (Nat.le_of_ble_eq_true rfl) (pX12_of  (a4) ((1 : Int32)) o4 ⟨rfl, rfl⟩) (fun zv9 wm9 hq9 => ?_)
    obtain ⟨rfl, rfl⟩ := hq9
    refine JT_icmp_ne (tgt := 115) dX12_buries_101 (by decide) (fun hc3 => ?_) (fun hc3 => ?_)
    · have h := h.1 hc3
      refine JT_iinc (q := 3) (v := (a3 + 1)) (lv' := [(3, .int (a3 + 1)), (0, .ref 248), (1, .int a1), (2, .int a2), (4, .int a4)]) dX12_buries_115 rfl (by rfl) (Nat.le_of_ble_eq_true rfl) rfl ?_
      refine JT_iinc (q := 4) (v := (a4 + 1)) (lv' := [(4, .int (a4 + 1)), (3, .int (a3 + 1)), (0, .ref 248), (1, .int a1), (2, .int a2)]) dX12_buries_118 rfl (by rfl) (Nat.le_of_ble_eq_true rfl) rfl ?_
      refine JT_goto (tgt := 18) dX12_buries_121 (by decide) ?_
      exact JT_sub [2, 3, 4, 1, 0] rfl h
    · have h := h.2 hc3
      refine JT_aload_n (q := 0) dX12_buries_104 rfl rfl ?_
      refine JT_iload (q := 4) dX12_buries_105 rfl ?_
      refine JT_iconst (v := 5) dX12_buries_107 ic_5 ?_
      refine JT_iconst (v := 2) dX12_buries_108 ic_2 ?_
      obtain ⟨o2, h⟩ := h
      refine JS_callVV (M' := MX12_set) (d' := 0) (As := [.int a4, .int (5 : Int32), .int (2 : Int32)]) (rest := []) (P := (fun wm9 => (mX12_set (mX12_set s a4 (if (vX12_of s a4 (0 : Int32)) = a1 then (0 : Int32) else (1 : Int32)) a2) a4 (5 : Int32) (2 : Int32)) = wm9)) dX12_buries_109 cvX12_322 okX12_set rfl (Nat.le_of_ble_eq_true rfl) BS_248 (Nat.le_of_ble_eq_true rfl) (Nat.le_of_ble_eq_true rfl) hci_12 (Nat.le_of_ble_eq_true rfl) (Nat.le_of_ble_eq_true rfl) (pX12_set  (a4) ((5 : Int32)) ((2 : Int32)) o2 rfl) (fun wm9 hq9 => ?_)
      subst hq9
      obtain ⟨s1, hs1⟩ : ∃ z, z = (mX12_set (mX12_set s a4 (if (vX12_of s a4 (0 : Int32)) = a1 then (0 : Int32) else (1 : Int32)) a2) a4 (5 : Int32) (2 : Int32)) := ⟨_, rfl⟩
      replace h := h s1 hs1
      rw [← hs1]
      refine JT_goto (tgt := 118) dX12_buries_112 (by decide) ?_
      refine JT_iinc (q := 4) (v := (a4 + 1)) (lv' := [(4, .int (a4 + 1)), (0, .ref 248), (1, .int a1), (2, .int a2), (3, .int a3)]) dX12_buries_118 rfl (by rfl) (Nat.le_of_ble_eq_true rfl) rfl ?_
      refine JT_goto (tgt := 18) dX12_buries_121 (by decide) ?_
      exact JT_sub [1, 2, 3, 4, 0] rfl h
  refine JT_icmp_ne (tgt := 82) dX12_buries_75 (by decide) (fun hc8 => ?_) (fun hc8 => ?_)
  · refine JT_iconst (v := 1) dX12_buries_82 ic_1 ?_
    exact hj7 _ (by rw [if_neg hc8])
  · refine JT_iconst (v := 0) dX12_buries_78 ic_0 ?_
    refine JT_goto (tgt := 83) dX12_buries_79 (by decide) ?_
    exact hj7 _ (by rw [if_pos hc8])
set_option maxRecDepth 1000000 in
theorem bX12_buries (a1 : Int32) (a2 : Int32) {s : SM} {Q : Int32 → SM → Prop} (h : BI MX12_buries 3 18 [(0, .ref 248), (1, .int a1), (2, .int a2), (3, .int (0 : Int32)), (4, .int (0 : Int32))] (pI s 250 ((36 : Int32)).toNatClampNeg ((gI s 250 ((36 : Int32)).toNatClampNeg) ||| ((1 : Int32) <<< (a1 &&& 31)))) Q) : KI MX12_buries 3 [.ref 248, .int a1, .int a2] s Q := by
  show BI MX12_buries 3 0 [(0, .ref 248), (1, .int a1), (2, .int a2)] s Q
  refine JT_aload_n (q := 0) dX12_buries_0 rfl rfl ?_
  refine JS_getR (x := 250) dX12_buries_1 flX12_33 BS_248 (Nat.le_of_ble_eq_true rfl) (Nat.le_of_ble_eq_true rfl) (Or.inr ⟨_, ct_12_6⟩) RF_248_6 ?_
  refine JT_bipush (v := 36) dX12_buries_4 bp_36 ?_
  refine JT_dup2 dX12_buries_6 rfl rfl ?_
  refine JS_iald dX12_buries_7 BS_250 (Nat.le_of_ble_eq_true rfl) (Nat.le_of_ble_eq_true rfl) (by unfold vp_in; decide) ?_
  refine JT_iconst (v := 1) dX12_buries_8 ic_1 ?_
  refine JT_iload_n (q := 1) dX12_buries_9 rfl rfl ?_
  refine JT_ishl dX12_buries_10 ?_
  refine JT_ior dX12_buries_11 ?_
  refine JS_iast dX12_buries_12 BS_250 (Nat.le_of_ble_eq_true rfl) (Nat.le_of_ble_eq_true rfl) (by unfold vp_in; decide) ?_
  refine JT_iconst (v := 0) dX12_buries_13 ic_0 ?_
  refine JT_istore_n (lv' := [(3, .int (0 : Int32)), (0, .ref 248), (1, .int a1), (2, .int a2)]) dX12_buries_14 rfl (Nat.le_of_ble_eq_true rfl) rfl ?_
  refine JT_iconst (v := 0) dX12_buries_15 ic_0 ?_
  refine JT_istore (lv' := [(4, .int (0 : Int32)), (3, .int (0 : Int32)), (0, .ref 248), (1, .int a1), (2, .int a2)]) dX12_buries_16 (Nat.le_of_ble_eq_true rfl) rfl ?_
  exact JT_sub [2, 3, 4, 1, 0] rfl h
set_option maxRecDepth 1000000 in
theorem gX12_buries  : ∀ n : Nat, (∀ (a1 : Int32) (a2 : Int32) (a3 : Int32) (a4 : Int32) (s : SM) (Q : Int32 → SM → Prop), ((qX12_buries n).1 s a1 a2 a3 a4) → Q ((lX12_buries n).1 s a1 a2 a3 a4).1 ((lX12_buries n).1 s a1 a2 a3 a4).2 → BI MX12_buries 3 18 [(0, .ref 248), (1, .int a1), (2, .int a2), (3, .int a3), (4, .int a4)] s Q) ∧ (∀ (a1 : Int32) (a2 : Int32) (a3 : Int32) (a4 : Int32) (s : SM) (Q : Int32 → SM → Prop), ((qX12_buries n).2 s a1 a2 a3 a4) → Q ((lX12_buries n).2 s a1 a2 a3 a4).1 ((lX12_buries n).2 s a1 a2 a3 a4).2 → BI MX12_buries 3 64 [(0, .ref 248), (1, .int a1), (2, .int a2), (3, .int a3), (4, .int a4)] s Q) := by
  intro n
  induction n with
  | zero => exact ⟨fun _ _ _ _ _ _ hq _ => absurd hq id, fun _ _ _ _ _ _ hq _ => absurd hq id⟩
  | succ n ih =>
    refine ⟨?_, ?_⟩
    · intro a1 a2 a3 a4 s Q hr h
      replace hr : uX12_buries_18 (qX12_buries n) s a1 a2 a3 a4 := hr
      replace h : Q (tX12_buries_18 (lX12_buries n) s a1 a2 a3 a4).1 (tX12_buries_18 (lX12_buries n) s a1 a2 a3 a4).2 := h
      unfold uX12_buries_18 at hr
      unfold tX12_buries_18 at h
      refine bX12_buries_18 a1 a2 a3 a4 ?_
      refine ⟨fun c => ?_, fun c => ?_⟩
      · replace h := q3p c h
        first | exact h | contradiction
      · replace hr := hr c
        replace h := q3n c h
        refine ⟨hr.1, ?_⟩
        replace hr := hr.2
        refine ⟨fun c => ?_, fun c => ?_⟩
        · replace hr := hr.1 c
          replace h := q3p c h
          first | exact ih.1 a1 a2 a3 (a4 + 1) _ Q hr h | contradiction
        · replace hr := hr.2 c
          replace h := q3n c h
          refine ⟨hr.1, ?_⟩
          replace hr := hr.2
          refine ⟨fun c => ?_, fun c => ?_⟩
          · replace hr := hr.1 c
            replace h := q3p c h
            first | exact ih.2 a1 a2 a3 a4 _ Q hr h | contradiction
          · replace hr := hr.2 c
            replace h := q3n c h
            refine ⟨hr.1, ?_⟩
            replace hr := hr.2
            refine ⟨fun c => ?_, fun c => ?_⟩
            · replace hr := hr.1 c
              replace h := q3p c h
              first | exact ih.2 a1 a2 a3 a4 _ Q hr h | contradiction
            · replace hr := hr.2 c
              replace h := q3n c h
              first | exact ih.1 a1 a2 a3 (a4 + 1) _ Q hr h | contradiction
    · intro a1 a2 a3 a4 s Q hr h
      replace hr : uX12_buries_64 (qX12_buries n) s a1 a2 a3 a4 := hr
      replace h : Q (tX12_buries_64 (lX12_buries n) s a1 a2 a3 a4).1 (tX12_buries_64 (lX12_buries n) s a1 a2 a3 a4).2 := h
      unfold uX12_buries_64 at hr
      unfold tX12_buries_64 at h
      refine bX12_buries_64 a1 a2 a3 a4 ?_
      refine ⟨hr.1, ?_⟩
      replace hr := hr.2
      refine ⟨hr.1, ?_⟩
      replace hr := hr.2
      refine ⟨hr.1, ?_⟩
      replace hr := hr.2
      refine ⟨hr.1, ?_⟩
      replace hr := hr.2
      refine ⟨fun c => ?_, fun c => ?_⟩
      · replace hr := hr.1 c
        replace h := q3n c h
        first | exact ih.1 a1 a2 (a3 + 1) (a4 + 1) _ Q hr h | contradiction
      · replace hr := hr.2 c
        replace h := q3p c h
        refine ⟨hr.1, ?_⟩
        replace hr := hr.2
        intro s1 e9
        replace hr := hr s1 e9
        try rw [← e9] at h
        try dsimp only at h
        first | exact ih.1 a1 a2 a3 (a4 + 1) _ Q hr h | contradiction
set_option maxRecDepth 1000000 in
theorem pX12_buries (a1 : Int32) (a2 : Int32) {s : SM} {Q : Int32 → SM → Prop} (hr : rX12_buries s a1 a2) (h : Q (vX12_buries s a1 a2) (mX12_buries s a1 a2)) : KI MX12_buries 3 [.ref 248, .int a1, .int a2] s Q := by
  replace h : Q (fX12_buries s a1 a2).1 (fX12_buries s a1 a2).2 := h
  unfold rX12_buries at hr
  unfold fX12_buries at h
  refine bX12_buries a1 a2 ?_
  first | exact (gX12_buries  FU).1 a1 a2 (0 : Int32) (0 : Int32) _ Q hr h | contradiction
set_option maxRecDepth 1000000 in
theorem bX12_chain_30 (a1 : Int32) (a2 : Int32) (a3 : Int32) (a4 : Int32) {s : SM} {Q : Int32 → SM → Prop} (h : (((gI s 250 ((0 : Int32)).toNatClampNeg) < a4 → Q (-1 : Int32) s) ∧ (¬ (gI s 250 ((0 : Int32)).toNatClampNeg) < a4 → (((vX12_has s a3 a2) = 0 → BI MX12_chain 3 58 [(0, .ref 248), (1, .int a1), (2, .int a2), (3, .int a3), (4, .int a4), (5, .int a3), (6, .int (0 : Int32))] s Q) ∧ (¬ (vX12_has s a3 a2) = 0 → Q a4 s))))) : BI MX12_chain 3 30 [(0, .ref 248), (1, .int a1), (2, .int a2), (3, .int a3), (4, .int a4)] s Q := by
  refine JT_iload (q := 4) dX12_chain_30 rfl ?_
  refine JT_aload_n (q := 0) dX12_chain_32 rfl rfl ?_
  refine JS_getR (x := 250) dX12_chain_33 flX12_33 BS_248 (Nat.le_of_ble_eq_true rfl) (Nat.le_of_ble_eq_true rfl) (Or.inr ⟨_, ct_12_6⟩) RF_248_6 ?_
  refine JT_iconst (v := 0) dX12_chain_36 ic_0 ?_
  refine JS_iald dX12_chain_37 BS_250 (Nat.le_of_ble_eq_true rfl) (Nat.le_of_ble_eq_true rfl) (by unfold vp_in; decide) ?_
  refine JT_icmp_gt (tgt := 122) dX12_chain_38 (by decide) (fun hc3 => ?_) (fun hc3 => ?_)
  · have h := h.1 hc3
    refine JT_iconst (v := -1) dX12_chain_122 ic_m1 ?_
    exact JS_iret dX12_chain_123 rfl rfl h
  · have h := h.2 hc3
    refine JT_iload_n (q := 3) dX12_chain_41 rfl rfl ?_
    refine JT_iload_n (q := 2) dX12_chain_42 rfl rfl ?_
    refine JS_callSI (M' := MX12_has) (d' := 0) (As := [.int a3, .int a2]) (rest := []) (P := (fun zv9 wm9 => (vX12_has s a3 a2) = zv9 ∧ s = wm9)) dX12_chain_43 cvX12_259 okX12_has rfl (Nat.le_of_ble_eq_true rfl) (Nat.le_of_ble_eq_true rfl) (Nat.le_of_ble_eq_true rfl) (pX12_has  (a3) (a2)  ⟨rfl, rfl⟩) (fun zv9 wm9 hq9 => ?_)
    obtain ⟨rfl, rfl⟩ := hq9
    refine JT_if_eq (tgt := 52) dX12_chain_46 (by decide) (fun hc1 => ?_) (fun hc1 => ?_)
    · have h := h.1 hc1
      refine JT_iload_n (q := 3) dX12_chain_52 rfl rfl ?_
      refine JT_istore (lv' := [(5, .int a3), (0, .ref 248), (1, .int a1), (2, .int a2), (3, .int a3), (4, .int a4)]) dX12_chain_53 (Nat.le_of_ble_eq_true rfl) rfl ?_
      refine JT_iconst (v := 0) dX12_chain_55 ic_0 ?_
      refine JT_istore (lv' := [(6, .int (0 : Int32)), (5, .int a3), (0, .ref 248), (1, .int a1), (2, .int a2), (3, .int a3), (4, .int a4)]) dX12_chain_56 (Nat.le_of_ble_eq_true rfl) rfl ?_
      exact JT_sub [2, 3, 4, 5, 6, 1, 0] rfl h
    · have h := h.2 hc1
      refine JT_iload (q := 4) dX12_chain_49 rfl ?_
      exact JS_iret dX12_chain_51 rfl rfl h
set_option maxRecDepth 1000000 in
theorem bX12_chain_58 (a1 : Int32) (a2 : Int32) (a3 : Int32) (a4 : Int32) (a5 : Int32) (a6 : Int32) {s : SM} {Q : Int32 → SM → Prop} (h : (((gI s 250 ((34 : Int32)).toNatClampNeg) ≤ a6 → BI MX12_chain 3 30 [(0, .ref 248), (1, .int a1), (2, .int a2), (3, .int a5), (4, .int (a4 + 1))] s Q) ∧ (¬ (gI s 250 ((34 : Int32)).toNatClampNeg) ≤ a6 → rX12_isOpen s a6 ∧ (((vX12_isOpen s a6) = 0 → BI MX12_chain 3 58 [(0, .ref 248), (1, .int a1), (2, .int a2), (3, .int a3), (4, .int a4), (5, .int a5), (6, .int (a6 + 1))] s Q) ∧ (¬ (vX12_isOpen s a6) = 0 → rX12_of s a6 (1 : Int32) ∧ (((vX12_has s a3 (vX12_of s a6 (1 : Int32))) = 0 → BI MX12_chain 3 58 [(0, .ref 248), (1, .int a1), (2, .int a2), (3, .int a3), (4, .int a4), (5, .int a5), (6, .int (a6 + 1))] s Q) ∧ (¬ (vX12_has s a3 (vX12_of s a6 (1 : Int32))) = 0 → rX12_of s a6 (0 : Int32) ∧ BI MX12_chain 3 58 [(0, .ref 248), (1, .int a1), (2, .int a2), (3, .int a3), (4, .int a4), (5, .int (a5 ||| ((1 : Int32) <<< ((vX12_of s a6 (0 : Int32)) &&& 31)))), (6, .int (a6 + 1))] s Q))))))) : BI MX12_chain 3 58 [(0, .ref 248), (1, .int a1), (2, .int a2), (3, .int a3), (4, .int a4), (5, .int a5), (6, .int a6)] s Q := by
  refine JT_iload (q := 6) dX12_chain_58 rfl ?_
  refine JT_aload_n (q := 0) dX12_chain_60 rfl rfl ?_
  refine JS_getR (x := 250) dX12_chain_61 flX12_33 BS_248 (Nat.le_of_ble_eq_true rfl) (Nat.le_of_ble_eq_true rfl) (Or.inr ⟨_, ct_12_6⟩) RF_248_6 ?_
  refine JT_bipush (v := 34) dX12_chain_64 bp_34 ?_
  refine JS_iald dX12_chain_66 BS_250 (Nat.le_of_ble_eq_true rfl) (Nat.le_of_ble_eq_true rfl) (by unfold vp_in; decide) ?_
  refine JT_icmp_ge (tgt := 113) dX12_chain_67 (by decide) (fun hc7 => ?_) (fun hc7 => ?_)
  · have h := h.1 hc7
    refine JT_iload (q := 5) dX12_chain_113 rfl ?_
    refine JT_istore_n (lv' := [(3, .int a5), (0, .ref 248), (1, .int a1), (2, .int a2), (4, .int a4), (5, .int a5), (6, .int a6)]) dX12_chain_115 rfl (Nat.le_of_ble_eq_true rfl) rfl ?_
    refine JT_iinc (q := 4) (v := (a4 + 1)) (lv' := [(4, .int (a4 + 1)), (3, .int a5), (0, .ref 248), (1, .int a1), (2, .int a2), (5, .int a5), (6, .int a6)]) dX12_chain_116 rfl (by rfl) (Nat.le_of_ble_eq_true rfl) rfl ?_
    refine JT_goto (tgt := 30) dX12_chain_119 (by decide) ?_
    exact JT_sub [2, 3, 4, 1, 0] rfl h
  · have h := h.2 hc7
    refine JT_aload_n (q := 0) dX12_chain_70 rfl rfl ?_
    refine JT_iload (q := 6) dX12_chain_71 rfl ?_
    obtain ⟨o6, h⟩ := h
    refine JS_callVI (M' := MX12_isOpen) (d' := 2) (As := [.int a6]) (rest := []) (P := (fun zv9 wm9 => (vX12_isOpen s a6) = zv9 ∧ s = wm9)) dX12_chain_73 cvX12_278 okX12_isOpen rfl (Nat.le_of_ble_eq_true rfl) BS_248 (Nat.le_of_ble_eq_true rfl) (Nat.le_of_ble_eq_true rfl) hci_12 (Nat.le_of_ble_eq_true rfl) (Nat.le_of_ble_eq_true rfl) (pX12_isOpen  (a6) o6 ⟨rfl, rfl⟩) (fun zv9 wm9 hq9 => ?_)
    obtain ⟨rfl, rfl⟩ := hq9
    refine JT_if_eq (tgt := 107) dX12_chain_76 (by decide) (fun hc5 => ?_) (fun hc5 => ?_)
    · have h := h.1 hc5
      refine JT_iinc (q := 6) (v := (a6 + 1)) (lv' := [(6, .int (a6 + 1)), (0, .ref 248), (1, .int a1), (2, .int a2), (3, .int a3), (4, .int a4), (5, .int a5)]) dX12_chain_107 rfl (by rfl) (Nat.le_of_ble_eq_true rfl) rfl ?_
      refine JT_goto (tgt := 58) dX12_chain_110 (by decide) ?_
      exact JT_sub [1, 2, 3, 4, 5, 6, 0] rfl h
    · have h := h.2 hc5
      refine JT_iload_n (q := 3) dX12_chain_79 rfl rfl ?_
      refine JT_aload_n (q := 0) dX12_chain_80 rfl rfl ?_
      refine JT_iload (q := 6) dX12_chain_81 rfl ?_
      refine JT_iconst (v := 1) dX12_chain_83 ic_1 ?_
      obtain ⟨o4, h⟩ := h
      refine JS_callVI (M' := MX12_of) (d' := 0) (As := [.int a6, .int (1 : Int32)]) (rest := [.int a3]) (P := (fun zv9 wm9 => (vX12_of s a6 (1 : Int32)) = zv9 ∧ s = wm9)) dX12_chain_84 cvX12_265 okX12_of rfl (Nat.le_of_ble_eq_true rfl) BS_248 (Nat.le_of_ble_eq_true rfl) (Nat.le_of_ble_eq_true rfl) hci_12 (Nat.le_of_ble_eq_true rfl) (Nat.le_of_ble_eq_true rfl) (pX12_of  (a6) ((1 : Int32)) o4 ⟨rfl, rfl⟩) (fun zv9 wm9 hq9 => ?_)
      obtain ⟨rfl, rfl⟩ := hq9
      refine JS_callSI (M' := MX12_has) (d' := 0) (As := [.int a3, .int (vX12_of s a6 (1 : Int32))]) (rest := []) (P := (fun zv9 wm9 => (vX12_has s a3 (vX12_of s a6 (1 : Int32))) = zv9 ∧ s = wm9)) dX12_chain_87 cvX12_259 okX12_has rfl (Nat.le_of_ble_eq_true rfl) (Nat.le_of_ble_eq_true rfl) (Nat.le_of_ble_eq_true rfl) (pX12_has  (a3) ((vX12_of s a6 (1 : Int32)))  ⟨rfl, rfl⟩) (fun zv9 wm9 hq9 => ?_)
      obtain ⟨rfl, rfl⟩ := hq9
      refine JT_if_eq (tgt := 107) dX12_chain_90 (by decide) (fun hc2 => ?_) (fun hc2 => ?_)
      · have h := h.1 hc2
        refine JT_iinc (q := 6) (v := (a6 + 1)) (lv' := [(6, .int (a6 + 1)), (0, .ref 248), (1, .int a1), (2, .int a2), (3, .int a3), (4, .int a4), (5, .int a5)]) dX12_chain_107 rfl (by rfl) (Nat.le_of_ble_eq_true rfl) rfl ?_
        refine JT_goto (tgt := 58) dX12_chain_110 (by decide) ?_
        exact JT_sub [1, 2, 3, 4, 5, 6, 0] rfl h
      · have h := h.2 hc2
        refine JT_iload (q := 5) dX12_chain_93 rfl ?_
        refine JT_iconst (v := 1) dX12_chain_95 ic_1 ?_
        refine JT_aload_n (q := 0) dX12_chain_96 rfl rfl ?_
        refine JT_iload (q := 6) dX12_chain_97 rfl ?_
        refine JT_iconst (v := 0) dX12_chain_99 ic_0 ?_
        obtain ⟨o1, h⟩ := h
        refine JS_callVI (M' := MX12_of) (d' := 0) (As := [.int a6, .int (0 : Int32)]) (rest := [.int (1 : Int32), .int a5]) (P := (fun zv9 wm9 => (vX12_of s a6 (0 : Int32)) = zv9 ∧ s = wm9)) dX12_chain_100 cvX12_265 okX12_of rfl (Nat.le_of_ble_eq_true rfl) BS_248 (Nat.le_of_ble_eq_true rfl) (Nat.le_of_ble_eq_true rfl) hci_12 (Nat.le_of_ble_eq_true rfl) (Nat.le_of_ble_eq_true rfl) (pX12_of  (a6) ((0 : Int32)) o1 ⟨rfl, rfl⟩) (fun zv9 wm9 hq9 => ?_)
        obtain ⟨rfl, rfl⟩ := hq9
        refine JT_ishl dX12_chain_103 ?_
        refine JT_ior dX12_chain_104 ?_
        refine JT_istore (lv' := [(5, .int (a5 ||| ((1 : Int32) <<< ((vX12_of s a6 (0 : Int32)) &&& 31)))), (0, .ref 248), (1, .int a1), (2, .int a2), (3, .int a3), (4, .int a4), (6, .int a6)]) dX12_chain_105 (Nat.le_of_ble_eq_true rfl) rfl ?_
        refine JT_iinc (q := 6) (v := (a6 + 1)) (lv' := [(6, .int (a6 + 1)), (5, .int (a5 ||| ((1 : Int32) <<< ((vX12_of s a6 (0 : Int32)) &&& 31)))), (0, .ref 248), (1, .int a1), (2, .int a2), (3, .int a3), (4, .int a4)]) dX12_chain_107 rfl (by rfl) (Nat.le_of_ble_eq_true rfl) rfl ?_
        refine JT_goto (tgt := 58) dX12_chain_110 (by decide) ?_
        exact JT_sub [2, 3, 4, 5, 6, 1, 0] rfl h
set_option maxRecDepth 1000000 in
theorem bX12_chain (a1 : Int32) (a2 : Int32) {s : SM} {Q : Int32 → SM → Prop} (h : (((vX12_isBody (pI s 248 0 (0 : Int32)) a1) = 0 → Q (-1 : Int32) (pI s 248 0 (0 : Int32))) ∧ (¬ (vX12_isBody (pI s 248 0 (0 : Int32)) a1) = 0 → ((¬ (vX12_isBody (pI s 248 0 (0 : Int32)) a2) = 0 → BI MX12_chain 3 30 [(0, .ref 248), (1, .int a1), (2, .int a2), (3, .int ((1 : Int32) <<< (a1 &&& 31))), (4, .int (0 : Int32))] (pI s 248 0 (0 : Int32)) Q) ∧ ((vX12_isBody (pI s 248 0 (0 : Int32)) a2) = 0 → Q (-1 : Int32) (pI s 248 0 (0 : Int32))))))) : KI MX12_chain 3 [.ref 248, .int a1, .int a2] s Q := by
  show BI MX12_chain 3 0 [(0, .ref 248), (1, .int a1), (2, .int a2)] s Q
  refine JT_aload_n (q := 0) dX12_chain_0 rfl rfl ?_
  refine JT_iconst (v := 0) dX12_chain_1 ic_0 ?_
  refine JS_putI dX12_chain_2 flX12_1 BS_248 (Nat.le_of_ble_eq_true rfl) (Nat.le_of_ble_eq_true rfl) ct_12_0 ?_
  refine JT_aload_n (q := 0) dX12_chain_5 rfl rfl ?_
  refine JT_iload_n (q := 1) dX12_chain_6 rfl rfl ?_
  refine JS_callVI (M' := MX12_isBody) (d' := 1) (As := [.int a1]) (rest := []) (P := (fun zv9 wm9 => (vX12_isBody (pI s 248 0 (0 : Int32)) a1) = zv9 ∧ (pI s 248 0 (0 : Int32)) = wm9)) dX12_chain_7 cvX12_287 okX12_isBody rfl (Nat.le_of_ble_eq_true rfl) BS_248 (Nat.le_of_ble_eq_true rfl) (Nat.le_of_ble_eq_true rfl) hci_12 (Nat.le_of_ble_eq_true rfl) (Nat.le_of_ble_eq_true rfl) (pX12_isBody  (a1)  ⟨rfl, rfl⟩) (fun zv9 wm9 hq9 => ?_)
  obtain ⟨rfl, rfl⟩ := hq9
  refine JT_if_eq (tgt := 21) dX12_chain_10 (by decide) (fun hc3 => ?_) (fun hc3 => ?_)
  · have h := h.1 hc3
    refine JT_iconst (v := -1) dX12_chain_21 ic_m1 ?_
    exact JS_iret dX12_chain_22 rfl rfl h
  · have h := h.2 hc3
    refine JT_aload_n (q := 0) dX12_chain_13 rfl rfl ?_
    refine JT_iload_n (q := 2) dX12_chain_14 rfl rfl ?_
    refine JS_callVI (M' := MX12_isBody) (d' := 1) (As := [.int a2]) (rest := []) (P := (fun zv9 wm9 => (vX12_isBody (pI s 248 0 (0 : Int32)) a2) = zv9 ∧ (pI s 248 0 (0 : Int32)) = wm9)) dX12_chain_15 cvX12_287 okX12_isBody rfl (Nat.le_of_ble_eq_true rfl) BS_248 (Nat.le_of_ble_eq_true rfl) (Nat.le_of_ble_eq_true rfl) hci_12 (Nat.le_of_ble_eq_true rfl) (Nat.le_of_ble_eq_true rfl) (pX12_isBody  (a2)  ⟨rfl, rfl⟩) (fun zv9 wm9 hq9 => ?_)
    obtain ⟨rfl, rfl⟩ := hq9
    refine JT_if_ne (tgt := 23) dX12_chain_18 (by decide) (fun hc1 => ?_) (fun hc1 => ?_)
    · have h := h.1 hc1
      refine JT_iconst (v := 1) dX12_chain_23 ic_1 ?_
      refine JT_iload_n (q := 1) dX12_chain_24 rfl rfl ?_
      refine JT_ishl dX12_chain_25 ?_
      refine JT_istore_n (lv' := [(3, .int ((1 : Int32) <<< (a1 &&& 31))), (0, .ref 248), (1, .int a1), (2, .int a2)]) dX12_chain_26 rfl (Nat.le_of_ble_eq_true rfl) rfl ?_
      refine JT_iconst (v := 0) dX12_chain_27 ic_0 ?_
      refine JT_istore (lv' := [(4, .int (0 : Int32)), (3, .int ((1 : Int32) <<< (a1 &&& 31))), (0, .ref 248), (1, .int a1), (2, .int a2)]) dX12_chain_28 (Nat.le_of_ble_eq_true rfl) rfl ?_
      exact JT_sub [2, 3, 4, 1, 0] rfl h
    · have h := h.2 hc1
      refine JT_iconst (v := -1) dX12_chain_21 ic_m1 ?_
      exact JS_iret dX12_chain_22 rfl rfl h
set_option maxRecDepth 1000000 in
theorem gX12_chain  : ∀ n : Nat, (∀ (a1 : Int32) (a2 : Int32) (a3 : Int32) (a4 : Int32) (s : SM) (Q : Int32 → SM → Prop), ((qX12_chain n).1 s a1 a2 a3 a4) → Q ((lX12_chain n).1 s a1 a2 a3 a4).1 ((lX12_chain n).1 s a1 a2 a3 a4).2 → BI MX12_chain 3 30 [(0, .ref 248), (1, .int a1), (2, .int a2), (3, .int a3), (4, .int a4)] s Q) ∧ (∀ (a1 : Int32) (a2 : Int32) (a3 : Int32) (a4 : Int32) (a5 : Int32) (a6 : Int32) (s : SM) (Q : Int32 → SM → Prop), ((qX12_chain n).2 s a1 a2 a3 a4 a5 a6) → Q ((lX12_chain n).2 s a1 a2 a3 a4 a5 a6).1 ((lX12_chain n).2 s a1 a2 a3 a4 a5 a6).2 → BI MX12_chain 3 58 [(0, .ref 248), (1, .int a1), (2, .int a2), (3, .int a3), (4, .int a4), (5, .int a5), (6, .int a6)] s Q) := by
  intro n
  induction n with
  | zero => exact ⟨fun _ _ _ _ _ _ hq _ => absurd hq id, fun _ _ _ _ _ _ _ _ hq _ => absurd hq id⟩
  | succ n ih =>
    refine ⟨?_, ?_⟩
    · intro a1 a2 a3 a4 s Q hr h
      replace hr : uX12_chain_30 (qX12_chain n) s a1 a2 a3 a4 := hr
      replace h : Q (tX12_chain_30 (lX12_chain n) s a1 a2 a3 a4).1 (tX12_chain_30 (lX12_chain n) s a1 a2 a3 a4).2 := h
      unfold uX12_chain_30 at hr
      unfold tX12_chain_30 at h
      refine bX12_chain_30 a1 a2 a3 a4 ?_
      refine ⟨fun c => ?_, fun c => ?_⟩
      · replace h := q3p c h
        first | exact h | contradiction
      · replace hr := hr c
        replace h := q3n c h
        refine ⟨fun c => ?_, fun c => ?_⟩
        · replace hr := hr c
          replace h := q3p c h
          first | exact ih.2 a1 a2 a3 a4 a3 (0 : Int32) _ Q hr h | contradiction
        · replace h := q3n c h
          first | exact h | contradiction
    · intro a1 a2 a3 a4 a5 a6 s Q hr h
      replace hr : uX12_chain_58 (qX12_chain n) s a1 a2 a3 a4 a5 a6 := hr
      replace h : Q (tX12_chain_58 (lX12_chain n) s a1 a2 a3 a4 a5 a6).1 (tX12_chain_58 (lX12_chain n) s a1 a2 a3 a4 a5 a6).2 := h
      unfold uX12_chain_58 at hr
      unfold tX12_chain_58 at h
      refine bX12_chain_58 a1 a2 a3 a4 a5 a6 ?_
      refine ⟨fun c => ?_, fun c => ?_⟩
      · replace hr := hr.1 c
        replace h := q3p c h
        first | exact ih.1 a1 a2 a5 (a4 + 1) _ Q hr h | contradiction
      · replace hr := hr.2 c
        replace h := q3n c h
        refine ⟨hr.1, ?_⟩
        replace hr := hr.2
        refine ⟨fun c => ?_, fun c => ?_⟩
        · replace hr := hr.1 c
          replace h := q3p c h
          first | exact ih.2 a1 a2 a3 a4 a5 (a6 + 1) _ Q hr h | contradiction
        · replace hr := hr.2 c
          replace h := q3n c h
          refine ⟨hr.1, ?_⟩
          replace hr := hr.2
          refine ⟨fun c => ?_, fun c => ?_⟩
          · replace hr := hr.1 c
            replace h := q3p c h
            first | exact ih.2 a1 a2 a3 a4 a5 (a6 + 1) _ Q hr h | contradiction
          · replace hr := hr.2 c
            replace h := q3n c h
            refine ⟨hr.1, ?_⟩
            replace hr := hr.2
            first | exact ih.2 a1 a2 a3 a4 (a5 ||| ((1 : Int32) <<< ((vX12_of s a6 (0 : Int32)) &&& 31))) (a6 + 1) _ Q hr h | contradiction
set_option maxRecDepth 1000000 in
theorem pX12_chain (a1 : Int32) (a2 : Int32) {s : SM} {Q : Int32 → SM → Prop} (hr : rX12_chain s a1 a2) (h : Q (vX12_chain s a1 a2) (mX12_chain s a1 a2)) : KI MX12_chain 3 [.ref 248, .int a1, .int a2] s Q := by
  replace h : Q (fX12_chain s a1 a2).1 (fX12_chain s a1 a2).2 := h
  unfold rX12_chain at hr
  unfold fX12_chain at h
  refine bX12_chain a1 a2 ?_
  refine ⟨fun c => ?_, fun c => ?_⟩
  · replace h := q3p c h
    first | exact h | contradiction
  · replace hr := hr c
    replace h := q3n c h
    refine ⟨fun c => ?_, fun c => ?_⟩
    · replace hr := hr c
      replace h := q3n c h
      first | exact (gX12_chain  FU).1 a1 a2 ((1 : Int32) <<< (a1 &&& 31)) (0 : Int32) _ Q hr h | contradiction
    · replace h := q3p c h
      first | exact h | contradiction
set_option maxRecDepth 1000000 in
theorem bX12_cuts_15 (a1 : Int32) (a2 : Int32) {s : SM} {Q : Int32 → SM → Prop} (h : (((gI s 248 29) ≤ a2 → Q a1 s) ∧ (¬ (gI s 248 29) ≤ a2 → vp_in a2 5 ∧ rX12_of s (gI s 257 (a2).toNatClampNeg) (2 : Int32) ∧ rX12_set s (gI s 257 (a2).toNatClampNeg) (2 : Int32) ((vX12_of s (gI s 257 (a2).toNatClampNeg) (2 : Int32)) - a1) ∧ rX12_of (mX12_set s (gI s 257 (a2).toNatClampNeg) (2 : Int32) ((vX12_of s (gI s 257 (a2).toNatClampNeg) (2 : Int32)) - a1)) (gI s 257 (a2).toNatClampNeg) (2 : Int32) ∧ (((vX12_of (mX12_set s (gI s 257 (a2).toNatClampNeg) (2 : Int32) ((vX12_of s (gI s 257 (a2).toNatClampNeg) (2 : Int32)) - a1)) (gI s 257 (a2).toNatClampNeg) (2 : Int32)) ≤ 0 → rX12_set (mX12_set s (gI s 257 (a2).toNatClampNeg) (2 : Int32) ((vX12_of s (gI s 257 (a2).toNatClampNeg) (2 : Int32)) - a1)) (gI s 257 (a2).toNatClampNeg) (5 : Int32) (2 : Int32) ∧ (∀ s2, s2 = (mX12_set (mX12_set s (gI s 257 (a2).toNatClampNeg) (2 : Int32) ((vX12_of s (gI s 257 (a2).toNatClampNeg) (2 : Int32)) - a1)) (gI s 257 (a2).toNatClampNeg) (5 : Int32) (2 : Int32)) → BI MX12_cuts 3 66 [(0, .ref 248), (1, .int a1), (2, .int a2), (3, .int (gI s 257 (a2).toNatClampNeg)), (4, .int (0 : Int32))] s2 Q)) ∧ (¬ (vX12_of (mX12_set s (gI s 257 (a2).toNatClampNeg) (2 : Int32) ((vX12_of s (gI s 257 (a2).toNatClampNeg) (2 : Int32)) - a1)) (gI s 257 (a2).toNatClampNeg) (2 : Int32)) ≤ 0 → BI MX12_cuts 3 15 [(0, .ref 248), (1, .int a1), (2, .int (a2 + 1))] (mX12_set s (gI s 257 (a2).toNatClampNeg) (2 : Int32) ((vX12_of s (gI s 257 (a2).toNatClampNeg) (2 : Int32)) - a1)) Q))))) : BI MX12_cuts 3 15 [(0, .ref 248), (1, .int a1), (2, .int a2)] s Q := by
  refine JT_iload_n (q := 2) dX12_cuts_15 rfl rfl ?_
  refine JT_aload_n (q := 0) dX12_cuts_16 rfl rfl ?_
  refine JS_getI dX12_cuts_17 flX12_362 BS_248 (Nat.le_of_ble_eq_true rfl) (Nat.le_of_ble_eq_true rfl) (Or.inl ct_12_29) ?_
  refine JT_icmp_ge (tgt := 134) dX12_cuts_20 (by decide) (fun hc8 => ?_) (fun hc8 => ?_)
  · have h := h.1 hc8
    refine JT_iload_n (q := 1) dX12_cuts_134 rfl rfl ?_
    exact JS_iret dX12_cuts_135 rfl rfl h
  · have h := h.2 hc8
    refine JT_aload_n (q := 0) dX12_cuts_23 rfl rfl ?_
    refine JS_getR (x := 257) dX12_cuts_24 flX12_56 BS_248 (Nat.le_of_ble_eq_true rfl) (Nat.le_of_ble_eq_true rfl) (Or.inr ⟨_, ct_12_27⟩) RF_248_27 ?_
    refine JT_iload_n (q := 2) dX12_cuts_27 rfl rfl ?_
    obtain ⟨o1, h⟩ := h
    refine JS_iald dX12_cuts_28 BS_257 (Nat.le_of_ble_eq_true rfl) (Nat.le_of_ble_eq_true rfl) o1 ?_
    refine JT_istore_n (lv' := [(3, .int (gI s 257 (a2).toNatClampNeg)), (0, .ref 248), (1, .int a1), (2, .int a2)]) dX12_cuts_29 rfl (Nat.le_of_ble_eq_true rfl) rfl ?_
    refine JT_aload_n (q := 1) dX12_cuts_30 rfl rfl ?_
    refine JT_iload_n (q := 0) dX12_cuts_31 rfl rfl ?_
    refine JT_iconst (v := 2) dX12_cuts_32 ic_2 ?_
    refine JT_aload_n (q := 1) dX12_cuts_33 rfl rfl ?_
    refine JT_iload_n (q := 0) dX12_cuts_34 rfl rfl ?_
    refine JT_iconst (v := 2) dX12_cuts_35 ic_2 ?_
    obtain ⟨o7, h⟩ := h
    refine JS_callVI (M' := MX12_of) (d' := 0) (As := [.int (gI s 257 (a2).toNatClampNeg), .int (2 : Int32)]) (rest := [.int (2 : Int32), .int (gI s 257 (a2).toNatClampNeg), .ref 248]) (P := (fun zv9 wm9 => (vX12_of s (gI s 257 (a2).toNatClampNeg) (2 : Int32)) = zv9 ∧ s = wm9)) dX12_cuts_36 cvX12_265 okX12_of rfl (Nat.le_of_ble_eq_true rfl) BS_248 (Nat.le_of_ble_eq_true rfl) (Nat.le_of_ble_eq_true rfl) hci_12 (Nat.le_of_ble_eq_true rfl) (Nat.le_of_ble_eq_true rfl) (pX12_of  ((gI s 257 (a2).toNatClampNeg)) ((2 : Int32)) o7 ⟨rfl, rfl⟩) (fun zv9 wm9 hq9 => ?_)
    obtain ⟨rfl, rfl⟩ := hq9
    refine JT_iload_n (q := 2) dX12_cuts_39 rfl rfl ?_
    refine JT_isub dX12_cuts_40 ?_
    obtain ⟨o6, h⟩ := h
    refine JS_callVV (M' := MX12_set) (d' := 0) (As := [.int (gI s 257 (a2).toNatClampNeg), .int (2 : Int32), .int ((vX12_of s (gI s 257 (a2).toNatClampNeg) (2 : Int32)) - a1)]) (rest := []) (P := (fun wm9 => (mX12_set s (gI s 257 (a2).toNatClampNeg) (2 : Int32) ((vX12_of s (gI s 257 (a2).toNatClampNeg) (2 : Int32)) - a1)) = wm9)) dX12_cuts_41 cvX12_322 okX12_set rfl (Nat.le_of_ble_eq_true rfl) BS_248 (Nat.le_of_ble_eq_true rfl) (Nat.le_of_ble_eq_true rfl) hci_12 (Nat.le_of_ble_eq_true rfl) (Nat.le_of_ble_eq_true rfl) (pX12_set  ((gI s 257 (a2).toNatClampNeg)) ((2 : Int32)) (((vX12_of s (gI s 257 (a2).toNatClampNeg) (2 : Int32)) - a1)) o6 rfl) (fun wm9 hq9 => ?_)
    subst hq9
    refine JT_aload_n (q := 1) dX12_cuts_44 rfl rfl ?_
    refine JT_iload_n (q := 0) dX12_cuts_45 rfl rfl ?_
    refine JT_iconst (v := 2) dX12_cuts_46 ic_2 ?_
    obtain ⟨o5, h⟩ := h
    refine JS_callVI (M' := MX12_of) (d' := 0) (As := [.int (gI s 257 (a2).toNatClampNeg), .int (2 : Int32)]) (rest := []) (P := (fun zv9 wm9 => (vX12_of (mX12_set s (gI s 257 (a2).toNatClampNeg) (2 : Int32) ((vX12_of s (gI s 257 (a2).toNatClampNeg) (2 : Int32)) - a1)) (gI s 257 (a2).toNatClampNeg) (2 : Int32)) = zv9 ∧ (mX12_set s (gI s 257 (a2).toNatClampNeg) (2 : Int32) ((vX12_of s (gI s 257 (a2).toNatClampNeg) (2 : Int32)) - a1)) = wm9)) dX12_cuts_47 cvX12_265 okX12_of rfl (Nat.le_of_ble_eq_true rfl) BS_248 (Nat.le_of_ble_eq_true rfl) (Nat.le_of_ble_eq_true rfl) hci_12 (Nat.le_of_ble_eq_true rfl) (Nat.le_of_ble_eq_true rfl) (pX12_of  ((gI s 257 (a2).toNatClampNeg)) ((2 : Int32)) o5 ⟨rfl, rfl⟩) (fun zv9 wm9 hq9 => ?_)
    obtain ⟨rfl, rfl⟩ := hq9
    refine JT_if_le (tgt := 56) dX12_cuts_50 (by decide) (fun hc4 => ?_) (fun hc4 => ?_)
    · have h := h.1 hc4
      refine JT_aload_n (q := 1) dX12_cuts_56 rfl rfl ?_
      refine JT_iload_n (q := 0) dX12_cuts_57 rfl rfl ?_
      refine JT_iconst (v := 5) dX12_cuts_58 ic_5 ?_
      refine JT_iconst (v := 2) dX12_cuts_59 ic_2 ?_
      obtain ⟨o3, h⟩ := h
      refine JS_callVV (M' := MX12_set) (d' := 0) (As := [.int (gI s 257 (a2).toNatClampNeg), .int (5 : Int32), .int (2 : Int32)]) (rest := []) (P := (fun wm9 => (mX12_set (mX12_set s (gI s 257 (a2).toNatClampNeg) (2 : Int32) ((vX12_of s (gI s 257 (a2).toNatClampNeg) (2 : Int32)) - a1)) (gI s 257 (a2).toNatClampNeg) (5 : Int32) (2 : Int32)) = wm9)) dX12_cuts_60 cvX12_322 okX12_set rfl (Nat.le_of_ble_eq_true rfl) BS_248 (Nat.le_of_ble_eq_true rfl) (Nat.le_of_ble_eq_true rfl) hci_12 (Nat.le_of_ble_eq_true rfl) (Nat.le_of_ble_eq_true rfl) (pX12_set  ((gI s 257 (a2).toNatClampNeg)) ((5 : Int32)) ((2 : Int32)) o3 rfl) (fun wm9 hq9 => ?_)
      subst hq9
      obtain ⟨s2, hs2⟩ : ∃ z, z = (mX12_set (mX12_set s (gI s 257 (a2).toNatClampNeg) (2 : Int32) ((vX12_of s (gI s 257 (a2).toNatClampNeg) (2 : Int32)) - a1)) (gI s 257 (a2).toNatClampNeg) (5 : Int32) (2 : Int32)) := ⟨_, rfl⟩
      replace h := h s2 hs2
      rw [← hs2]
      refine JT_iconst (v := 0) dX12_cuts_63 ic_0 ?_
      refine JT_istore (lv' := [(4, .int (0 : Int32)), (3, .int (gI s 257 (a2).toNatClampNeg)), (0, .ref 248), (1, .int a1), (2, .int a2)]) dX12_cuts_64 (Nat.le_of_ble_eq_true rfl) rfl ?_
      exact JT_sub [2, 3, 4, 1, 0] rfl h
    · have h := h.2 hc4
      refine JT_goto (tgt := 128) dX12_cuts_53 (by decide) ?_
      refine JT_iinc (q := 3) (v := (a2 + 1)) (lv' := [(2, .int (a2 + 1)), (3, .int (gI s 257 (a2).toNatClampNeg)), (0, .ref 248), (1, .int a1)]) dX12_cuts_128 rfl (by rfl) (Nat.le_of_ble_eq_true rfl) rfl ?_
      refine JT_goto (tgt := 15) dX12_cuts_131 (by decide) ?_
      exact JT_sub [2, 3, 0] rfl h
set_option maxRecDepth 1000000 in
theorem bX12_cuts_66 (a1 : Int32) (a2 : Int32) (a3 : Int32) (a4 : Int32) {s : SM} {Q : Int32 → SM → Prop} (h : (((2 : Int32) ≤ a4 → BI MX12_cuts 3 15 [(0, .ref 248), (1, .int a1), (2, .int (a2 + 1))] s Q) ∧ (¬ (2 : Int32) ≤ a4 → rX12_of s a3 ((6 : Int32) + a4) ∧ (((vX12_isLiving s (vX12_of s a3 ((6 : Int32) + a4))) = 0 → BI MX12_cuts 3 111 [(0, .ref 248), (1, .int a1), (2, .int a2), (3, .int a3), (4, .int a4), (5, .int (vX12_of s a3 ((6 : Int32) + a4)))] s Q) ∧ (¬ (vX12_isLiving s (vX12_of s a3 ((6 : Int32) + a4))) = 0 → vp_in ((37 : Int32) + (vX12_of s a3 ((6 : Int32) + a4))) 787 ∧ rX12_dotOf s a3 ∧ vp_in ((37 : Int32) + (vX12_of s a3 ((6 : Int32) + a4))) 787 ∧ (∀ s3, s3 = (pI s 250 (((37 : Int32) + (vX12_of s a3 ((6 : Int32) + a4)))).toNatClampNeg ((gI s 250 (((37 : Int32) + (vX12_of s a3 ((6 : Int32) + a4)))).toNatClampNeg) + (vX12_dotOf s a3))) → BI MX12_cuts 3 111 [(0, .ref 248), (1, .int a1), (2, .int a2), (3, .int a3), (4, .int a4), (5, .int (vX12_of s a3 ((6 : Int32) + a4)))] s3 Q)))))) : BI MX12_cuts 3 66 [(0, .ref 248), (1, .int a1), (2, .int a2), (3, .int a3), (4, .int a4)] s Q := by
  refine JT_iload (q := 4) dX12_cuts_66 rfl ?_
  refine JT_iconst (v := 2) dX12_cuts_68 ic_2 ?_
  refine JT_icmp_ge (tgt := 128) dX12_cuts_69 (by decide) (fun hc8 => ?_) (fun hc8 => ?_)
  · have h := h.1 hc8
    refine JT_iinc (q := 2) (v := (a2 + 1)) (lv' := [(2, .int (a2 + 1)), (0, .ref 248), (1, .int a1), (3, .int a3), (4, .int a4)]) dX12_cuts_128 rfl (by rfl) (Nat.le_of_ble_eq_true rfl) rfl ?_
    refine JT_goto (tgt := 15) dX12_cuts_131 (by decide) ?_
    exact JT_sub [1, 2, 0] rfl h
  · have h := h.2 hc8
    refine JT_aload_n (q := 0) dX12_cuts_72 rfl rfl ?_
    refine JT_iload_n (q := 3) dX12_cuts_73 rfl rfl ?_
    refine JT_bipush (v := 6) dX12_cuts_74 bp_6 ?_
    refine JT_iload (q := 4) dX12_cuts_76 rfl ?_
    refine JT_iadd dX12_cuts_78 ?_
    obtain ⟨o7, h⟩ := h
    refine JS_callVI (M' := MX12_of) (d' := 0) (As := [.int a3, .int ((6 : Int32) + a4)]) (rest := []) (P := (fun zv9 wm9 => (vX12_of s a3 ((6 : Int32) + a4)) = zv9 ∧ s = wm9)) dX12_cuts_79 cvX12_265 okX12_of rfl (Nat.le_of_ble_eq_true rfl) BS_248 (Nat.le_of_ble_eq_true rfl) (Nat.le_of_ble_eq_true rfl) hci_12 (Nat.le_of_ble_eq_true rfl) (Nat.le_of_ble_eq_true rfl) (pX12_of  (a3) (((6 : Int32) + a4)) o7 ⟨rfl, rfl⟩) (fun zv9 wm9 hq9 => ?_)
    obtain ⟨rfl, rfl⟩ := hq9
    refine JT_istore (lv' := [(5, .int (vX12_of s a3 ((6 : Int32) + a4))), (0, .ref 248), (1, .int a1), (2, .int a2), (3, .int a3), (4, .int a4)]) dX12_cuts_82 (Nat.le_of_ble_eq_true rfl) rfl ?_
    refine JT_aload_n (q := 1) dX12_cuts_84 rfl rfl ?_
    refine JT_iload (q := 0) dX12_cuts_85 rfl ?_
    refine JS_callVI (M' := MX12_isLiving) (d' := 1) (As := [.int (vX12_of s a3 ((6 : Int32) + a4))]) (rest := []) (P := (fun zv9 wm9 => (vX12_isLiving s (vX12_of s a3 ((6 : Int32) + a4))) = zv9 ∧ s = wm9)) dX12_cuts_87 cvX12_294 okX12_isLiving rfl (Nat.le_of_ble_eq_true rfl) BS_248 (Nat.le_of_ble_eq_true rfl) (Nat.le_of_ble_eq_true rfl) hci_12 (Nat.le_of_ble_eq_true rfl) (Nat.le_of_ble_eq_true rfl) (pX12_isLiving  ((vX12_of s a3 ((6 : Int32) + a4)))  ⟨rfl, rfl⟩) (fun zv9 wm9 hq9 => ?_)
    obtain ⟨rfl, rfl⟩ := hq9
    refine JT_if_eq (tgt := 111) dX12_cuts_90 (by decide) (fun hc5 => ?_) (fun hc5 => ?_)
    · have h := h.1 hc5
      exact JT_sub [1, 2, 3, 4, 5, 0] rfl h
    · have h := h.2 hc5
      refine JT_aload_n (q := 1) dX12_cuts_93 rfl rfl ?_
      refine JS_getR (x := 250) dX12_cuts_94 flX12_33 BS_248 (Nat.le_of_ble_eq_true rfl) (Nat.le_of_ble_eq_true rfl) (Or.inr ⟨_, ct_12_6⟩) RF_248_6 ?_
      refine JT_bipush (v := 37) dX12_cuts_97 bp_37 ?_
      refine JT_iload (q := 0) dX12_cuts_99 rfl ?_
      refine JT_iadd dX12_cuts_101 ?_
      refine JT_dup2 dX12_cuts_102 rfl rfl ?_
      obtain ⟨o1, h⟩ := h
      refine JS_iald dX12_cuts_103 BS_250 (Nat.le_of_ble_eq_true rfl) (Nat.le_of_ble_eq_true rfl) o1 ?_
      refine JT_aload_n (q := 1) dX12_cuts_104 rfl rfl ?_
      refine JT_iload_n (q := 4) dX12_cuts_105 rfl rfl ?_
      obtain ⟨o4, h⟩ := h
      refine JS_callVI (M' := MX12_dotOf) (d' := 2) (As := [.int a3]) (rest := [.int (gI s 250 (((37 : Int32) + (vX12_of s a3 ((6 : Int32) + a4)))).toNatClampNeg), .int ((37 : Int32) + (vX12_of s a3 ((6 : Int32) + a4))), .ref 250]) (P := (fun zv9 wm9 => (vX12_dotOf s a3) = zv9 ∧ s = wm9)) dX12_cuts_106 cvX12_350 okX12_dotOf rfl (Nat.le_of_ble_eq_true rfl) BS_248 (Nat.le_of_ble_eq_true rfl) (Nat.le_of_ble_eq_true rfl) hci_12 (Nat.le_of_ble_eq_true rfl) (Nat.le_of_ble_eq_true rfl) (pX12_dotOf  (a3) o4 ⟨rfl, rfl⟩) (fun zv9 wm9 hq9 => ?_)
      obtain ⟨rfl, rfl⟩ := hq9
      refine JT_iadd dX12_cuts_109 ?_
      obtain ⟨o2, h⟩ := h
      refine JS_iast dX12_cuts_110 BS_250 (Nat.le_of_ble_eq_true rfl) (Nat.le_of_ble_eq_true rfl) o2 ?_
      obtain ⟨s3, hs3⟩ : ∃ z, z = (pI s 250 (((37 : Int32) + (vX12_of s a3 ((6 : Int32) + a4)))).toNatClampNeg ((gI s 250 (((37 : Int32) + (vX12_of s a3 ((6 : Int32) + a4)))).toNatClampNeg) + (vX12_dotOf s a3))) := ⟨_, rfl⟩
      replace h := h s3 hs3
      rw [← hs3]
      exact JT_sub [1, 2, 3, 4, 5, 0] rfl h
set_option maxRecDepth 1000000 in
theorem bX12_cuts_111 (a1 : Int32) (a2 : Int32) (a3 : Int32) (a4 : Int32) (a5 : Int32) {s : SM} {Q : Int32 → SM → Prop} (h : rX12_set s a3 ((6 : Int32) + a4) (-1 : Int32) ∧ BI MX12_cuts 3 66 [(0, .ref 248), (1, .int a1), (2, .int a2), (3, .int a3), (4, .int (a4 + 1))] (mX12_set s a3 ((6 : Int32) + a4) (-1 : Int32)) Q) : BI MX12_cuts 3 111 [(0, .ref 248), (1, .int a1), (2, .int a2), (3, .int a3), (4, .int a4), (5, .int a5)] s Q := by
  refine JT_aload_n (q := 0) dX12_cuts_111 rfl rfl ?_
  refine JT_iload_n (q := 3) dX12_cuts_112 rfl rfl ?_
  refine JT_bipush (v := 6) dX12_cuts_113 bp_6 ?_
  refine JT_iload (q := 4) dX12_cuts_115 rfl ?_
  refine JT_iadd dX12_cuts_117 ?_
  refine JT_iconst (v := -1) dX12_cuts_118 ic_m1 ?_
  obtain ⟨o1, h⟩ := h
  refine JS_callVV (M' := MX12_set) (d' := 0) (As := [.int a3, .int ((6 : Int32) + a4), .int (-1 : Int32)]) (rest := []) (P := (fun wm9 => (mX12_set s a3 ((6 : Int32) + a4) (-1 : Int32)) = wm9)) dX12_cuts_119 cvX12_322 okX12_set rfl (Nat.le_of_ble_eq_true rfl) BS_248 (Nat.le_of_ble_eq_true rfl) (Nat.le_of_ble_eq_true rfl) hci_12 (Nat.le_of_ble_eq_true rfl) (Nat.le_of_ble_eq_true rfl) (pX12_set  (a3) (((6 : Int32) + a4)) ((-1 : Int32)) o1 rfl) (fun wm9 hq9 => ?_)
  subst hq9
  refine JT_iinc (q := 4) (v := (a4 + 1)) (lv' := [(4, .int (a4 + 1)), (0, .ref 248), (1, .int a1), (2, .int a2), (3, .int a3), (5, .int a5)]) dX12_cuts_122 rfl (by rfl) (Nat.le_of_ble_eq_true rfl) rfl ?_
  refine JT_goto (tgt := 66) dX12_cuts_125 (by decide) ?_
  exact JT_sub [1, 2, 3, 4, 0] rfl h
set_option maxRecDepth 1000000 in
theorem bX12_cuts  {s : SM} {Q : Int32 → SM → Prop} (h : rX12_leastOf s 257 5 (gI s 248 29) ∧ BI MX12_cuts 3 15 [(0, .ref 248), (1, .int (vX12_leastOf s 257 5 (gI s 248 29))), (2, .int (0 : Int32))] s Q) : KI MX12_cuts 3 [.ref 248] s Q := by
  show BI MX12_cuts 3 0 [(0, .ref 248)] s Q
  refine JT_aload_n (q := 0) dX12_cuts_0 rfl rfl ?_
  refine JT_aload_n (q := 0) dX12_cuts_1 rfl rfl ?_
  refine JS_getR (x := 257) dX12_cuts_2 flX12_56 BS_248 (Nat.le_of_ble_eq_true rfl) (Nat.le_of_ble_eq_true rfl) (Or.inr ⟨_, ct_12_27⟩) RF_248_27 ?_
  refine JT_aload_n (q := 0) dX12_cuts_5 rfl rfl ?_
  refine JS_getI dX12_cuts_6 flX12_362 BS_248 (Nat.le_of_ble_eq_true rfl) (Nat.le_of_ble_eq_true rfl) (Or.inl ct_12_29) ?_
  obtain ⟨o1, h⟩ := h
  refine JS_callVI (M' := MX12_leastOf) (d' := 1) (As := [.ref 257, .int (gI s 248 29)]) (rest := []) (P := (fun zv9 wm9 => (vX12_leastOf s 257 5 (gI s 248 29)) = zv9 ∧ s = wm9)) dX12_cuts_9 cvX12_346 okX12_leastOf rfl (Nat.le_of_ble_eq_true rfl) BS_248 (Nat.le_of_ble_eq_true rfl) (Nat.le_of_ble_eq_true rfl) hci_12 (Nat.le_of_ble_eq_true rfl) (Nat.le_of_ble_eq_true rfl) (pX12_leastOf ⟨BS_257, by decide, by decide⟩ ((gI s 248 29)) o1 ⟨rfl, rfl⟩) (fun zv9 wm9 hq9 => ?_)
  obtain ⟨rfl, rfl⟩ := hq9
  refine JT_istore_n (lv' := [(1, .int (vX12_leastOf s 257 5 (gI s 248 29))), (0, .ref 248)]) dX12_cuts_12 rfl (Nat.le_of_ble_eq_true rfl) rfl ?_
  refine JT_iconst (v := 0) dX12_cuts_13 ic_0 ?_
  refine JT_istore_n (lv' := [(2, .int (0 : Int32)), (1, .int (vX12_leastOf s 257 5 (gI s 248 29))), (0, .ref 248)]) dX12_cuts_14 rfl (Nat.le_of_ble_eq_true rfl) rfl ?_
  exact JT_sub [2, 1, 0] rfl h
set_option maxRecDepth 1000000 in
theorem gX12_cuts  : ∀ n : Nat, (∀ (a1 : Int32) (a2 : Int32) (s : SM) (Q : Int32 → SM → Prop), ((qX12_cuts n).1 s a1 a2) → Q ((lX12_cuts n).1 s a1 a2).1 ((lX12_cuts n).1 s a1 a2).2 → BI MX12_cuts 3 15 [(0, .ref 248), (1, .int a1), (2, .int a2)] s Q) ∧ (∀ (a1 : Int32) (a2 : Int32) (a3 : Int32) (a4 : Int32) (s : SM) (Q : Int32 → SM → Prop), ((qX12_cuts n).2.1 s a1 a2 a3 a4) → Q ((lX12_cuts n).2.1 s a1 a2 a3 a4).1 ((lX12_cuts n).2.1 s a1 a2 a3 a4).2 → BI MX12_cuts 3 66 [(0, .ref 248), (1, .int a1), (2, .int a2), (3, .int a3), (4, .int a4)] s Q) ∧ (∀ (a1 : Int32) (a2 : Int32) (a3 : Int32) (a4 : Int32) (a5 : Int32) (s : SM) (Q : Int32 → SM → Prop), ((qX12_cuts n).2.2 s a1 a2 a3 a4 a5) → Q ((lX12_cuts n).2.2 s a1 a2 a3 a4 a5).1 ((lX12_cuts n).2.2 s a1 a2 a3 a4 a5).2 → BI MX12_cuts 3 111 [(0, .ref 248), (1, .int a1), (2, .int a2), (3, .int a3), (4, .int a4), (5, .int a5)] s Q) := by
  intro n
  induction n with
  | zero => exact ⟨fun _ _ _ _ hq _ => absurd hq id, fun _ _ _ _ _ _ hq _ => absurd hq id, fun _ _ _ _ _ _ _ hq _ => absurd hq id⟩
  | succ n ih =>
    refine ⟨?_, ?_, ?_⟩
    · intro a1 a2 s Q hr h
      replace hr : uX12_cuts_15 (qX12_cuts n) s a1 a2 := hr
      replace h : Q (tX12_cuts_15 (lX12_cuts n) s a1 a2).1 (tX12_cuts_15 (lX12_cuts n) s a1 a2).2 := h
      unfold uX12_cuts_15 at hr
      unfold tX12_cuts_15 at h
      refine bX12_cuts_15 a1 a2 ?_
      refine ⟨fun c => ?_, fun c => ?_⟩
      · replace h := q3p c h
        first | exact h | contradiction
      · replace hr := hr c
        replace h := q3n c h
        refine ⟨hr.1, ?_⟩
        replace hr := hr.2
        refine ⟨hr.1, ?_⟩
        replace hr := hr.2
        refine ⟨hr.1, ?_⟩
        replace hr := hr.2
        refine ⟨hr.1, ?_⟩
        replace hr := hr.2
        refine ⟨fun c => ?_, fun c => ?_⟩
        · replace hr := hr.1 c
          replace h := q3p c h
          refine ⟨hr.1, ?_⟩
          replace hr := hr.2
          intro s2 e9
          replace hr := hr s2 e9
          try rw [← e9] at h
          try dsimp only at h
          first | exact ih.2.1 a1 a2 (gI s 257 (a2).toNatClampNeg) (0 : Int32) _ Q hr h | contradiction
        · replace hr := hr.2 c
          replace h := q3n c h
          first | exact ih.1 a1 (a2 + 1) _ Q hr h | contradiction
    · intro a1 a2 a3 a4 s Q hr h
      replace hr : uX12_cuts_66 (qX12_cuts n) s a1 a2 a3 a4 := hr
      replace h : Q (tX12_cuts_66 (lX12_cuts n) s a1 a2 a3 a4).1 (tX12_cuts_66 (lX12_cuts n) s a1 a2 a3 a4).2 := h
      unfold uX12_cuts_66 at hr
      unfold tX12_cuts_66 at h
      refine bX12_cuts_66 a1 a2 a3 a4 ?_
      refine ⟨fun c => ?_, fun c => ?_⟩
      · replace hr := hr.1 c
        replace h := q3p c h
        first | exact ih.1 a1 (a2 + 1) _ Q hr h | contradiction
      · replace hr := hr.2 c
        replace h := q3n c h
        refine ⟨hr.1, ?_⟩
        replace hr := hr.2
        refine ⟨fun c => ?_, fun c => ?_⟩
        · replace hr := hr.1 c
          replace h := q3p c h
          first | exact ih.2.2 a1 a2 a3 a4 (vX12_of s a3 ((6 : Int32) + a4)) _ Q hr h | contradiction
        · replace hr := hr.2 c
          replace h := q3n c h
          refine ⟨hr.1, ?_⟩
          replace hr := hr.2
          refine ⟨hr.1, ?_⟩
          replace hr := hr.2
          refine ⟨hr.1, ?_⟩
          replace hr := hr.2
          intro s3 e9
          replace hr := hr s3 e9
          try rw [← e9] at h
          try dsimp only at h
          first | exact ih.2.2 a1 a2 a3 a4 (vX12_of s a3 ((6 : Int32) + a4)) _ Q hr h | contradiction
    · intro a1 a2 a3 a4 a5 s Q hr h
      replace hr : uX12_cuts_111 (qX12_cuts n) s a1 a2 a3 a4 a5 := hr
      replace h : Q (tX12_cuts_111 (lX12_cuts n) s a1 a2 a3 a4 a5).1 (tX12_cuts_111 (lX12_cuts n) s a1 a2 a3 a4 a5).2 := h
      unfold uX12_cuts_111 at hr
      unfold tX12_cuts_111 at h
      refine bX12_cuts_111 a1 a2 a3 a4 a5 ?_
      refine ⟨hr.1, ?_⟩
      replace hr := hr.2
      first | exact ih.2.1 a1 a2 a3 (a4 + 1) _ Q hr h | contradiction
set_option maxRecDepth 1000000 in
theorem pX12_cuts  {s : SM} {Q : Int32 → SM → Prop} (hr : rX12_cuts s ) (h : Q (vX12_cuts s ) (mX12_cuts s )) : KI MX12_cuts 3 [.ref 248] s Q := by
  replace h : Q (fX12_cuts s ).1 (fX12_cuts s ).2 := h
  unfold rX12_cuts at hr
  unfold fX12_cuts at h
  refine bX12_cuts  ?_
  refine ⟨hr.1, ?_⟩
  replace hr := hr.2
  first | exact (gX12_cuts  FU).1 (vX12_leastOf s 257 5 (gI s 248 29)) (0 : Int32) _ Q hr h | contradiction
set_option maxRecDepth 1000000 in
theorem bX12_deal (a1 : Int32) (a2 : Int32) {s : SM} {Q : Int32 → SM → Prop} (h : (((vX12_isDeal s a1) = 0 → rX12_throwsIf s (1 : Int32) ∧ (((vX12_throwsIf s (1 : Int32)) = 0 → (((8 : Int32) ≤ a2 → ((¬ a2 = (8 : Int32) → rX12_valueOf (mX12_throwsIf s (1 : Int32)) a1 ∧ Q (vX12_valueOf (mX12_throwsIf s (1 : Int32)) a1) (mX12_throwsIf s (1 : Int32))) ∧ (a2 = (8 : Int32) → rX12_isKnown (mX12_throwsIf s (1 : Int32)) a1 (vX12_living (mX12_throwsIf s (1 : Int32)) ) ∧ Q (if (vX12_isKnown (mX12_throwsIf s (1 : Int32)) a1 (vX12_living (mX12_throwsIf s (1 : Int32)) )) = 0 then (0 : Int32) else (1 : Int32)) (mX12_throwsIf s (1 : Int32))))) ∧ (¬ (8 : Int32) ≤ a2 → rX12_of (mX12_throwsIf s (1 : Int32)) a1 a2 ∧ Q (vX12_of (mX12_throwsIf s (1 : Int32)) a1 a2) (mX12_throwsIf s (1 : Int32))))) ∧ (¬ (vX12_throwsIf s (1 : Int32)) = 0 → Q (0 : Int32) (mX12_throwsIf s (1 : Int32))))) ∧ (¬ (vX12_isDeal s a1) = 0 → rX12_throwsIf s (if (vX12_isIn s a2 (0 : Int32) (9 : Int32)) = 0 then (1 : Int32) else (0 : Int32)) ∧ (((vX12_throwsIf s (if (vX12_isIn s a2 (0 : Int32) (9 : Int32)) = 0 then (1 : Int32) else (0 : Int32))) = 0 → (((8 : Int32) ≤ a2 → ((¬ a2 = (8 : Int32) → rX12_valueOf (mX12_throwsIf s (if (vX12_isIn s a2 (0 : Int32) (9 : Int32)) = 0 then (1 : Int32) else (0 : Int32))) a1 ∧ Q (vX12_valueOf (mX12_throwsIf s (if (vX12_isIn s a2 (0 : Int32) (9 : Int32)) = 0 then (1 : Int32) else (0 : Int32))) a1) (mX12_throwsIf s (if (vX12_isIn s a2 (0 : Int32) (9 : Int32)) = 0 then (1 : Int32) else (0 : Int32)))) ∧ (a2 = (8 : Int32) → rX12_isKnown (mX12_throwsIf s (if (vX12_isIn s a2 (0 : Int32) (9 : Int32)) = 0 then (1 : Int32) else (0 : Int32))) a1 (vX12_living (mX12_throwsIf s (if (vX12_isIn s a2 (0 : Int32) (9 : Int32)) = 0 then (1 : Int32) else (0 : Int32))) ) ∧ Q (if (vX12_isKnown (mX12_throwsIf s (if (vX12_isIn s a2 (0 : Int32) (9 : Int32)) = 0 then (1 : Int32) else (0 : Int32))) a1 (vX12_living (mX12_throwsIf s (if (vX12_isIn s a2 (0 : Int32) (9 : Int32)) = 0 then (1 : Int32) else (0 : Int32))) )) = 0 then (0 : Int32) else (1 : Int32)) (mX12_throwsIf s (if (vX12_isIn s a2 (0 : Int32) (9 : Int32)) = 0 then (1 : Int32) else (0 : Int32)))))) ∧ (¬ (8 : Int32) ≤ a2 → rX12_of (mX12_throwsIf s (if (vX12_isIn s a2 (0 : Int32) (9 : Int32)) = 0 then (1 : Int32) else (0 : Int32))) a1 a2 ∧ Q (vX12_of (mX12_throwsIf s (if (vX12_isIn s a2 (0 : Int32) (9 : Int32)) = 0 then (1 : Int32) else (0 : Int32))) a1 a2) (mX12_throwsIf s (if (vX12_isIn s a2 (0 : Int32) (9 : Int32)) = 0 then (1 : Int32) else (0 : Int32)))))) ∧ (¬ (vX12_throwsIf s (if (vX12_isIn s a2 (0 : Int32) (9 : Int32)) = 0 then (1 : Int32) else (0 : Int32))) = 0 → Q (0 : Int32) (mX12_throwsIf s (if (vX12_isIn s a2 (0 : Int32) (9 : Int32)) = 0 then (1 : Int32) else (0 : Int32)))))))) : KI MX12_deal 3 [.ref 248, .int a1, .int a2] s Q := by
  show BI MX12_deal 3 0 [(0, .ref 248), (1, .int a1), (2, .int a2)] s Q
  refine JT_aload_n (q := 0) dX12_deal_0 rfl rfl ?_
  refine JT_aload_n (q := 0) dX12_deal_1 rfl rfl ?_
  refine JT_iload_n (q := 1) dX12_deal_2 rfl rfl ?_
  refine JS_callVI (M' := MX12_isDeal) (d' := 1) (As := [.int a1]) (rest := [.ref 248]) (P := (fun zv9 wm9 => (vX12_isDeal s a1) = zv9 ∧ s = wm9)) dX12_deal_3 cvX12_262 okX12_isDeal rfl (Nat.le_of_ble_eq_true rfl) BS_248 (Nat.le_of_ble_eq_true rfl) (Nat.le_of_ble_eq_true rfl) hci_12 (Nat.le_of_ble_eq_true rfl) (Nat.le_of_ble_eq_true rfl) (pX12_isDeal  (a1)  ⟨rfl, rfl⟩) (fun zv9 wm9 hq9 => ?_)
  obtain ⟨rfl, rfl⟩ := hq9
  refine JT_if_eq (tgt := 19) dX12_deal_6 (by decide) (fun hc24 => ?_) (fun hc24 => ?_)
  · have h := h.1 hc24
    refine JT_iconst (v := 1) dX12_deal_19 ic_1 ?_
    refine JT_goto (tgt := 24) dX12_deal_20 (by decide) ?_
    obtain ⟨o10, h⟩ := h
    refine JS_callVI (M' := MX12_throwsIf) (d' := 0) (As := [.int (1 : Int32)]) (rest := []) (P := (fun zv9 wm9 => (vX12_throwsIf s (1 : Int32)) = zv9 ∧ (mX12_throwsIf s (1 : Int32)) = wm9)) dX12_deal_24 cvX12_290 okX12_throwsIf rfl (Nat.le_of_ble_eq_true rfl) BS_248 (Nat.le_of_ble_eq_true rfl) (Nat.le_of_ble_eq_true rfl) hci_12 (Nat.le_of_ble_eq_true rfl) (Nat.le_of_ble_eq_true rfl) (pX12_throwsIf  ((1 : Int32)) o10 ⟨rfl, rfl⟩) (fun zv9 wm9 hq9 => ?_)
    obtain ⟨rfl, rfl⟩ := hq9
    refine JT_if_eq (tgt := 32) dX12_deal_27 (by decide) (fun hc9 => ?_) (fun hc9 => ?_)
    · have h := h.1 hc9
      refine JT_iload_n (q := 2) dX12_deal_32 rfl rfl ?_
      refine JT_bipush (v := 8) dX12_deal_33 bp_8 ?_
      refine JT_icmp_ge (tgt := 47) dX12_deal_35 (by decide) (fun hc8 => ?_) (fun hc8 => ?_)
      · have h := h.1 hc8
        refine JT_iload_n (q := 2) dX12_deal_47 rfl rfl ?_
        refine JT_bipush (v := 8) dX12_deal_48 bp_8 ?_
        refine JT_icmp_ne (tgt := 73) dX12_deal_50 (by decide) (fun hc6 => ?_) (fun hc6 => ?_)
        · have h := h.1 hc6
          refine JT_aload_n (q := 0) dX12_deal_73 rfl rfl ?_
          refine JT_iload_n (q := 1) dX12_deal_74 rfl rfl ?_
          obtain ⟨o1, h⟩ := h
          refine JS_callVI (M' := MX12_valueOf) (d' := 2) (As := [.int a1]) (rest := []) (P := (fun zv9 wm9 => (vX12_valueOf (mX12_throwsIf s (1 : Int32)) a1) = zv9 ∧ (mX12_throwsIf s (1 : Int32)) = wm9)) dX12_deal_75 cvX12_281 okX12_valueOf rfl (Nat.le_of_ble_eq_true rfl) BS_248 (Nat.le_of_ble_eq_true rfl) (Nat.le_of_ble_eq_true rfl) hci_12 (Nat.le_of_ble_eq_true rfl) (Nat.le_of_ble_eq_true rfl) (pX12_valueOf  (a1) o1 ⟨rfl, rfl⟩) (fun zv9 wm9 hq9 => ?_)
          obtain ⟨rfl, rfl⟩ := hq9
          exact JS_iret dX12_deal_78 rfl rfl h
        · have h := h.2 hc6
          refine JT_aload_n (q := 0) dX12_deal_53 rfl rfl ?_
          refine JT_iload_n (q := 1) dX12_deal_54 rfl rfl ?_
          refine JT_aload_n (q := 0) dX12_deal_55 rfl rfl ?_
          refine JS_callVI (M' := MX12_living) (d' := 0) (As := []) (rest := [.int a1, .ref 248]) (P := (fun zv9 wm9 => (vX12_living (mX12_throwsIf s (1 : Int32)) ) = zv9 ∧ (mX12_throwsIf s (1 : Int32)) = wm9)) dX12_deal_56 cvX12_309 okX12_living rfl (Nat.le_of_ble_eq_true rfl) BS_248 (Nat.le_of_ble_eq_true rfl) (Nat.le_of_ble_eq_true rfl) hci_12 (Nat.le_of_ble_eq_true rfl) (Nat.le_of_ble_eq_true rfl) (pX12_living    ⟨rfl, rfl⟩) (fun zv9 wm9 hq9 => ?_)
          obtain ⟨rfl, rfl⟩ := hq9
          obtain ⟨o4, h⟩ := h
          refine JS_callVI (M' := MX12_isKnown) (d' := 2) (As := [.int a1, .int (vX12_living (mX12_throwsIf s (1 : Int32)) )]) (rest := []) (P := (fun zv9 wm9 => (vX12_isKnown (mX12_throwsIf s (1 : Int32)) a1 (vX12_living (mX12_throwsIf s (1 : Int32)) )) = zv9 ∧ (mX12_throwsIf s (1 : Int32)) = wm9)) dX12_deal_59 cvX12_312 okX12_isKnown rfl (Nat.le_of_ble_eq_true rfl) BS_248 (Nat.le_of_ble_eq_true rfl) (Nat.le_of_ble_eq_true rfl) hci_12 (Nat.le_of_ble_eq_true rfl) (Nat.le_of_ble_eq_true rfl) (pX12_isKnown  (a1) ((vX12_living (mX12_throwsIf s (1 : Int32)) )) o4 ⟨rfl, rfl⟩) (fun zv9 wm9 hq9 => ?_)
          obtain ⟨rfl, rfl⟩ := hq9
          have hj2 : ∀ v : Int32, v = (if (vX12_isKnown (mX12_throwsIf s (1 : Int32)) a1 (vX12_living (mX12_throwsIf s (1 : Int32)) )) = 0 then (0 : Int32) else (1 : Int32)) → JT MX12_deal 3 0 0 78 [(0, .ref 248), (1, .int a1), (2, .int a2)] [.int v] (std (mX12_throwsIf s (1 : Int32))) (KQ Q) := by
            intro v hv
            subst hv
            exact JS_iret dX12_deal_78 rfl rfl h
          refine JT_if_eq (tgt := 69) dX12_deal_62 (by decide) (fun hc3 => ?_) (fun hc3 => ?_)
          · refine JT_iconst (v := 0) dX12_deal_69 ic_0 ?_
            refine JT_goto (tgt := 78) dX12_deal_70 (by decide) ?_
            exact hj2 _ (by rw [if_pos hc3])
          · refine JT_iconst (v := 1) dX12_deal_65 ic_1 ?_
            refine JT_goto (tgt := 78) dX12_deal_66 (by decide) ?_
            exact hj2 _ (by rw [if_neg hc3])
      · have h := h.2 hc8
        refine JT_aload_n (q := 0) dX12_deal_38 rfl rfl ?_
        refine JT_iload_n (q := 1) dX12_deal_39 rfl rfl ?_
        refine JT_iload_n (q := 2) dX12_deal_40 rfl rfl ?_
        obtain ⟨o7, h⟩ := h
        refine JS_callVI (M' := MX12_of) (d' := 0) (As := [.int a1, .int a2]) (rest := []) (P := (fun zv9 wm9 => (vX12_of (mX12_throwsIf s (1 : Int32)) a1 a2) = zv9 ∧ (mX12_throwsIf s (1 : Int32)) = wm9)) dX12_deal_41 cvX12_265 okX12_of rfl (Nat.le_of_ble_eq_true rfl) BS_248 (Nat.le_of_ble_eq_true rfl) (Nat.le_of_ble_eq_true rfl) hci_12 (Nat.le_of_ble_eq_true rfl) (Nat.le_of_ble_eq_true rfl) (pX12_of  (a1) (a2) o7 ⟨rfl, rfl⟩) (fun zv9 wm9 hq9 => ?_)
        obtain ⟨rfl, rfl⟩ := hq9
        refine JT_goto (tgt := 78) dX12_deal_44 (by decide) ?_
        exact JS_iret dX12_deal_78 rfl rfl h
    · have h := h.2 hc9
      refine JT_iconst (v := 0) dX12_deal_30 ic_0 ?_
      exact JS_iret dX12_deal_31 rfl rfl h
  · have h := h.2 hc24
    refine JT_iload_n (q := 2) dX12_deal_9 rfl rfl ?_
    refine JT_iconst (v := 0) dX12_deal_10 ic_0 ?_
    refine JT_bipush (v := 9) dX12_deal_11 bp_9 ?_
    refine JS_callSI (M' := MX12_isIn) (d' := 0) (As := [.int a2, .int (0 : Int32), .int (9 : Int32)]) (rest := [.ref 248]) (P := (fun zv9 wm9 => (vX12_isIn s a2 (0 : Int32) (9 : Int32)) = zv9 ∧ s = wm9)) dX12_deal_13 cvX12_202 okX12_isIn rfl (Nat.le_of_ble_eq_true rfl) (Nat.le_of_ble_eq_true rfl) (Nat.le_of_ble_eq_true rfl) (pX12_isIn  (a2) ((0 : Int32)) ((9 : Int32))  ⟨rfl, rfl⟩) (fun zv9 wm9 hq9 => ?_)
    obtain ⟨rfl, rfl⟩ := hq9
    have hj21 : ∀ v : Int32, v = (if (vX12_isIn s a2 (0 : Int32) (9 : Int32)) = 0 then (1 : Int32) else (0 : Int32)) → JT MX12_deal 3 0 0 24 [(0, .ref 248), (1, .int a1), (2, .int a2)] [.int v, .ref 248] (std s) (KQ Q) := by
      intro v hv
      subst hv
      obtain ⟨o20, h⟩ := h
      refine JS_callVI (M' := MX12_throwsIf) (d' := 0) (As := [.int (if (vX12_isIn s a2 (0 : Int32) (9 : Int32)) = 0 then (1 : Int32) else (0 : Int32))]) (rest := []) (P := (fun zv9 wm9 => (vX12_throwsIf s (if (vX12_isIn s a2 (0 : Int32) (9 : Int32)) = 0 then (1 : Int32) else (0 : Int32))) = zv9 ∧ (mX12_throwsIf s (if (vX12_isIn s a2 (0 : Int32) (9 : Int32)) = 0 then (1 : Int32) else (0 : Int32))) = wm9)) dX12_deal_24 cvX12_290 okX12_throwsIf rfl (Nat.le_of_ble_eq_true rfl) BS_248 (Nat.le_of_ble_eq_true rfl) (Nat.le_of_ble_eq_true rfl) hci_12 (Nat.le_of_ble_eq_true rfl) (Nat.le_of_ble_eq_true rfl) (pX12_throwsIf  ((if (vX12_isIn s a2 (0 : Int32) (9 : Int32)) = 0 then (1 : Int32) else (0 : Int32))) o20 ⟨rfl, rfl⟩) (fun zv9 wm9 hq9 => ?_)
      obtain ⟨rfl, rfl⟩ := hq9
      refine JT_if_eq (tgt := 32) dX12_deal_27 (by decide) (fun hc19 => ?_) (fun hc19 => ?_)
      · have h := h.1 hc19
        refine JT_iload_n (q := 2) dX12_deal_32 rfl rfl ?_
        refine JT_bipush (v := 8) dX12_deal_33 bp_8 ?_
        refine JT_icmp_ge (tgt := 47) dX12_deal_35 (by decide) (fun hc18 => ?_) (fun hc18 => ?_)
        · have h := h.1 hc18
          refine JT_iload_n (q := 2) dX12_deal_47 rfl rfl ?_
          refine JT_bipush (v := 8) dX12_deal_48 bp_8 ?_
          refine JT_icmp_ne (tgt := 73) dX12_deal_50 (by decide) (fun hc16 => ?_) (fun hc16 => ?_)
          · have h := h.1 hc16
            refine JT_aload_n (q := 0) dX12_deal_73 rfl rfl ?_
            refine JT_iload_n (q := 1) dX12_deal_74 rfl rfl ?_
            obtain ⟨o11, h⟩ := h
            refine JS_callVI (M' := MX12_valueOf) (d' := 2) (As := [.int a1]) (rest := []) (P := (fun zv9 wm9 => (vX12_valueOf (mX12_throwsIf s (if (vX12_isIn s a2 (0 : Int32) (9 : Int32)) = 0 then (1 : Int32) else (0 : Int32))) a1) = zv9 ∧ (mX12_throwsIf s (if (vX12_isIn s a2 (0 : Int32) (9 : Int32)) = 0 then (1 : Int32) else (0 : Int32))) = wm9)) dX12_deal_75 cvX12_281 okX12_valueOf rfl (Nat.le_of_ble_eq_true rfl) BS_248 (Nat.le_of_ble_eq_true rfl) (Nat.le_of_ble_eq_true rfl) hci_12 (Nat.le_of_ble_eq_true rfl) (Nat.le_of_ble_eq_true rfl) (pX12_valueOf  (a1) o11 ⟨rfl, rfl⟩) (fun zv9 wm9 hq9 => ?_)
            obtain ⟨rfl, rfl⟩ := hq9
            exact JS_iret dX12_deal_78 rfl rfl h
          · have h := h.2 hc16
            refine JT_aload_n (q := 0) dX12_deal_53 rfl rfl ?_
            refine JT_iload_n (q := 1) dX12_deal_54 rfl rfl ?_
            refine JT_aload_n (q := 0) dX12_deal_55 rfl rfl ?_
            refine JS_callVI (M' := MX12_living) (d' := 0) (As := []) (rest := [.int a1, .ref 248]) (P := (fun zv9 wm9 => (vX12_living (mX12_throwsIf s (if (vX12_isIn s a2 (0 : Int32) (9 : Int32)) = 0 then (1 : Int32) else (0 : Int32))) ) = zv9 ∧ (mX12_throwsIf s (if (vX12_isIn s a2 (0 : Int32) (9 : Int32)) = 0 then (1 : Int32) else (0 : Int32))) = wm9)) dX12_deal_56 cvX12_309 okX12_living rfl (Nat.le_of_ble_eq_true rfl) BS_248 (Nat.le_of_ble_eq_true rfl) (Nat.le_of_ble_eq_true rfl) hci_12 (Nat.le_of_ble_eq_true rfl) (Nat.le_of_ble_eq_true rfl) (pX12_living    ⟨rfl, rfl⟩) (fun zv9 wm9 hq9 => ?_)
            obtain ⟨rfl, rfl⟩ := hq9
            obtain ⟨o14, h⟩ := h
            refine JS_callVI (M' := MX12_isKnown) (d' := 2) (As := [.int a1, .int (vX12_living (mX12_throwsIf s (if (vX12_isIn s a2 (0 : Int32) (9 : Int32)) = 0 then (1 : Int32) else (0 : Int32))) )]) (rest := []) (P := (fun zv9 wm9 => (vX12_isKnown (mX12_throwsIf s (if (vX12_isIn s a2 (0 : Int32) (9 : Int32)) = 0 then (1 : Int32) else (0 : Int32))) a1 (vX12_living (mX12_throwsIf s (if (vX12_isIn s a2 (0 : Int32) (9 : Int32)) = 0 then (1 : Int32) else (0 : Int32))) )) = zv9 ∧ (mX12_throwsIf s (if (vX12_isIn s a2 (0 : Int32) (9 : Int32)) = 0 then (1 : Int32) else (0 : Int32))) = wm9)) dX12_deal_59 cvX12_312 okX12_isKnown rfl (Nat.le_of_ble_eq_true rfl) BS_248 (Nat.le_of_ble_eq_true rfl) (Nat.le_of_ble_eq_true rfl) hci_12 (Nat.le_of_ble_eq_true rfl) (Nat.le_of_ble_eq_true rfl) (pX12_isKnown  (a1) ((vX12_living (mX12_throwsIf s (if (vX12_isIn s a2 (0 : Int32) (9 : Int32)) = 0 then (1 : Int32) else (0 : Int32))) )) o14 ⟨rfl, rfl⟩) (fun zv9 wm9 hq9 => ?_)
            obtain ⟨rfl, rfl⟩ := hq9
            have hj12 : ∀ v : Int32, v = (if (vX12_isKnown (mX12_throwsIf s (if (vX12_isIn s a2 (0 : Int32) (9 : Int32)) = 0 then (1 : Int32) else (0 : Int32))) a1 (vX12_living (mX12_throwsIf s (if (vX12_isIn s a2 (0 : Int32) (9 : Int32)) = 0 then (1 : Int32) else (0 : Int32))) )) = 0 then (0 : Int32) else (1 : Int32)) → JT MX12_deal 3 0 0 78 [(0, .ref 248), (1, .int a1), (2, .int a2)] [.int v] (std (mX12_throwsIf s (if (vX12_isIn s a2 (0 : Int32) (9 : Int32)) = 0 then (1 : Int32) else (0 : Int32)))) (KQ Q) := by
              intro v hv
              subst hv
              exact JS_iret dX12_deal_78 rfl rfl h
            refine JT_if_eq (tgt := 69) dX12_deal_62 (by decide) (fun hc13 => ?_) (fun hc13 => ?_)
            · refine JT_iconst (v := 0) dX12_deal_69 ic_0 ?_
              refine JT_goto (tgt := 78) dX12_deal_70 (by decide) ?_
              exact hj12 _ (by rw [if_pos hc13])
            · refine JT_iconst (v := 1) dX12_deal_65 ic_1 ?_
              refine JT_goto (tgt := 78) dX12_deal_66 (by decide) ?_
              exact hj12 _ (by rw [if_neg hc13])
        · have h := h.2 hc18
          refine JT_aload_n (q := 0) dX12_deal_38 rfl rfl ?_
          refine JT_iload_n (q := 1) dX12_deal_39 rfl rfl ?_
          refine JT_iload_n (q := 2) dX12_deal_40 rfl rfl ?_
          obtain ⟨o17, h⟩ := h
          refine JS_callVI (M' := MX12_of) (d' := 0) (As := [.int a1, .int a2]) (rest := []) (P := (fun zv9 wm9 => (vX12_of (mX12_throwsIf s (if (vX12_isIn s a2 (0 : Int32) (9 : Int32)) = 0 then (1 : Int32) else (0 : Int32))) a1 a2) = zv9 ∧ (mX12_throwsIf s (if (vX12_isIn s a2 (0 : Int32) (9 : Int32)) = 0 then (1 : Int32) else (0 : Int32))) = wm9)) dX12_deal_41 cvX12_265 okX12_of rfl (Nat.le_of_ble_eq_true rfl) BS_248 (Nat.le_of_ble_eq_true rfl) (Nat.le_of_ble_eq_true rfl) hci_12 (Nat.le_of_ble_eq_true rfl) (Nat.le_of_ble_eq_true rfl) (pX12_of  (a1) (a2) o17 ⟨rfl, rfl⟩) (fun zv9 wm9 hq9 => ?_)
          obtain ⟨rfl, rfl⟩ := hq9
          refine JT_goto (tgt := 78) dX12_deal_44 (by decide) ?_
          exact JS_iret dX12_deal_78 rfl rfl h
      · have h := h.2 hc19
        refine JT_iconst (v := 0) dX12_deal_30 ic_0 ?_
        exact JS_iret dX12_deal_31 rfl rfl h
    refine JT_if_ne (tgt := 23) dX12_deal_16 (by decide) (fun hc22 => ?_) (fun hc22 => ?_)
    · refine JT_iconst (v := 0) dX12_deal_23 ic_0 ?_
      exact hj21 _ (by rw [if_neg hc22])
    · refine JT_iconst (v := 1) dX12_deal_19 ic_1 ?_
      refine JT_goto (tgt := 24) dX12_deal_20 (by decide) ?_
      exact hj21 _ (by rw [if_pos hc22])
set_option maxRecDepth 1000000 in
theorem pX12_deal (a1 : Int32) (a2 : Int32) {s : SM} {Q : Int32 → SM → Prop} (hr : rX12_deal s a1 a2) (h : Q (vX12_deal s a1 a2) (mX12_deal s a1 a2)) : KI MX12_deal 3 [.ref 248, .int a1, .int a2] s Q := by
  refine bX12_deal a1 a2 ?_
  unfold rX12_deal at hr
  unfold vX12_deal mX12_deal at h
  refine ⟨fun c => ?_, fun c => ?_⟩
  · replace hr := hr.1 c
    replace h := q2p c h
    refine ⟨hr.1, ?_⟩
    replace hr := hr.2
    refine ⟨fun c => ?_, fun c => ?_⟩
    · replace hr := hr c
      replace h := qlp c h
      refine ⟨fun c => ?_, fun c => ?_⟩
      · replace hr := hr.1 c
        replace h := qlp c h
        refine ⟨fun c => ?_, fun c => ?_⟩
        · replace hr := hr.1 c
          replace h := qln c h
          refine ⟨hr, ?_⟩
          first | exact h | contradiction
        · replace hr := hr.2 c
          replace h := qlp c h
          refine ⟨hr, ?_⟩
          first | exact h | contradiction
      · replace hr := hr.2 c
        replace h := qln c h
        refine ⟨hr, ?_⟩
        first | exact h | contradiction
    · replace h := qln c h
      first | exact h | contradiction
  · replace hr := hr.2 c
    replace h := q2n c h
    refine ⟨hr.1, ?_⟩
    replace hr := hr.2
    refine ⟨fun c => ?_, fun c => ?_⟩
    · replace hr := hr c
      replace h := qlp c h
      refine ⟨fun c => ?_, fun c => ?_⟩
      · replace hr := hr.1 c
        replace h := qlp c h
        refine ⟨fun c => ?_, fun c => ?_⟩
        · replace hr := hr.1 c
          replace h := qln c h
          refine ⟨hr, ?_⟩
          first | exact h | contradiction
        · replace hr := hr.2 c
          replace h := qlp c h
          refine ⟨hr, ?_⟩
          first | exact h | contradiction
      · replace hr := hr.2 c
        replace h := qln c h
        refine ⟨hr, ?_⟩
        first | exact h | contradiction
    · replace h := qln c h
      first | exact h | contradiction
set_option maxRecDepth 1000000 in
theorem bX12_freesOf_15 (a1 : Int32) (a2 : Int32) (a3 : Int32) (a4 : Int32) {s : SM} {Q : Int32 → SM → Prop} (h : ((a1 ≤ a4 → Q a3 s) ∧ (¬ a1 ≤ a4 → vp_in a4 5 ∧ rX12_of s (gI s 256 (a4).toNatClampNeg) (2 : Int32) ∧ (((vX12_of s (gI s 256 (a4).toNatClampNeg) (2 : Int32)) = a2 → BI MX12_freesOf 3 43 [(0, .ref 248), (1, .int a1), (2, .int a2), (3, .int a3), (4, .int a4), (5, .int (0 : Int32))] s Q) ∧ (¬ (vX12_of s (gI s 256 (a4).toNatClampNeg) (2 : Int32)) = a2 → BI MX12_freesOf 3 15 [(0, .ref 248), (1, .int a1), (2, .int a2), (3, .int a3), (4, .int (a4 + 1))] s Q))))) : BI MX12_freesOf 3 15 [(0, .ref 248), (1, .int a1), (2, .int a2), (3, .int a3), (4, .int a4)] s Q := by
  refine JT_iload (q := 4) dX12_freesOf_15 rfl ?_
  refine JT_iload_n (q := 1) dX12_freesOf_17 rfl rfl ?_
  refine JT_icmp_ge (tgt := 114) dX12_freesOf_18 (by decide) (fun hc4 => ?_) (fun hc4 => ?_)
  · have h := h.1 hc4
    refine JT_iload_n (q := 3) dX12_freesOf_114 rfl rfl ?_
    exact JS_iret dX12_freesOf_115 rfl rfl h
  · have h := h.2 hc4
    refine JT_aload_n (q := 0) dX12_freesOf_21 rfl rfl ?_
    refine JT_aload_n (q := 0) dX12_freesOf_22 rfl rfl ?_
    refine JS_getR (x := 256) dX12_freesOf_23 flX12_53 BS_248 (Nat.le_of_ble_eq_true rfl) (Nat.le_of_ble_eq_true rfl) (Or.inr ⟨_, ct_12_26⟩) RF_248_26 ?_
    refine JT_iload (q := 4) dX12_freesOf_26 rfl ?_
    obtain ⟨o1, h⟩ := h
    refine JS_iald dX12_freesOf_28 BS_256 (Nat.le_of_ble_eq_true rfl) (Nat.le_of_ble_eq_true rfl) o1 ?_
    refine JT_iconst (v := 2) dX12_freesOf_29 ic_2 ?_
    obtain ⟨o3, h⟩ := h
    refine JS_callVI (M' := MX12_of) (d' := 0) (As := [.int (gI s 256 (a4).toNatClampNeg), .int (2 : Int32)]) (rest := []) (P := (fun zv9 wm9 => (vX12_of s (gI s 256 (a4).toNatClampNeg) (2 : Int32)) = zv9 ∧ s = wm9)) dX12_freesOf_30 cvX12_265 okX12_of rfl (Nat.le_of_ble_eq_true rfl) BS_248 (Nat.le_of_ble_eq_true rfl) (Nat.le_of_ble_eq_true rfl) hci_12 (Nat.le_of_ble_eq_true rfl) (Nat.le_of_ble_eq_true rfl) (pX12_of  ((gI s 256 (a4).toNatClampNeg)) ((2 : Int32)) o3 ⟨rfl, rfl⟩) (fun zv9 wm9 hq9 => ?_)
    obtain ⟨rfl, rfl⟩ := hq9
    refine JT_iload_n (q := 2) dX12_freesOf_33 rfl rfl ?_
    refine JT_icmp_eq (tgt := 40) dX12_freesOf_34 (by decide) (fun hc2 => ?_) (fun hc2 => ?_)
    · have h := h.1 hc2
      refine JT_iconst (v := 0) dX12_freesOf_40 ic_0 ?_
      refine JT_istore (lv' := [(5, .int (0 : Int32)), (0, .ref 248), (1, .int a1), (2, .int a2), (3, .int a3), (4, .int a4)]) dX12_freesOf_41 (Nat.le_of_ble_eq_true rfl) rfl ?_
      exact JT_sub [1, 2, 3, 4, 5, 0] rfl h
    · have h := h.2 hc2
      refine JT_goto (tgt := 108) dX12_freesOf_37 (by decide) ?_
      refine JT_iinc (q := 4) (v := (a4 + 1)) (lv' := [(4, .int (a4 + 1)), (0, .ref 248), (1, .int a1), (2, .int a2), (3, .int a3)]) dX12_freesOf_108 rfl (by rfl) (Nat.le_of_ble_eq_true rfl) rfl ?_
      refine JT_goto (tgt := 15) dX12_freesOf_111 (by decide) ?_
      exact JT_sub [1, 2, 3, 4, 0] rfl h
set_option maxRecDepth 1000000 in
theorem bX12_freesOf_43 (a1 : Int32) (a2 : Int32) (a3 : Int32) (a4 : Int32) (a5 : Int32) {s : SM} {Q : Int32 → SM → Prop} (h : (((2 : Int32) ≤ a5 → BI MX12_freesOf 3 15 [(0, .ref 248), (1, .int a1), (2, .int a2), (3, .int a3), (4, .int (a4 + 1))] s Q) ∧ (¬ (2 : Int32) ≤ a5 → vp_in a4 5 ∧ rX12_of s (gI s 256 (a4).toNatClampNeg) ((6 : Int32) + a5) ∧ (((vX12_isLiving s (vX12_of s (gI s 256 (a4).toNatClampNeg) ((6 : Int32) + a5))) = 0 → BI MX12_freesOf 3 43 [(0, .ref 248), (1, .int a1), (2, .int a2), (3, .int (a3 + (0 : Int32))), (4, .int a4), (5, .int (a5 + 1))] s Q) ∧ (¬ (vX12_isLiving s (vX12_of s (gI s 256 (a4).toNatClampNeg) ((6 : Int32) + a5))) = 0 → vp_in a4 5 ∧ rX12_sizeOf s (gI s 256 (a4).toNatClampNeg) ∧ vp_in a4 5 ∧ rX12_dotOf s (gI s 256 (a4).toNatClampNeg) ∧ BI MX12_freesOf 3 43 [(0, .ref 248), (1, .int a1), (2, .int a2), (3, .int (a3 + ((vX12_sizeOf s (gI s 256 (a4).toNatClampNeg)) - (vX12_dotOf s (gI s 256 (a4).toNatClampNeg))))), (4, .int a4), (5, .int (a5 + 1))] s Q))))) : BI MX12_freesOf 3 43 [(0, .ref 248), (1, .int a1), (2, .int a2), (3, .int a3), (4, .int a4), (5, .int a5)] s Q := by
  refine JT_iload (q := 5) dX12_freesOf_43 rfl ?_
  refine JT_iconst (v := 2) dX12_freesOf_45 ic_2 ?_
  refine JT_icmp_ge (tgt := 108) dX12_freesOf_46 (by decide) (fun hc9 => ?_) (fun hc9 => ?_)
  · have h := h.1 hc9
    refine JT_iinc (q := 4) (v := (a4 + 1)) (lv' := [(4, .int (a4 + 1)), (0, .ref 248), (1, .int a1), (2, .int a2), (3, .int a3), (5, .int a5)]) dX12_freesOf_108 rfl (by rfl) (Nat.le_of_ble_eq_true rfl) rfl ?_
    refine JT_goto (tgt := 15) dX12_freesOf_111 (by decide) ?_
    exact JT_sub [1, 2, 3, 4, 0] rfl h
  · have h := h.2 hc9
    refine JT_iload_n (q := 3) dX12_freesOf_49 rfl rfl ?_
    refine JT_aload_n (q := 0) dX12_freesOf_50 rfl rfl ?_
    refine JT_aload_n (q := 0) dX12_freesOf_51 rfl rfl ?_
    refine JT_aload_n (q := 0) dX12_freesOf_52 rfl rfl ?_
    refine JS_getR (x := 256) dX12_freesOf_53 flX12_53 BS_248 (Nat.le_of_ble_eq_true rfl) (Nat.le_of_ble_eq_true rfl) (Or.inr ⟨_, ct_12_26⟩) RF_248_26 ?_
    refine JT_iload (q := 4) dX12_freesOf_56 rfl ?_
    obtain ⟨o1, h⟩ := h
    refine JS_iald dX12_freesOf_58 BS_256 (Nat.le_of_ble_eq_true rfl) (Nat.le_of_ble_eq_true rfl) o1 ?_
    refine JT_bipush (v := 6) dX12_freesOf_59 bp_6 ?_
    refine JT_iload (q := 5) dX12_freesOf_61 rfl ?_
    refine JT_iadd dX12_freesOf_63 ?_
    obtain ⟨o8, h⟩ := h
    refine JS_callVI (M' := MX12_of) (d' := 0) (As := [.int (gI s 256 (a4).toNatClampNeg), .int ((6 : Int32) + a5)]) (rest := [.ref 248, .int a3]) (P := (fun zv9 wm9 => (vX12_of s (gI s 256 (a4).toNatClampNeg) ((6 : Int32) + a5)) = zv9 ∧ s = wm9)) dX12_freesOf_64 cvX12_265 okX12_of rfl (Nat.le_of_ble_eq_true rfl) BS_248 (Nat.le_of_ble_eq_true rfl) (Nat.le_of_ble_eq_true rfl) hci_12 (Nat.le_of_ble_eq_true rfl) (Nat.le_of_ble_eq_true rfl) (pX12_of  ((gI s 256 (a4).toNatClampNeg)) (((6 : Int32) + a5)) o8 ⟨rfl, rfl⟩) (fun zv9 wm9 hq9 => ?_)
    obtain ⟨rfl, rfl⟩ := hq9
    refine JS_callVI (M' := MX12_isLiving) (d' := 1) (As := [.int (vX12_of s (gI s 256 (a4).toNatClampNeg) ((6 : Int32) + a5))]) (rest := [.int a3]) (P := (fun zv9 wm9 => (vX12_isLiving s (vX12_of s (gI s 256 (a4).toNatClampNeg) ((6 : Int32) + a5))) = zv9 ∧ s = wm9)) dX12_freesOf_67 cvX12_294 okX12_isLiving rfl (Nat.le_of_ble_eq_true rfl) BS_248 (Nat.le_of_ble_eq_true rfl) (Nat.le_of_ble_eq_true rfl) hci_12 (Nat.le_of_ble_eq_true rfl) (Nat.le_of_ble_eq_true rfl) (pX12_isLiving  ((vX12_of s (gI s 256 (a4).toNatClampNeg) ((6 : Int32) + a5)))  ⟨rfl, rfl⟩) (fun zv9 wm9 hq9 => ?_)
    obtain ⟨rfl, rfl⟩ := hq9
    refine JT_if_eq (tgt := 99) dX12_freesOf_70 (by decide) (fun hc6 => ?_) (fun hc6 => ?_)
    · have h := h.1 hc6
      refine JT_iconst (v := 0) dX12_freesOf_99 ic_0 ?_
      refine JT_iadd dX12_freesOf_100 ?_
      refine JT_istore_n (lv' := [(3, .int (a3 + (0 : Int32))), (0, .ref 248), (1, .int a1), (2, .int a2), (4, .int a4), (5, .int a5)]) dX12_freesOf_101 rfl (Nat.le_of_ble_eq_true rfl) rfl ?_
      refine JT_iinc (q := 5) (v := (a5 + 1)) (lv' := [(5, .int (a5 + 1)), (3, .int (a3 + (0 : Int32))), (0, .ref 248), (1, .int a1), (2, .int a2), (4, .int a4)]) dX12_freesOf_102 rfl (by rfl) (Nat.le_of_ble_eq_true rfl) rfl ?_
      refine JT_goto (tgt := 43) dX12_freesOf_105 (by decide) ?_
      exact JT_sub [2, 3, 4, 1, 5, 0] rfl h
    · have h := h.2 hc6
      refine JT_aload_n (q := 0) dX12_freesOf_73 rfl rfl ?_
      refine JT_aload_n (q := 0) dX12_freesOf_74 rfl rfl ?_
      refine JS_getR (x := 256) dX12_freesOf_75 flX12_53 BS_248 (Nat.le_of_ble_eq_true rfl) (Nat.le_of_ble_eq_true rfl) (Or.inr ⟨_, ct_12_26⟩) RF_248_26 ?_
      refine JT_iload (q := 4) dX12_freesOf_78 rfl ?_
      obtain ⟨o2, h⟩ := h
      refine JS_iald dX12_freesOf_80 BS_256 (Nat.le_of_ble_eq_true rfl) (Nat.le_of_ble_eq_true rfl) o2 ?_
      obtain ⟨o5, h⟩ := h
      refine JS_callVI (M' := MX12_sizeOf) (d' := 1) (As := [.int (gI s 256 (a4).toNatClampNeg)]) (rest := [.int a3]) (P := (fun zv9 wm9 => (vX12_sizeOf s (gI s 256 (a4).toNatClampNeg)) = zv9 ∧ s = wm9)) dX12_freesOf_81 cvX12_268 okX12_sizeOf rfl (Nat.le_of_ble_eq_true rfl) BS_248 (Nat.le_of_ble_eq_true rfl) (Nat.le_of_ble_eq_true rfl) hci_12 (Nat.le_of_ble_eq_true rfl) (Nat.le_of_ble_eq_true rfl) (pX12_sizeOf  ((gI s 256 (a4).toNatClampNeg)) o5 ⟨rfl, rfl⟩) (fun zv9 wm9 hq9 => ?_)
      obtain ⟨rfl, rfl⟩ := hq9
      refine JT_aload_n (q := 0) dX12_freesOf_84 rfl rfl ?_
      refine JT_aload_n (q := 0) dX12_freesOf_85 rfl rfl ?_
      refine JS_getR (x := 256) dX12_freesOf_86 flX12_53 BS_248 (Nat.le_of_ble_eq_true rfl) (Nat.le_of_ble_eq_true rfl) (Or.inr ⟨_, ct_12_26⟩) RF_248_26 ?_
      refine JT_iload (q := 4) dX12_freesOf_89 rfl ?_
      obtain ⟨o3, h⟩ := h
      refine JS_iald dX12_freesOf_91 BS_256 (Nat.le_of_ble_eq_true rfl) (Nat.le_of_ble_eq_true rfl) o3 ?_
      obtain ⟨o4, h⟩ := h
      refine JS_callVI (M' := MX12_dotOf) (d' := 2) (As := [.int (gI s 256 (a4).toNatClampNeg)]) (rest := [.int (vX12_sizeOf s (gI s 256 (a4).toNatClampNeg)), .int a3]) (P := (fun zv9 wm9 => (vX12_dotOf s (gI s 256 (a4).toNatClampNeg)) = zv9 ∧ s = wm9)) dX12_freesOf_92 cvX12_350 okX12_dotOf rfl (Nat.le_of_ble_eq_true rfl) BS_248 (Nat.le_of_ble_eq_true rfl) (Nat.le_of_ble_eq_true rfl) hci_12 (Nat.le_of_ble_eq_true rfl) (Nat.le_of_ble_eq_true rfl) (pX12_dotOf  ((gI s 256 (a4).toNatClampNeg)) o4 ⟨rfl, rfl⟩) (fun zv9 wm9 hq9 => ?_)
      obtain ⟨rfl, rfl⟩ := hq9
      refine JT_isub dX12_freesOf_95 ?_
      refine JT_goto (tgt := 100) dX12_freesOf_96 (by decide) ?_
      refine JT_iadd dX12_freesOf_100 ?_
      refine JT_istore_n (lv' := [(3, .int (a3 + ((vX12_sizeOf s (gI s 256 (a4).toNatClampNeg)) - (vX12_dotOf s (gI s 256 (a4).toNatClampNeg))))), (0, .ref 248), (1, .int a1), (2, .int a2), (4, .int a4), (5, .int a5)]) dX12_freesOf_101 rfl (Nat.le_of_ble_eq_true rfl) rfl ?_
      refine JT_iinc (q := 5) (v := (a5 + 1)) (lv' := [(5, .int (a5 + 1)), (3, .int (a3 + ((vX12_sizeOf s (gI s 256 (a4).toNatClampNeg)) - (vX12_dotOf s (gI s 256 (a4).toNatClampNeg))))), (0, .ref 248), (1, .int a1), (2, .int a2), (4, .int a4)]) dX12_freesOf_102 rfl (by rfl) (Nat.le_of_ble_eq_true rfl) rfl ?_
      refine JT_goto (tgt := 43) dX12_freesOf_105 (by decide) ?_
      exact JT_sub [2, 3, 4, 1, 5, 0] rfl h
set_option maxRecDepth 1000000 in
theorem bX12_freesOf (a1 : Int32) {s : SM} {Q : Int32 → SM → Prop} (h : rX12_leastOf s 256 5 a1 ∧ BI MX12_freesOf 3 15 [(0, .ref 248), (1, .int a1), (2, .int (vX12_leastOf s 256 5 a1)), (3, .int (0 : Int32)), (4, .int (0 : Int32))] s Q) : KI MX12_freesOf 3 [.ref 248, .int a1] s Q := by
  show BI MX12_freesOf 3 0 [(0, .ref 248), (1, .int a1)] s Q
  refine JT_aload_n (q := 0) dX12_freesOf_0 rfl rfl ?_
  refine JT_aload_n (q := 0) dX12_freesOf_1 rfl rfl ?_
  refine JS_getR (x := 256) dX12_freesOf_2 flX12_53 BS_248 (Nat.le_of_ble_eq_true rfl) (Nat.le_of_ble_eq_true rfl) (Or.inr ⟨_, ct_12_26⟩) RF_248_26 ?_
  refine JT_iload_n (q := 1) dX12_freesOf_5 rfl rfl ?_
  obtain ⟨o1, h⟩ := h
  refine JS_callVI (M' := MX12_leastOf) (d' := 1) (As := [.ref 256, .int a1]) (rest := []) (P := (fun zv9 wm9 => (vX12_leastOf s 256 5 a1) = zv9 ∧ s = wm9)) dX12_freesOf_6 cvX12_346 okX12_leastOf rfl (Nat.le_of_ble_eq_true rfl) BS_248 (Nat.le_of_ble_eq_true rfl) (Nat.le_of_ble_eq_true rfl) hci_12 (Nat.le_of_ble_eq_true rfl) (Nat.le_of_ble_eq_true rfl) (pX12_leastOf ⟨BS_256, by decide, by decide⟩ (a1) o1 ⟨rfl, rfl⟩) (fun zv9 wm9 hq9 => ?_)
  obtain ⟨rfl, rfl⟩ := hq9
  refine JT_istore_n (lv' := [(2, .int (vX12_leastOf s 256 5 a1)), (0, .ref 248), (1, .int a1)]) dX12_freesOf_9 rfl (Nat.le_of_ble_eq_true rfl) rfl ?_
  refine JT_iconst (v := 0) dX12_freesOf_10 ic_0 ?_
  refine JT_istore_n (lv' := [(3, .int (0 : Int32)), (2, .int (vX12_leastOf s 256 5 a1)), (0, .ref 248), (1, .int a1)]) dX12_freesOf_11 rfl (Nat.le_of_ble_eq_true rfl) rfl ?_
  refine JT_iconst (v := 0) dX12_freesOf_12 ic_0 ?_
  refine JT_istore (lv' := [(4, .int (0 : Int32)), (3, .int (0 : Int32)), (2, .int (vX12_leastOf s 256 5 a1)), (0, .ref 248), (1, .int a1)]) dX12_freesOf_13 (Nat.le_of_ble_eq_true rfl) rfl ?_
  exact JT_sub [3, 4, 2, 1, 0] rfl h
set_option maxRecDepth 1000000 in
theorem gX12_freesOf  : ∀ n : Nat, (∀ (a1 : Int32) (a2 : Int32) (a3 : Int32) (a4 : Int32) (s : SM) (Q : Int32 → SM → Prop), ((qX12_freesOf n).1 s a1 a2 a3 a4) → Q ((lX12_freesOf n).1 s a1 a2 a3 a4) s → BI MX12_freesOf 3 15 [(0, .ref 248), (1, .int a1), (2, .int a2), (3, .int a3), (4, .int a4)] s Q) ∧ (∀ (a1 : Int32) (a2 : Int32) (a3 : Int32) (a4 : Int32) (a5 : Int32) (s : SM) (Q : Int32 → SM → Prop), ((qX12_freesOf n).2 s a1 a2 a3 a4 a5) → Q ((lX12_freesOf n).2 s a1 a2 a3 a4 a5) s → BI MX12_freesOf 3 43 [(0, .ref 248), (1, .int a1), (2, .int a2), (3, .int a3), (4, .int a4), (5, .int a5)] s Q) := by
  intro n
  induction n with
  | zero => exact ⟨fun _ _ _ _ _ _ hq _ => absurd hq id, fun _ _ _ _ _ _ _ hq _ => absurd hq id⟩
  | succ n ih =>
    refine ⟨?_, ?_⟩
    · intro a1 a2 a3 a4 s Q hr h
      replace hr : uX12_freesOf_15 (qX12_freesOf n) s a1 a2 a3 a4 := hr
      replace h : Q (tX12_freesOf_15 (lX12_freesOf n) s a1 a2 a3 a4) s := h
      unfold uX12_freesOf_15 at hr
      unfold tX12_freesOf_15 at h
      refine bX12_freesOf_15 a1 a2 a3 a4 ?_
      refine ⟨fun c => ?_, fun c => ?_⟩
      · replace h := qlp c h
        first | exact h | contradiction
      · replace hr := hr c
        replace h := qln c h
        refine ⟨hr.1, ?_⟩
        replace hr := hr.2
        refine ⟨hr.1, ?_⟩
        replace hr := hr.2
        refine ⟨fun c => ?_, fun c => ?_⟩
        · replace hr := hr.1 c
          replace h := qlp c h
          first | exact ih.2 a1 a2 a3 a4 (0 : Int32) _ Q hr h | contradiction
        · replace hr := hr.2 c
          replace h := qln c h
          first | exact ih.1 a1 a2 a3 (a4 + 1) _ Q hr h | contradiction
    · intro a1 a2 a3 a4 a5 s Q hr h
      replace hr : uX12_freesOf_43 (qX12_freesOf n) s a1 a2 a3 a4 a5 := hr
      replace h : Q (tX12_freesOf_43 (lX12_freesOf n) s a1 a2 a3 a4 a5) s := h
      unfold uX12_freesOf_43 at hr
      unfold tX12_freesOf_43 at h
      refine bX12_freesOf_43 a1 a2 a3 a4 a5 ?_
      refine ⟨fun c => ?_, fun c => ?_⟩
      · replace hr := hr.1 c
        replace h := qlp c h
        first | exact ih.1 a1 a2 a3 (a4 + 1) _ Q hr h | contradiction
      · replace hr := hr.2 c
        replace h := qln c h
        refine ⟨hr.1, ?_⟩
        replace hr := hr.2
        refine ⟨hr.1, ?_⟩
        replace hr := hr.2
        refine ⟨fun c => ?_, fun c => ?_⟩
        · replace hr := hr.1 c
          replace h := qlp c h
          first | exact ih.2 a1 a2 (a3 + (0 : Int32)) a4 (a5 + 1) _ Q hr h | contradiction
        · replace hr := hr.2 c
          replace h := qln c h
          refine ⟨hr.1, ?_⟩
          replace hr := hr.2
          refine ⟨hr.1, ?_⟩
          replace hr := hr.2
          refine ⟨hr.1, ?_⟩
          replace hr := hr.2
          refine ⟨hr.1, ?_⟩
          replace hr := hr.2
          first | exact ih.2 a1 a2 (a3 + ((vX12_sizeOf s (gI s 256 (a4).toNatClampNeg)) - (vX12_dotOf s (gI s 256 (a4).toNatClampNeg)))) a4 (a5 + 1) _ Q hr h | contradiction
set_option maxRecDepth 1000000 in
theorem pX12_freesOf (a1 : Int32) {s : SM} {Q : Int32 → SM → Prop} (hr : rX12_freesOf s a1) (h : Q (vX12_freesOf s a1) s) : KI MX12_freesOf 3 [.ref 248, .int a1] s Q := by
  replace h : Q (fX12_freesOf s a1) s := h
  unfold rX12_freesOf at hr
  unfold fX12_freesOf at h
  refine bX12_freesOf a1 ?_
  refine ⟨hr.1, ?_⟩
  replace hr := hr.2
  first | exact (gX12_freesOf  FU).1 a1 (vX12_leastOf s 256 5 a1) (0 : Int32) (0 : Int32) _ Q hr h | contradiction
set_option maxRecDepth 1000000 in
theorem bX12_fullest_18 (a1 : Int32) (a2 : Int32) (a3 : Int32) {s : SM} {Q : Int32 → SM → Prop} (h : ((a2 = 0 → Q (-1 : Int32) s) ∧ (¬ a2 = 0 → BI MX12_fullest 3 28 [(0, .ref 248), (1, .int a1), (2, .int a2), (3, .int a3), (4, .int (-1 : Int32)), (5, .int (0 : Int32))] s Q))) : BI MX12_fullest 3 18 [(0, .ref 248), (1, .int a1), (2, .int a2), (3, .int a3)] s Q := by
  refine JT_iload_n (q := 2) dX12_fullest_18 rfl rfl ?_
  refine JT_if_eq (tgt := 101) dX12_fullest_19 (by decide) (fun hc1 => ?_) (fun hc1 => ?_)
  · have h := h.1 hc1
    refine JT_iconst (v := -1) dX12_fullest_101 ic_m1 ?_
    exact JS_iret dX12_fullest_102 rfl rfl h
  · have h := h.2 hc1
    refine JT_iconst (v := -1) dX12_fullest_22 ic_m1 ?_
    refine JT_istore (lv' := [(4, .int (-1 : Int32)), (0, .ref 248), (1, .int a1), (2, .int a2), (3, .int a3)]) dX12_fullest_23 (Nat.le_of_ble_eq_true rfl) rfl ?_
    refine JT_iconst (v := 0) dX12_fullest_25 ic_0 ?_
    refine JT_istore (lv' := [(5, .int (0 : Int32)), (4, .int (-1 : Int32)), (0, .ref 248), (1, .int a1), (2, .int a2), (3, .int a3)]) dX12_fullest_26 (Nat.le_of_ble_eq_true rfl) rfl ?_
    exact JT_sub [2, 3, 4, 5, 1, 0] rfl h
set_option maxRecDepth 1000000 in
theorem bX12_fullest_28 (a1 : Int32) (a2 : Int32) (a3 : Int32) (a4 : Int32) (a5 : Int32) {s : SM} {Q : Int32 → SM → Prop} (h : (((gI s 250 ((0 : Int32)).toNatClampNeg) ≤ a5 → ((¬ a3 = a1 → BI MX12_fullest 3 18 [(0, .ref 248), (1, .int a1), (2, .int (a2 &&& (((1 : Int32) <<< (a4 &&& 31)) ^^^ (-1 : Int32)))), (3, .int (a3 + 1))] s Q) ∧ (a3 = a1 → Q a4 s))) ∧ (¬ (gI s 250 ((0 : Int32)).toNatClampNeg) ≤ a5 → (((vX12_has s a2 a5) = 0 → BI MX12_fullest 3 28 [(0, .ref 248), (1, .int a1), (2, .int a2), (3, .int a3), (4, .int a4), (5, .int (a5 + 1))] s Q) ∧ (¬ (vX12_has s a2 a5) = 0 → ((a4 < 0 → BI MX12_fullest 3 28 [(0, .ref 248), (1, .int a1), (2, .int a2), (3, .int a3), (4, .int a5), (5, .int (a5 + 1))] s Q) ∧ (¬ a4 < 0 → rX12_leftOf s a5 ∧ rX12_leftOf s a4 ∧ (((vX12_leftOf s a4) ≤ (vX12_leftOf s a5) → BI MX12_fullest 3 28 [(0, .ref 248), (1, .int a1), (2, .int a2), (3, .int a3), (4, .int a4), (5, .int (a5 + 1))] s Q) ∧ (¬ (vX12_leftOf s a4) ≤ (vX12_leftOf s a5) → BI MX12_fullest 3 28 [(0, .ref 248), (1, .int a1), (2, .int a2), (3, .int a3), (4, .int a5), (5, .int (a5 + 1))] s Q))))))))) : BI MX12_fullest 3 28 [(0, .ref 248), (1, .int a1), (2, .int a2), (3, .int a3), (4, .int a4), (5, .int a5)] s Q := by
  refine JT_iload (q := 5) dX12_fullest_28 rfl ?_
  refine JT_aload_n (q := 0) dX12_fullest_30 rfl rfl ?_
  refine JS_getR (x := 250) dX12_fullest_31 flX12_33 BS_248 (Nat.le_of_ble_eq_true rfl) (Nat.le_of_ble_eq_true rfl) (Or.inr ⟨_, ct_12_6⟩) RF_248_6 ?_
  refine JT_iconst (v := 0) dX12_fullest_34 ic_0 ?_
  refine JS_iald dX12_fullest_35 BS_250 (Nat.le_of_ble_eq_true rfl) (Nat.le_of_ble_eq_true rfl) (by unfold vp_in; decide) ?_
  refine JT_icmp_ge (tgt := 78) dX12_fullest_36 (by decide) (fun hc8 => ?_) (fun hc8 => ?_)
  · have h := h.1 hc8
    refine JT_iload_n (q := 3) dX12_fullest_78 rfl rfl ?_
    refine JT_iload_n (q := 1) dX12_fullest_79 rfl rfl ?_
    refine JT_icmp_ne (tgt := 86) dX12_fullest_80 (by decide) (fun hc1 => ?_) (fun hc1 => ?_)
    · have h := h.1 hc1
      refine JT_iload_n (q := 2) dX12_fullest_86 rfl rfl ?_
      refine JT_iconst (v := 1) dX12_fullest_87 ic_1 ?_
      refine JT_iload (q := 4) dX12_fullest_88 rfl ?_
      refine JT_ishl dX12_fullest_90 ?_
      refine JT_iconst (v := -1) dX12_fullest_91 ic_m1 ?_
      refine JT_ixor dX12_fullest_92 ?_
      refine JT_iand dX12_fullest_93 ?_
      refine JT_istore_n (lv' := [(2, .int (a2 &&& (((1 : Int32) <<< (a4 &&& 31)) ^^^ (-1 : Int32)))), (0, .ref 248), (1, .int a1), (3, .int a3), (4, .int a4), (5, .int a5)]) dX12_fullest_94 rfl (Nat.le_of_ble_eq_true rfl) rfl ?_
      refine JT_iinc (q := 3) (v := (a3 + 1)) (lv' := [(3, .int (a3 + 1)), (2, .int (a2 &&& (((1 : Int32) <<< (a4 &&& 31)) ^^^ (-1 : Int32)))), (0, .ref 248), (1, .int a1), (4, .int a4), (5, .int a5)]) dX12_fullest_95 rfl (by rfl) (Nat.le_of_ble_eq_true rfl) rfl ?_
      refine JT_goto (tgt := 18) dX12_fullest_98 (by decide) ?_
      exact JT_sub [2, 3, 1, 0] rfl h
    · have h := h.2 hc1
      refine JT_iload (q := 4) dX12_fullest_83 rfl ?_
      exact JS_iret dX12_fullest_85 rfl rfl h
  · have h := h.2 hc8
    refine JT_iload_n (q := 2) dX12_fullest_39 rfl rfl ?_
    refine JT_iload (q := 5) dX12_fullest_40 rfl ?_
    refine JS_callSI (M' := MX12_has) (d' := 0) (As := [.int a2, .int a5]) (rest := []) (P := (fun zv9 wm9 => (vX12_has s a2 a5) = zv9 ∧ s = wm9)) dX12_fullest_42 cvX12_259 okX12_has rfl (Nat.le_of_ble_eq_true rfl) (Nat.le_of_ble_eq_true rfl) (Nat.le_of_ble_eq_true rfl) (pX12_has  (a2) (a5)  ⟨rfl, rfl⟩) (fun zv9 wm9 hq9 => ?_)
    obtain ⟨rfl, rfl⟩ := hq9
    refine JT_if_eq (tgt := 72) dX12_fullest_45 (by decide) (fun hc6 => ?_) (fun hc6 => ?_)
    · have h := h.1 hc6
      refine JT_iinc (q := 5) (v := (a5 + 1)) (lv' := [(5, .int (a5 + 1)), (0, .ref 248), (1, .int a1), (2, .int a2), (3, .int a3), (4, .int a4)]) dX12_fullest_72 rfl (by rfl) (Nat.le_of_ble_eq_true rfl) rfl ?_
      refine JT_goto (tgt := 28) dX12_fullest_75 (by decide) ?_
      exact JT_sub [1, 2, 3, 4, 5, 0] rfl h
    · have h := h.2 hc6
      refine JT_iload (q := 4) dX12_fullest_48 rfl ?_
      refine JT_if_lt (tgt := 68) dX12_fullest_50 (by decide) (fun hc5 => ?_) (fun hc5 => ?_)
      · have h := h.1 hc5
        refine JT_iload (q := 5) dX12_fullest_68 rfl ?_
        refine JT_istore (lv' := [(4, .int a5), (0, .ref 248), (1, .int a1), (2, .int a2), (3, .int a3), (5, .int a5)]) dX12_fullest_70 (Nat.le_of_ble_eq_true rfl) rfl ?_
        refine JT_iinc (q := 5) (v := (a5 + 1)) (lv' := [(5, .int (a5 + 1)), (4, .int a5), (0, .ref 248), (1, .int a1), (2, .int a2), (3, .int a3)]) dX12_fullest_72 rfl (by rfl) (Nat.le_of_ble_eq_true rfl) rfl ?_
        refine JT_goto (tgt := 28) dX12_fullest_75 (by decide) ?_
        exact JT_sub [2, 3, 4, 5, 1, 0] rfl h
      · have h := h.2 hc5
        refine JT_aload_n (q := 0) dX12_fullest_53 rfl rfl ?_
        refine JT_iload (q := 5) dX12_fullest_54 rfl ?_
        obtain ⟨o4, h⟩ := h
        refine JS_callVI (M' := MX12_leftOf) (d' := 2) (As := [.int a5]) (rest := []) (P := (fun zv9 wm9 => (vX12_leftOf s a5) = zv9 ∧ s = wm9)) dX12_fullest_56 cvX12_297 okX12_leftOf rfl (Nat.le_of_ble_eq_true rfl) BS_248 (Nat.le_of_ble_eq_true rfl) (Nat.le_of_ble_eq_true rfl) hci_12 (Nat.le_of_ble_eq_true rfl) (Nat.le_of_ble_eq_true rfl) (pX12_leftOf  (a5) o4 ⟨rfl, rfl⟩) (fun zv9 wm9 hq9 => ?_)
        obtain ⟨rfl, rfl⟩ := hq9
        refine JT_aload_n (q := 0) dX12_fullest_59 rfl rfl ?_
        refine JT_iload (q := 4) dX12_fullest_60 rfl ?_
        obtain ⟨o3, h⟩ := h
        refine JS_callVI (M' := MX12_leftOf) (d' := 2) (As := [.int a4]) (rest := [.int (vX12_leftOf s a5)]) (P := (fun zv9 wm9 => (vX12_leftOf s a4) = zv9 ∧ s = wm9)) dX12_fullest_62 cvX12_297 okX12_leftOf rfl (Nat.le_of_ble_eq_true rfl) BS_248 (Nat.le_of_ble_eq_true rfl) (Nat.le_of_ble_eq_true rfl) hci_12 (Nat.le_of_ble_eq_true rfl) (Nat.le_of_ble_eq_true rfl) (pX12_leftOf  (a4) o3 ⟨rfl, rfl⟩) (fun zv9 wm9 hq9 => ?_)
        obtain ⟨rfl, rfl⟩ := hq9
        refine JT_icmp_ge (tgt := 72) dX12_fullest_65 (by decide) (fun hc2 => ?_) (fun hc2 => ?_)
        · have h := h.1 hc2
          refine JT_iinc (q := 5) (v := (a5 + 1)) (lv' := [(5, .int (a5 + 1)), (0, .ref 248), (1, .int a1), (2, .int a2), (3, .int a3), (4, .int a4)]) dX12_fullest_72 rfl (by rfl) (Nat.le_of_ble_eq_true rfl) rfl ?_
          refine JT_goto (tgt := 28) dX12_fullest_75 (by decide) ?_
          exact JT_sub [1, 2, 3, 4, 5, 0] rfl h
        · have h := h.2 hc2
          refine JT_iload (q := 5) dX12_fullest_68 rfl ?_
          refine JT_istore (lv' := [(4, .int a5), (0, .ref 248), (1, .int a1), (2, .int a2), (3, .int a3), (5, .int a5)]) dX12_fullest_70 (Nat.le_of_ble_eq_true rfl) rfl ?_
          refine JT_iinc (q := 5) (v := (a5 + 1)) (lv' := [(5, .int (a5 + 1)), (4, .int a5), (0, .ref 248), (1, .int a1), (2, .int a2), (3, .int a3)]) dX12_fullest_72 rfl (by rfl) (Nat.le_of_ble_eq_true rfl) rfl ?_
          refine JT_goto (tgt := 28) dX12_fullest_75 (by decide) ?_
          exact JT_sub [2, 3, 4, 5, 1, 0] rfl h
set_option maxRecDepth 1000000 in
theorem bX12_fullest (a1 : Int32) {s : SM} {Q : Int32 → SM → Prop} (h : ((0 ≤ a1 → BI MX12_fullest 3 18 [(0, .ref 248), (1, .int a1), (2, .int (vX12_living (pI s 248 0 (0 : Int32)) )), (3, .int (0 : Int32))] (pI s 248 0 (0 : Int32)) Q) ∧ (¬ 0 ≤ a1 → Q (-1 : Int32) (pI s 248 0 (0 : Int32))))) : KI MX12_fullest 3 [.ref 248, .int a1] s Q := by
  show BI MX12_fullest 3 0 [(0, .ref 248), (1, .int a1)] s Q
  refine JT_aload_n (q := 0) dX12_fullest_0 rfl rfl ?_
  refine JT_iconst (v := 0) dX12_fullest_1 ic_0 ?_
  refine JS_putI dX12_fullest_2 flX12_1 BS_248 (Nat.le_of_ble_eq_true rfl) (Nat.le_of_ble_eq_true rfl) ct_12_0 ?_
  refine JT_iload_n (q := 1) dX12_fullest_5 rfl rfl ?_
  refine JT_if_ge (tgt := 11) dX12_fullest_6 (by decide) (fun hc2 => ?_) (fun hc2 => ?_)
  · have h := h.1 hc2
    refine JT_aload_n (q := 0) dX12_fullest_11 rfl rfl ?_
    refine JS_callVI (M' := MX12_living) (d' := 0) (As := []) (rest := []) (P := (fun zv9 wm9 => (vX12_living (pI s 248 0 (0 : Int32)) ) = zv9 ∧ (pI s 248 0 (0 : Int32)) = wm9)) dX12_fullest_12 cvX12_309 okX12_living rfl (Nat.le_of_ble_eq_true rfl) BS_248 (Nat.le_of_ble_eq_true rfl) (Nat.le_of_ble_eq_true rfl) hci_12 (Nat.le_of_ble_eq_true rfl) (Nat.le_of_ble_eq_true rfl) (pX12_living    ⟨rfl, rfl⟩) (fun zv9 wm9 hq9 => ?_)
    obtain ⟨rfl, rfl⟩ := hq9
    refine JT_istore_n (lv' := [(2, .int (vX12_living (pI s 248 0 (0 : Int32)) )), (0, .ref 248), (1, .int a1)]) dX12_fullest_15 rfl (Nat.le_of_ble_eq_true rfl) rfl ?_
    refine JT_iconst (v := 0) dX12_fullest_16 ic_0 ?_
    refine JT_istore_n (lv' := [(3, .int (0 : Int32)), (2, .int (vX12_living (pI s 248 0 (0 : Int32)) )), (0, .ref 248), (1, .int a1)]) dX12_fullest_17 rfl (Nat.le_of_ble_eq_true rfl) rfl ?_
    exact JT_sub [2, 3, 1, 0] rfl h
  · have h := h.2 hc2
    refine JT_iconst (v := -1) dX12_fullest_9 ic_m1 ?_
    exact JS_iret dX12_fullest_10 rfl rfl h
set_option maxRecDepth 1000000 in
theorem gX12_fullest  : ∀ n : Nat, (∀ (a1 : Int32) (a2 : Int32) (a3 : Int32) (s : SM) (Q : Int32 → SM → Prop), ((qX12_fullest n).1 s a1 a2 a3) → Q ((lX12_fullest n).1 s a1 a2 a3).1 ((lX12_fullest n).1 s a1 a2 a3).2 → BI MX12_fullest 3 18 [(0, .ref 248), (1, .int a1), (2, .int a2), (3, .int a3)] s Q) ∧ (∀ (a1 : Int32) (a2 : Int32) (a3 : Int32) (a4 : Int32) (a5 : Int32) (s : SM) (Q : Int32 → SM → Prop), ((qX12_fullest n).2 s a1 a2 a3 a4 a5) → Q ((lX12_fullest n).2 s a1 a2 a3 a4 a5).1 ((lX12_fullest n).2 s a1 a2 a3 a4 a5).2 → BI MX12_fullest 3 28 [(0, .ref 248), (1, .int a1), (2, .int a2), (3, .int a3), (4, .int a4), (5, .int a5)] s Q) := by
  intro n
  induction n with
  | zero => exact ⟨fun _ _ _ _ _ hq _ => absurd hq id, fun _ _ _ _ _ _ _ hq _ => absurd hq id⟩
  | succ n ih =>
    refine ⟨?_, ?_⟩
    · intro a1 a2 a3 s Q hr h
      replace hr : uX12_fullest_18 (qX12_fullest n) s a1 a2 a3 := hr
      replace h : Q (tX12_fullest_18 (lX12_fullest n) s a1 a2 a3).1 (tX12_fullest_18 (lX12_fullest n) s a1 a2 a3).2 := h
      unfold uX12_fullest_18 at hr
      unfold tX12_fullest_18 at h
      refine bX12_fullest_18 a1 a2 a3 ?_
      refine ⟨fun c => ?_, fun c => ?_⟩
      · replace h := q3p c h
        first | exact h | contradiction
      · replace hr := hr c
        replace h := q3n c h
        first | exact ih.2 a1 a2 a3 (-1 : Int32) (0 : Int32) _ Q hr h | contradiction
    · intro a1 a2 a3 a4 a5 s Q hr h
      replace hr : uX12_fullest_28 (qX12_fullest n) s a1 a2 a3 a4 a5 := hr
      replace h : Q (tX12_fullest_28 (lX12_fullest n) s a1 a2 a3 a4 a5).1 (tX12_fullest_28 (lX12_fullest n) s a1 a2 a3 a4 a5).2 := h
      unfold uX12_fullest_28 at hr
      unfold tX12_fullest_28 at h
      refine bX12_fullest_28 a1 a2 a3 a4 a5 ?_
      refine ⟨fun c => ?_, fun c => ?_⟩
      · replace hr := hr.1 c
        replace h := q3p c h
        refine ⟨fun c => ?_, fun c => ?_⟩
        · replace hr := hr c
          replace h := q3n c h
          first | exact ih.1 a1 (a2 &&& (((1 : Int32) <<< (a4 &&& 31)) ^^^ (-1 : Int32))) (a3 + 1) _ Q hr h | contradiction
        · replace h := q3p c h
          first | exact h | contradiction
      · replace hr := hr.2 c
        replace h := q3n c h
        refine ⟨fun c => ?_, fun c => ?_⟩
        · replace hr := hr.1 c
          replace h := q3p c h
          first | exact ih.2 a1 a2 a3 a4 (a5 + 1) _ Q hr h | contradiction
        · replace hr := hr.2 c
          replace h := q3n c h
          refine ⟨fun c => ?_, fun c => ?_⟩
          · replace hr := hr.1 c
            replace h := q3p c h
            first | exact ih.2 a1 a2 a3 a5 (a5 + 1) _ Q hr h | contradiction
          · replace hr := hr.2 c
            replace h := q3n c h
            refine ⟨hr.1, ?_⟩
            replace hr := hr.2
            refine ⟨hr.1, ?_⟩
            replace hr := hr.2
            refine ⟨fun c => ?_, fun c => ?_⟩
            · replace hr := hr.1 c
              replace h := q3p c h
              first | exact ih.2 a1 a2 a3 a4 (a5 + 1) _ Q hr h | contradiction
            · replace hr := hr.2 c
              replace h := q3n c h
              first | exact ih.2 a1 a2 a3 a5 (a5 + 1) _ Q hr h | contradiction
set_option maxRecDepth 1000000 in
theorem pX12_fullest (a1 : Int32) {s : SM} {Q : Int32 → SM → Prop} (hr : rX12_fullest s a1) (h : Q (vX12_fullest s a1) (mX12_fullest s a1)) : KI MX12_fullest 3 [.ref 248, .int a1] s Q := by
  replace h : Q (fX12_fullest s a1).1 (fX12_fullest s a1).2 := h
  unfold rX12_fullest at hr
  unfold fX12_fullest at h
  refine bX12_fullest a1 ?_
  refine ⟨fun c => ?_, fun c => ?_⟩
  · replace hr := hr c
    replace h := q3p c h
    first | exact (gX12_fullest  FU).1 a1 (vX12_living (pI s 248 0 (0 : Int32)) ) (0 : Int32) _ Q hr h | contradiction
  · replace h := q3n c h
    first | exact h | contradiction
set_option maxRecDepth 1000000 in
theorem bX12_greatest_7 (a1 : Int32) (a2 : Int32) {s : SM} {Q : Int32 → SM → Prop} (h : (((gI s 250 ((34 : Int32)).toNatClampNeg) ≤ a2 → Q (-1 : Int32) s) ∧ (¬ (gI s 250 ((34 : Int32)).toNatClampNeg) ≤ a2 → rX12_isOpen s a2 ∧ ((¬ (vX12_isOpen s a2) = 0 → BI MX12_greatest 3 34 [(0, .ref 248), (1, .int a1), (2, .int a2), (3, .int (0 : Int32)), (4, .int (0 : Int32))] s Q) ∧ ((vX12_isOpen s a2) = 0 → BI MX12_greatest 3 7 [(0, .ref 248), (1, .int a1), (2, .int (a2 + 1))] s Q))))) : BI MX12_greatest 3 7 [(0, .ref 248), (1, .int a1), (2, .int a2)] s Q := by
  refine JT_iload_n (q := 2) dX12_greatest_7 rfl rfl ?_
  refine JT_aload_n (q := 0) dX12_greatest_8 rfl rfl ?_
  refine JS_getR (x := 250) dX12_greatest_9 flX12_33 BS_248 (Nat.le_of_ble_eq_true rfl) (Nat.le_of_ble_eq_true rfl) (Or.inr ⟨_, ct_12_6⟩) RF_248_6 ?_
  refine JT_bipush (v := 34) dX12_greatest_12 bp_34 ?_
  refine JS_iald dX12_greatest_14 BS_250 (Nat.le_of_ble_eq_true rfl) (Nat.le_of_ble_eq_true rfl) (by unfold vp_in; decide) ?_
  refine JT_icmp_ge (tgt := 116) dX12_greatest_15 (by decide) (fun hc3 => ?_) (fun hc3 => ?_)
  · have h := h.1 hc3
    refine JT_iconst (v := -1) dX12_greatest_116 ic_m1 ?_
    exact JS_iret dX12_greatest_117 rfl rfl h
  · have h := h.2 hc3
    refine JT_aload_n (q := 0) dX12_greatest_18 rfl rfl ?_
    refine JT_iload_n (q := 2) dX12_greatest_19 rfl rfl ?_
    obtain ⟨o2, h⟩ := h
    refine JS_callVI (M' := MX12_isOpen) (d' := 2) (As := [.int a2]) (rest := []) (P := (fun zv9 wm9 => (vX12_isOpen s a2) = zv9 ∧ s = wm9)) dX12_greatest_20 cvX12_278 okX12_isOpen rfl (Nat.le_of_ble_eq_true rfl) BS_248 (Nat.le_of_ble_eq_true rfl) (Nat.le_of_ble_eq_true rfl) hci_12 (Nat.le_of_ble_eq_true rfl) (Nat.le_of_ble_eq_true rfl) (pX12_isOpen  (a2) o2 ⟨rfl, rfl⟩) (fun zv9 wm9 hq9 => ?_)
    obtain ⟨rfl, rfl⟩ := hq9
    refine JT_if_ne (tgt := 29) dX12_greatest_23 (by decide) (fun hc1 => ?_) (fun hc1 => ?_)
    · have h := h.1 hc1
      refine JT_iconst (v := 0) dX12_greatest_29 ic_0 ?_
      refine JT_istore_n (lv' := [(3, .int (0 : Int32)), (0, .ref 248), (1, .int a1), (2, .int a2)]) dX12_greatest_30 rfl (Nat.le_of_ble_eq_true rfl) rfl ?_
      refine JT_iconst (v := 0) dX12_greatest_31 ic_0 ?_
      refine JT_istore (lv' := [(4, .int (0 : Int32)), (3, .int (0 : Int32)), (0, .ref 248), (1, .int a1), (2, .int a2)]) dX12_greatest_32 (Nat.le_of_ble_eq_true rfl) rfl ?_
      exact JT_sub [2, 3, 4, 1, 0] rfl h
    · have h := h.2 hc1
      refine JT_goto (tgt := 110) dX12_greatest_26 (by decide) ?_
      refine JT_iinc (q := 2) (v := (a2 + 1)) (lv' := [(2, .int (a2 + 1)), (0, .ref 248), (1, .int a1)]) dX12_greatest_110 rfl (by rfl) (Nat.le_of_ble_eq_true rfl) rfl ?_
      refine JT_goto (tgt := 7) dX12_greatest_113 (by decide) ?_
      exact JT_sub [1, 2, 0] rfl h
set_option maxRecDepth 1000000 in
theorem bX12_greatest_34 (a1 : Int32) (a2 : Int32) (a3 : Int32) (a4 : Int32) {s : SM} {Q : Int32 → SM → Prop} (h : (((gI s 250 ((34 : Int32)).toNatClampNeg) ≤ a4 → ((¬ a3 = a1 → BI MX12_greatest 3 7 [(0, .ref 248), (1, .int a1), (2, .int (a2 + 1))] s Q) ∧ (a3 = a1 → Q a2 s))) ∧ (¬ (gI s 250 ((34 : Int32)).toNatClampNeg) ≤ a4 → rX12_isOpen s a4 ∧ (((vX12_isOpen s a4) = 0 → BI MX12_greatest 3 34 [(0, .ref 248), (1, .int a1), (2, .int a2), (3, .int (a3 + (0 : Int32))), (4, .int (a4 + 1))] s Q) ∧ (¬ (vX12_isOpen s a4) = 0 → rX12_valueOf s a4 ∧ rX12_valueOf s a2 ∧ (((vX12_valueOf s a2) < (vX12_valueOf s a4) → BI MX12_greatest 3 34 [(0, .ref 248), (1, .int a1), (2, .int a2), (3, .int (a3 + (1 : Int32))), (4, .int (a4 + 1))] s Q) ∧ (¬ (vX12_valueOf s a2) < (vX12_valueOf s a4) → rX12_valueOf s a4 ∧ rX12_valueOf s a2 ∧ BI MX12_greatest 3 34 [(0, .ref 248), (1, .int a1), (2, .int a2), (3, .int (a3 + (if (vX12_valueOf s a4) = (vX12_valueOf s a2) then (if a2 ≤ a4 then (0 : Int32) else (1 : Int32)) else (0 : Int32)))), (4, .int (a4 + 1))] s Q))))))) : BI MX12_greatest 3 34 [(0, .ref 248), (1, .int a1), (2, .int a2), (3, .int a3), (4, .int a4)] s Q := by
  refine JT_iload (q := 4) dX12_greatest_34 rfl ?_
  refine JT_aload_n (q := 0) dX12_greatest_36 rfl rfl ?_
  refine JS_getR (x := 250) dX12_greatest_37 flX12_33 BS_248 (Nat.le_of_ble_eq_true rfl) (Nat.le_of_ble_eq_true rfl) (Or.inr ⟨_, ct_12_6⟩) RF_248_6 ?_
  refine JT_bipush (v := 34) dX12_greatest_40 bp_34 ?_
  refine JS_iald dX12_greatest_42 BS_250 (Nat.le_of_ble_eq_true rfl) (Nat.le_of_ble_eq_true rfl) (by unfold vp_in; decide) ?_
  refine JT_icmp_ge (tgt := 103) dX12_greatest_43 (by decide) (fun hc12 => ?_) (fun hc12 => ?_)
  · have h := h.1 hc12
    refine JT_iload_n (q := 3) dX12_greatest_103 rfl rfl ?_
    refine JT_iload_n (q := 1) dX12_greatest_104 rfl rfl ?_
    refine JT_icmp_ne (tgt := 110) dX12_greatest_105 (by decide) (fun hc1 => ?_) (fun hc1 => ?_)
    · have h := h.1 hc1
      refine JT_iinc (q := 2) (v := (a2 + 1)) (lv' := [(2, .int (a2 + 1)), (0, .ref 248), (1, .int a1), (3, .int a3), (4, .int a4)]) dX12_greatest_110 rfl (by rfl) (Nat.le_of_ble_eq_true rfl) rfl ?_
      refine JT_goto (tgt := 7) dX12_greatest_113 (by decide) ?_
      exact JT_sub [1, 2, 0] rfl h
    · have h := h.2 hc1
      refine JT_iload_n (q := 2) dX12_greatest_108 rfl rfl ?_
      exact JS_iret dX12_greatest_109 rfl rfl h
  · have h := h.2 hc12
    refine JT_iload_n (q := 3) dX12_greatest_46 rfl rfl ?_
    refine JT_aload_n (q := 0) dX12_greatest_47 rfl rfl ?_
    refine JT_iload (q := 4) dX12_greatest_48 rfl ?_
    obtain ⟨o11, h⟩ := h
    refine JS_callVI (M' := MX12_isOpen) (d' := 2) (As := [.int a4]) (rest := [.int a3]) (P := (fun zv9 wm9 => (vX12_isOpen s a4) = zv9 ∧ s = wm9)) dX12_greatest_50 cvX12_278 okX12_isOpen rfl (Nat.le_of_ble_eq_true rfl) BS_248 (Nat.le_of_ble_eq_true rfl) (Nat.le_of_ble_eq_true rfl) hci_12 (Nat.le_of_ble_eq_true rfl) (Nat.le_of_ble_eq_true rfl) (pX12_isOpen  (a4) o11 ⟨rfl, rfl⟩) (fun zv9 wm9 hq9 => ?_)
    obtain ⟨rfl, rfl⟩ := hq9
    refine JT_if_eq (tgt := 94) dX12_greatest_53 (by decide) (fun hc10 => ?_) (fun hc10 => ?_)
    · have h := h.1 hc10
      refine JT_iconst (v := 0) dX12_greatest_94 ic_0 ?_
      refine JT_iadd dX12_greatest_95 ?_
      refine JT_istore_n (lv' := [(3, .int (a3 + (0 : Int32))), (0, .ref 248), (1, .int a1), (2, .int a2), (4, .int a4)]) dX12_greatest_96 rfl (Nat.le_of_ble_eq_true rfl) rfl ?_
      refine JT_iinc (q := 4) (v := (a4 + 1)) (lv' := [(4, .int (a4 + 1)), (3, .int (a3 + (0 : Int32))), (0, .ref 248), (1, .int a1), (2, .int a2)]) dX12_greatest_97 rfl (by rfl) (Nat.le_of_ble_eq_true rfl) rfl ?_
      refine JT_goto (tgt := 34) dX12_greatest_100 (by decide) ?_
      exact JT_sub [2, 3, 4, 1, 0] rfl h
    · have h := h.2 hc10
      refine JT_aload_n (q := 0) dX12_greatest_56 rfl rfl ?_
      refine JT_iload (q := 4) dX12_greatest_57 rfl ?_
      obtain ⟨o9, h⟩ := h
      refine JS_callVI (M' := MX12_valueOf) (d' := 2) (As := [.int a4]) (rest := [.int a3]) (P := (fun zv9 wm9 => (vX12_valueOf s a4) = zv9 ∧ s = wm9)) dX12_greatest_59 cvX12_281 okX12_valueOf rfl (Nat.le_of_ble_eq_true rfl) BS_248 (Nat.le_of_ble_eq_true rfl) (Nat.le_of_ble_eq_true rfl) hci_12 (Nat.le_of_ble_eq_true rfl) (Nat.le_of_ble_eq_true rfl) (pX12_valueOf  (a4) o9 ⟨rfl, rfl⟩) (fun zv9 wm9 hq9 => ?_)
      obtain ⟨rfl, rfl⟩ := hq9
      refine JT_aload_n (q := 0) dX12_greatest_62 rfl rfl ?_
      refine JT_iload_n (q := 2) dX12_greatest_63 rfl rfl ?_
      obtain ⟨o8, h⟩ := h
      refine JS_callVI (M' := MX12_valueOf) (d' := 2) (As := [.int a2]) (rest := [.int (vX12_valueOf s a4), .int a3]) (P := (fun zv9 wm9 => (vX12_valueOf s a2) = zv9 ∧ s = wm9)) dX12_greatest_64 cvX12_281 okX12_valueOf rfl (Nat.le_of_ble_eq_true rfl) BS_248 (Nat.le_of_ble_eq_true rfl) (Nat.le_of_ble_eq_true rfl) hci_12 (Nat.le_of_ble_eq_true rfl) (Nat.le_of_ble_eq_true rfl) (pX12_valueOf  (a2) o8 ⟨rfl, rfl⟩) (fun zv9 wm9 hq9 => ?_)
      obtain ⟨rfl, rfl⟩ := hq9
      refine JT_icmp_gt (tgt := 90) dX12_greatest_67 (by decide) (fun hc7 => ?_) (fun hc7 => ?_)
      · have h := h.1 hc7
        refine JT_iconst (v := 1) dX12_greatest_90 ic_1 ?_
        refine JT_goto (tgt := 95) dX12_greatest_91 (by decide) ?_
        refine JT_iadd dX12_greatest_95 ?_
        refine JT_istore_n (lv' := [(3, .int (a3 + (1 : Int32))), (0, .ref 248), (1, .int a1), (2, .int a2), (4, .int a4)]) dX12_greatest_96 rfl (Nat.le_of_ble_eq_true rfl) rfl ?_
        refine JT_iinc (q := 4) (v := (a4 + 1)) (lv' := [(4, .int (a4 + 1)), (3, .int (a3 + (1 : Int32))), (0, .ref 248), (1, .int a1), (2, .int a2)]) dX12_greatest_97 rfl (by rfl) (Nat.le_of_ble_eq_true rfl) rfl ?_
        refine JT_goto (tgt := 34) dX12_greatest_100 (by decide) ?_
        exact JT_sub [2, 3, 4, 1, 0] rfl h
      · have h := h.2 hc7
        refine JT_aload_n (q := 0) dX12_greatest_70 rfl rfl ?_
        refine JT_iload (q := 4) dX12_greatest_71 rfl ?_
        obtain ⟨o6, h⟩ := h
        refine JS_callVI (M' := MX12_valueOf) (d' := 2) (As := [.int a4]) (rest := [.int a3]) (P := (fun zv9 wm9 => (vX12_valueOf s a4) = zv9 ∧ s = wm9)) dX12_greatest_73 cvX12_281 okX12_valueOf rfl (Nat.le_of_ble_eq_true rfl) BS_248 (Nat.le_of_ble_eq_true rfl) (Nat.le_of_ble_eq_true rfl) hci_12 (Nat.le_of_ble_eq_true rfl) (Nat.le_of_ble_eq_true rfl) (pX12_valueOf  (a4) o6 ⟨rfl, rfl⟩) (fun zv9 wm9 hq9 => ?_)
        obtain ⟨rfl, rfl⟩ := hq9
        refine JT_aload_n (q := 0) dX12_greatest_76 rfl rfl ?_
        refine JT_iload_n (q := 2) dX12_greatest_77 rfl rfl ?_
        obtain ⟨o5, h⟩ := h
        refine JS_callVI (M' := MX12_valueOf) (d' := 2) (As := [.int a2]) (rest := [.int (vX12_valueOf s a4), .int a3]) (P := (fun zv9 wm9 => (vX12_valueOf s a2) = zv9 ∧ s = wm9)) dX12_greatest_78 cvX12_281 okX12_valueOf rfl (Nat.le_of_ble_eq_true rfl) BS_248 (Nat.le_of_ble_eq_true rfl) (Nat.le_of_ble_eq_true rfl) hci_12 (Nat.le_of_ble_eq_true rfl) (Nat.le_of_ble_eq_true rfl) (pX12_valueOf  (a2) o5 ⟨rfl, rfl⟩) (fun zv9 wm9 hq9 => ?_)
        obtain ⟨rfl, rfl⟩ := hq9
        have hj2 : ∀ v : Int32, v = (if (vX12_valueOf s a4) = (vX12_valueOf s a2) then (if a2 ≤ a4 then (0 : Int32) else (1 : Int32)) else (0 : Int32)) → JT MX12_greatest 3 0 0 95 [(0, .ref 248), (1, .int a1), (2, .int a2), (3, .int a3), (4, .int a4)] [.int v, .int a3] (std s) (KQ Q) := by
          intro v hv
          subst hv
          refine JT_iadd dX12_greatest_95 ?_
          refine JT_istore_n (lv' := [(3, .int (a3 + (if (vX12_valueOf s a4) = (vX12_valueOf s a2) then (if a2 ≤ a4 then (0 : Int32) else (1 : Int32)) else (0 : Int32)))), (0, .ref 248), (1, .int a1), (2, .int a2), (4, .int a4)]) dX12_greatest_96 rfl (Nat.le_of_ble_eq_true rfl) rfl ?_
          refine JT_iinc (q := 4) (v := (a4 + 1)) (lv' := [(4, .int (a4 + 1)), (3, .int (a3 + (if (vX12_valueOf s a4) = (vX12_valueOf s a2) then (if a2 ≤ a4 then (0 : Int32) else (1 : Int32)) else (0 : Int32)))), (0, .ref 248), (1, .int a1), (2, .int a2)]) dX12_greatest_97 rfl (by rfl) (Nat.le_of_ble_eq_true rfl) rfl ?_
          refine JT_goto (tgt := 34) dX12_greatest_100 (by decide) ?_
          exact JT_sub [2, 3, 4, 1, 0] rfl h
        refine JT_icmp_ne (tgt := 94) dX12_greatest_81 (by decide) (fun hc3 => ?_) (fun hc3 => ?_)
        · refine JT_iconst (v := 0) dX12_greatest_94 ic_0 ?_
          exact hj2 _ (by rw [if_neg hc3])
        · refine JT_iload (q := 4) dX12_greatest_84 rfl ?_
          refine JT_iload_n (q := 2) dX12_greatest_86 rfl rfl ?_
          refine JT_icmp_ge (tgt := 94) dX12_greatest_87 (by decide) (fun hc4 => ?_) (fun hc4 => ?_)
          · refine JT_iconst (v := 0) dX12_greatest_94 ic_0 ?_
            exact hj2 _ (by rw [if_pos hc3, if_pos hc4])
          · refine JT_iconst (v := 1) dX12_greatest_90 ic_1 ?_
            refine JT_goto (tgt := 95) dX12_greatest_91 (by decide) ?_
            exact hj2 _ (by rw [if_pos hc3, if_neg hc4])
set_option maxRecDepth 1000000 in
theorem bX12_greatest (a1 : Int32) {s : SM} {Q : Int32 → SM → Prop} (h : BI MX12_greatest 3 7 [(0, .ref 248), (1, .int a1), (2, .int (0 : Int32))] (pI s 248 0 (0 : Int32)) Q) : KI MX12_greatest 3 [.ref 248, .int a1] s Q := by
  show BI MX12_greatest 3 0 [(0, .ref 248), (1, .int a1)] s Q
  refine JT_aload_n (q := 0) dX12_greatest_0 rfl rfl ?_
  refine JT_iconst (v := 0) dX12_greatest_1 ic_0 ?_
  refine JS_putI dX12_greatest_2 flX12_1 BS_248 (Nat.le_of_ble_eq_true rfl) (Nat.le_of_ble_eq_true rfl) ct_12_0 ?_
  refine JT_iconst (v := 0) dX12_greatest_5 ic_0 ?_
  refine JT_istore_n (lv' := [(2, .int (0 : Int32)), (0, .ref 248), (1, .int a1)]) dX12_greatest_6 rfl (Nat.le_of_ble_eq_true rfl) rfl ?_
  exact JT_sub [1, 2, 0] rfl h
set_option maxRecDepth 1000000 in
theorem gX12_greatest  : ∀ n : Nat, (∀ (a1 : Int32) (a2 : Int32) (s : SM) (Q : Int32 → SM → Prop), ((qX12_greatest n).1 s a1 a2) → Q ((lX12_greatest n).1 s a1 a2).1 ((lX12_greatest n).1 s a1 a2).2 → BI MX12_greatest 3 7 [(0, .ref 248), (1, .int a1), (2, .int a2)] s Q) ∧ (∀ (a1 : Int32) (a2 : Int32) (a3 : Int32) (a4 : Int32) (s : SM) (Q : Int32 → SM → Prop), ((qX12_greatest n).2 s a1 a2 a3 a4) → Q ((lX12_greatest n).2 s a1 a2 a3 a4).1 ((lX12_greatest n).2 s a1 a2 a3 a4).2 → BI MX12_greatest 3 34 [(0, .ref 248), (1, .int a1), (2, .int a2), (3, .int a3), (4, .int a4)] s Q) := by
  intro n
  induction n with
  | zero => exact ⟨fun _ _ _ _ hq _ => absurd hq id, fun _ _ _ _ _ _ hq _ => absurd hq id⟩
  | succ n ih =>
    refine ⟨?_, ?_⟩
    · intro a1 a2 s Q hr h
      replace hr : uX12_greatest_7 (qX12_greatest n) s a1 a2 := hr
      replace h : Q (tX12_greatest_7 (lX12_greatest n) s a1 a2).1 (tX12_greatest_7 (lX12_greatest n) s a1 a2).2 := h
      unfold uX12_greatest_7 at hr
      unfold tX12_greatest_7 at h
      refine bX12_greatest_7 a1 a2 ?_
      refine ⟨fun c => ?_, fun c => ?_⟩
      · replace h := q3p c h
        first | exact h | contradiction
      · replace hr := hr c
        replace h := q3n c h
        refine ⟨hr.1, ?_⟩
        replace hr := hr.2
        refine ⟨fun c => ?_, fun c => ?_⟩
        · replace hr := hr.1 c
          replace h := q3n c h
          first | exact ih.2 a1 a2 (0 : Int32) (0 : Int32) _ Q hr h | contradiction
        · replace hr := hr.2 c
          replace h := q3p c h
          first | exact ih.1 a1 (a2 + 1) _ Q hr h | contradiction
    · intro a1 a2 a3 a4 s Q hr h
      replace hr : uX12_greatest_34 (qX12_greatest n) s a1 a2 a3 a4 := hr
      replace h : Q (tX12_greatest_34 (lX12_greatest n) s a1 a2 a3 a4).1 (tX12_greatest_34 (lX12_greatest n) s a1 a2 a3 a4).2 := h
      unfold uX12_greatest_34 at hr
      unfold tX12_greatest_34 at h
      refine bX12_greatest_34 a1 a2 a3 a4 ?_
      refine ⟨fun c => ?_, fun c => ?_⟩
      · replace hr := hr.1 c
        replace h := q3p c h
        refine ⟨fun c => ?_, fun c => ?_⟩
        · replace hr := hr c
          replace h := q3n c h
          first | exact ih.1 a1 (a2 + 1) _ Q hr h | contradiction
        · replace h := q3p c h
          first | exact h | contradiction
      · replace hr := hr.2 c
        replace h := q3n c h
        refine ⟨hr.1, ?_⟩
        replace hr := hr.2
        refine ⟨fun c => ?_, fun c => ?_⟩
        · replace hr := hr.1 c
          replace h := q3p c h
          first | exact ih.2 a1 a2 (a3 + (0 : Int32)) (a4 + 1) _ Q hr h | contradiction
        · replace hr := hr.2 c
          replace h := q3n c h
          refine ⟨hr.1, ?_⟩
          replace hr := hr.2
          refine ⟨hr.1, ?_⟩
          replace hr := hr.2
          refine ⟨fun c => ?_, fun c => ?_⟩
          · replace hr := hr.1 c
            replace h := q3p c h
            first | exact ih.2 a1 a2 (a3 + (1 : Int32)) (a4 + 1) _ Q hr h | contradiction
          · replace hr := hr.2 c
            replace h := q3n c h
            refine ⟨hr.1, ?_⟩
            replace hr := hr.2
            refine ⟨hr.1, ?_⟩
            replace hr := hr.2
            first | exact ih.2 a1 a2 (a3 + (if (vX12_valueOf s a4) = (vX12_valueOf s a2) then (if a2 ≤ a4 then (0 : Int32) else (1 : Int32)) else (0 : Int32))) (a4 + 1) _ Q hr h | contradiction
set_option maxRecDepth 1000000 in
theorem pX12_greatest (a1 : Int32) {s : SM} {Q : Int32 → SM → Prop} (hr : rX12_greatest s a1) (h : Q (vX12_greatest s a1) (mX12_greatest s a1)) : KI MX12_greatest 3 [.ref 248, .int a1] s Q := by
  replace h : Q (fX12_greatest s a1).1 (fX12_greatest s a1).2 := h
  unfold rX12_greatest at hr
  unfold fX12_greatest at h
  refine bX12_greatest a1 ?_
  first | exact (gX12_greatest  FU).1 a1 (0 : Int32) _ Q hr h | contradiction
set_option maxRecDepth 1000000 in
theorem bX12_isLost (a1 : Int32) {s : SM} {Q : Int32 → SM → Prop} (h : rX12_isOpen s a1 ∧ (((vX12_isOpen s a1) = 0 → Q (0 : Int32) s) ∧ (¬ (vX12_isOpen s a1) = 0 → rX12_sortOf s a1 ∧ (((vX12_sortOf s a1) = (3 : Int32) → Q (0 : Int32) s) ∧ (¬ (vX12_sortOf s a1) = (3 : Int32) → rX12_isKnown s a1 (vX12_living s ) ∧ Q (if (vX12_isKnown s a1 (vX12_living s )) = 0 then (1 : Int32) else (0 : Int32)) s))))) : KI MX12_isLost 3 [.ref 248, .int a1] s Q := by
  show BI MX12_isLost 3 0 [(0, .ref 248), (1, .int a1)] s Q
  refine JT_aload_n (q := 0) dX12_isLost_0 rfl rfl ?_
  refine JT_iload_n (q := 1) dX12_isLost_1 rfl rfl ?_
  obtain ⟨o8, h⟩ := h
  refine JS_callVI (M' := MX12_isOpen) (d' := 2) (As := [.int a1]) (rest := []) (P := (fun zv9 wm9 => (vX12_isOpen s a1) = zv9 ∧ s = wm9)) dX12_isLost_2 cvX12_278 okX12_isOpen rfl (Nat.le_of_ble_eq_true rfl) BS_248 (Nat.le_of_ble_eq_true rfl) (Nat.le_of_ble_eq_true rfl) hci_12 (Nat.le_of_ble_eq_true rfl) (Nat.le_of_ble_eq_true rfl) (pX12_isOpen  (a1) o8 ⟨rfl, rfl⟩) (fun zv9 wm9 hq9 => ?_)
  obtain ⟨rfl, rfl⟩ := hq9
  refine JT_if_eq (tgt := 33) dX12_isLost_5 (by decide) (fun hc7 => ?_) (fun hc7 => ?_)
  · have h := h.1 hc7
    refine JT_iconst (v := 0) dX12_isLost_33 ic_0 ?_
    exact JS_iret dX12_isLost_34 rfl (n01 (Or.inl rfl)) h
  · have h := h.2 hc7
    refine JT_aload_n (q := 0) dX12_isLost_8 rfl rfl ?_
    refine JT_iload_n (q := 1) dX12_isLost_9 rfl rfl ?_
    obtain ⟨o6, h⟩ := h
    refine JS_callVI (M' := MX12_sortOf) (d' := 1) (As := [.int a1]) (rest := []) (P := (fun zv9 wm9 => (vX12_sortOf s a1) = zv9 ∧ s = wm9)) dX12_isLost_10 cvX12_272 okX12_sortOf rfl (Nat.le_of_ble_eq_true rfl) BS_248 (Nat.le_of_ble_eq_true rfl) (Nat.le_of_ble_eq_true rfl) hci_12 (Nat.le_of_ble_eq_true rfl) (Nat.le_of_ble_eq_true rfl) (pX12_sortOf  (a1) o6 ⟨rfl, rfl⟩) (fun zv9 wm9 hq9 => ?_)
    obtain ⟨rfl, rfl⟩ := hq9
    refine JT_iconst (v := 3) dX12_isLost_13 ic_3 ?_
    refine JT_icmp_eq (tgt := 33) dX12_isLost_14 (by decide) (fun hc5 => ?_) (fun hc5 => ?_)
    · have h := h.1 hc5
      refine JT_iconst (v := 0) dX12_isLost_33 ic_0 ?_
      exact JS_iret dX12_isLost_34 rfl (n01 (Or.inl rfl)) h
    · have h := h.2 hc5
      refine JT_aload_n (q := 0) dX12_isLost_17 rfl rfl ?_
      refine JT_iload_n (q := 1) dX12_isLost_18 rfl rfl ?_
      refine JT_aload_n (q := 0) dX12_isLost_19 rfl rfl ?_
      refine JS_callVI (M' := MX12_living) (d' := 0) (As := []) (rest := [.int a1, .ref 248]) (P := (fun zv9 wm9 => (vX12_living s ) = zv9 ∧ s = wm9)) dX12_isLost_20 cvX12_309 okX12_living rfl (Nat.le_of_ble_eq_true rfl) BS_248 (Nat.le_of_ble_eq_true rfl) (Nat.le_of_ble_eq_true rfl) hci_12 (Nat.le_of_ble_eq_true rfl) (Nat.le_of_ble_eq_true rfl) (pX12_living    ⟨rfl, rfl⟩) (fun zv9 wm9 hq9 => ?_)
      obtain ⟨rfl, rfl⟩ := hq9
      obtain ⟨o3, h⟩ := h
      refine JS_callVI (M' := MX12_isKnown) (d' := 2) (As := [.int a1, .int (vX12_living s )]) (rest := []) (P := (fun zv9 wm9 => (vX12_isKnown s a1 (vX12_living s )) = zv9 ∧ s = wm9)) dX12_isLost_23 cvX12_312 okX12_isKnown rfl (Nat.le_of_ble_eq_true rfl) BS_248 (Nat.le_of_ble_eq_true rfl) (Nat.le_of_ble_eq_true rfl) hci_12 (Nat.le_of_ble_eq_true rfl) (Nat.le_of_ble_eq_true rfl) (pX12_isKnown  (a1) ((vX12_living s )) o3 ⟨rfl, rfl⟩) (fun zv9 wm9 hq9 => ?_)
      obtain ⟨rfl, rfl⟩ := hq9
      have hj1 : ∀ v : Int32, v = (if (vX12_isKnown s a1 (vX12_living s )) = 0 then (1 : Int32) else (0 : Int32)) → JT MX12_isLost 3 0 0 34 [(0, .ref 248), (1, .int a1)] [.int v] (std s) (KQ Q) := by
        intro v hv
        subst hv
        exact JS_iret dX12_isLost_34 rfl (n01 (i01 (Or.inr rfl) (Or.inl rfl))) h
      refine JT_if_ne (tgt := 33) dX12_isLost_26 (by decide) (fun hc2 => ?_) (fun hc2 => ?_)
      · refine JT_iconst (v := 0) dX12_isLost_33 ic_0 ?_
        exact hj1 _ (by rw [if_neg hc2])
      · refine JT_iconst (v := 1) dX12_isLost_29 ic_1 ?_
        refine JT_goto (tgt := 34) dX12_isLost_30 (by decide) ?_
        exact hj1 _ (by rw [if_pos hc2])
set_option maxRecDepth 1000000 in
theorem zX12_isLost (s : SM) (a1 : Int32) : vX12_isLost s a1 = 0 ∨ vX12_isLost s a1 = 1 := (i01 (Or.inl rfl) (i01 (Or.inl rfl) (i01 (Or.inr rfl) (Or.inl rfl))))
set_option maxRecDepth 1000000 in
theorem pX12_isLost (a1 : Int32) {s : SM} {Q : Int32 → SM → Prop} (hr : rX12_isLost s a1) (h : Q (vX12_isLost s a1) s) : KI MX12_isLost 3 [.ref 248, .int a1] s Q := by
  refine bX12_isLost a1 ?_
  unfold rX12_isLost at hr
  unfold vX12_isLost at h
  refine ⟨hr.1, ?_⟩
  replace hr := hr.2
  refine ⟨fun c => ?_, fun c => ?_⟩
  · replace h := qlp c h
    first | exact h | contradiction
  · replace hr := hr c
    replace h := qln c h
    refine ⟨hr.1, ?_⟩
    replace hr := hr.2
    refine ⟨fun c => ?_, fun c => ?_⟩
    · replace h := qlp c h
      first | exact h | contradiction
    · replace hr := hr c
      replace h := qln c h
      refine ⟨hr, ?_⟩
      first | exact h | contradiction
